/-! Folding, on lists. -/
def foldB (G : GS) : Bool := decide (G.1.length < 26) && decide (1 < (bstAll G.2 0 0).2.2)
def foldG (G : GS) : GS := (G.1 ++ [[(bstAll G.2 0 0).1, (bstAll G.2 0 0).2.1]], fold2 (bstAll G.2 0 0).1 (bstAll G.2 0 0).2.1 (8 + (G.1.length : Int)) G.2)
def foldN : Nat → GS → GS × Nat
  | 0, G => (G, 0)
  | n + 1, G => if foldB G = true then ((foldN n (foldG G)).1, (foldN n (foldG G)).2 + 1) else (G, 0)
theorem foldG_len (G : GS) : (foldG G).1.length = G.1.length + 1 := by simp [foldG]
theorem xof_app1 {R : List (List Int)} {x : List Int} {k : Nat} (h : k < R.length) : xof (R ++ [x]) k = xof R k := by
  unfold xof
  rw [List.getD_eq_getElem?_getD, List.getD_eq_getElem?_getD, List.getElem?_append_left h]
theorem xof_app2 {R : List (List Int)} {x : List Int} : xof (R ++ [x]) R.length = x := by
  unfold xof
  rw [List.getD_eq_getElem?_getD, List.getElem?_append_right (Nat.le_refl _)]
  simp
theorem bst_mem {xs : List Int} {f s : Int} : ∀ n : Nat, n + 1 ≤ xs.length → 0 < (bst xs (f, s, 0) n).2.2 → (bst xs (f, s, 0) n).1 ∈ xs ∧ (bst xs (f, s, 0) n).2.1 ∈ xs
  | 0, _, h => by
    rw [bst] at h
    exact absurd h (Int.lt_irrefl 0)
  | n + 1, hn, h => by
    have ih := bst_mem (xs := xs) (f := f) (s := s) n (by omega)
    rw [bst] at h ⊢
    split
    · exact ⟨rat_mem (p := (n : Int)) (by omega) (by omega), rat_mem (p := ((n + 1 : Nat) : Int)) (by omega) (by omega)⟩
    · rename_i hc
      rw [if_neg hc] at h
      exact ih h
theorem bstAll_mem {xs : List Int} {f s : Int} (h : 0 < (bstAll xs f s).2.2) : (bstAll xs f s).1 ∈ xs ∧ (bstAll xs f s).2.1 ∈ xs := by
  unfold bstAll at h ⊢
  by_cases hl : xs.length = 0
  · rw [hl, Nat.zero_sub, bst] at h
    exact absurd h (Int.lt_irrefl 0)
  · exact bst_mem _ (by omega) h
theorem fold2_mem (f s c : Int) : ∀ (n : Nat) (xs : List Int), xs.length ≤ n → ∀ x ∈ fold2 f s c xs, x = c ∨ x ∈ xs
  | 0, [], _, x, hx => by simp [fold2] at hx
  | 0, y :: r, h, _, _ => by simp at h
  | n + 1, [], _, x, hx => by simp [fold2] at hx
  | n + 1, [y], _, x, hx => by
    simp [fold2] at hx
    exact Or.inr (by rw [hx]; exact List.mem_singleton.mpr rfl)
  | n + 1, y :: z :: r, h, x, hx => by
    rw [List.length_cons, List.length_cons] at h
    rw [fold2] at hx
    have h1 := fold2_mem f s c n r (by omega) x
    have h2 := fold2_mem f s c n (z :: r) (by rw [List.length_cons]; omega) x
    split at hx
    · rcases List.mem_cons.mp hx with e | e
      · exact Or.inl e
      · rcases h1 e with e | e
        · exact Or.inl e
        · exact Or.inr (List.mem_cons_of_mem _ (List.mem_cons_of_mem _ e))
    · rcases List.mem_cons.mp hx with e | e
      · exact Or.inr (List.mem_cons.mpr (Or.inl e))
      · rcases h2 e with e | e
        · exact Or.inl e
        · exact Or.inr (List.mem_cons_of_mem _ e)
theorem WFG.fold {G : GS} (h : WFG G) (hb : foldB G = true) : WFG (foldG G) := by
  obtain ⟨h1, h2, h3⟩ := h
  unfold foldB at hb
  rw [Bool.and_eq_true, decide_eq_true_eq, decide_eq_true_eq] at hb
  obtain ⟨m1, m2⟩ := bstAll_mem (xs := G.2) (f := 0) (s := 0) (by omega)
  have b1 := h2 _ m1
  have b2 := h2 _ m2
  have hl := foldG_len G
  refine ⟨?_, ?_, ?_⟩
  · rw [hl]
    intro k hk x hx
    by_cases he : k < G.1.length
    · unfold foldG at hx
      rw [xof_app1 he] at hx
      exact h1 k he x hx
    · have e : k = G.1.length := by omega
      subst e
      unfold foldG at hx
      rw [xof_app2] at hx
      rcases List.mem_cons.mp hx with e | e
      · rw [e]; exact b1
      · rw [List.mem_singleton.mp e]; exact b2
  · rw [hl]
    intro x hx
    unfold foldG at hx
    rcases fold2_mem _ _ _ _ _ (Nat.le_refl _) x hx with e | e
    · omega
    · have := h2 x e
      omega
  · rw [hl]
    intro k hk
    by_cases he : k < G.1.length
    · unfold foldG
      rw [xof_app1 he]
      exact h3 k he
    · have e : k = G.1.length := by omega
      subst e
      unfold foldG
      rw [xof_app2]
      exact Nat.le_add_left 1 1
section FO1
variable {M : PM} {g N : Nat} {p : Nat → Nat} {X : Nat → List Int} {mn : List Int} {lt dp us : Nat → Int} {W : Int}
theorem c_Gr_addRule (h : Gm M g N p X mn lt dp us W) (hN : N < 26) : Wm 31 [.ref g] M (fun v M' => v = some (.ref (p N)) ∧ Fr (inG g) M M' ∧ Gm M' g (N + 1) p (updF X N []) mn lt dp us W) := by
  have hg1 := h.obj
  obtain ⟨f, hf1, hf2⟩ := h.2.1
  obtain ⟨j, hj, ej⟩ := h.pos hN
  obtain ⟨gr, r1, r2, r3, r4⟩ := h.row hN
  have hcl := c_Row_clear (h.row hN)
  refine wm_in (lv := _) rfl rfl rfl ?_
  repeat (refine wf rfl ?_; first | refine wq_iadd ?_ | refine wq_isub ?_ | refine wq_imul ?_ | refine wq_iinc rfl ?_ | refine wq_goto ?_ | refine wq_k rfl ?_ | refine wq_b rfl rfl ?_ | refine wq_getf (by assumption) rfl ?_ | refine wq_alen (by assumption) rfl ?_)
  refine wf rfl (wq_lt ⟨by omega, by omega⟩ ⟨by omega, by omega⟩ (fun c1 => ?_) (fun c1 => by exfalso; omega))
  repeat (refine wf rfl ?_; first | refine wq_iadd ?_ | refine wq_isub ?_ | refine wq_imul ?_ | refine wq_iinc rfl ?_ | refine wq_goto ?_ | refine wq_k rfl ?_ | refine wq_b rfl rfl ?_ | refine wq_getf (by assumption) rfl ?_ | refine wq_alen (by assumption) rfl ?_)
  refine wf rfl (wq_aald hf1 rfl ⟨by omega, by omega⟩ (by omega) (by omega) (hf2 N hN) ?_)
  repeat (refine wf rfl ?_; first | refine wq_iadd ?_ | refine wq_isub ?_ | refine wq_imul ?_ | refine wq_iinc rfl ?_ | refine wq_goto ?_ | refine wq_k rfl ?_ | refine wq_b rfl rfl ?_ | refine wq_getf (by assumption) rfl ?_ | refine wq_alen (by assumption) rfl ?_)
  refine wf rfl (wq_cv rfl rfl rfl r1 (hcl.mono ?_))
  rintro v M1 ⟨rfl, hr1, f1⟩
  have h1 := h.newRow hN (f1.mono (fun q hq => Or.inl hq)) hr1
  have hg2 := h1.obj
  obtain ⟨-, -, -, hl1, hd1, hu1, -⟩ := id h1
  repeat (refine wf rfl ?_; first | refine wq_iadd ?_ | refine wq_isub ?_ | refine wq_imul ?_ | refine wq_iinc rfl ?_ | refine wq_goto ?_ | refine wq_k rfl ?_ | refine wq_b rfl rfl ?_ | refine wq_getf (by assumption) rfl ?_ | refine wq_alen (by assumption) rfl ?_)
  refine wf rfl (wq_putf hg2 rfl (fun M2 e2 f2 => ?_))
  have eN : ((N + 1 : Nat) : Int) = N + 1 := by omega
  have h2 : Gm M2 g (N + 1) p (updF X N []) mn lt dp us W := h1.upd (f2.mono (fun q hq => by omega)) (by rw [eN]; exact e2) (f2.at (by omega) hl1) (f2.at (by omega) hd1) (f2.at (by omega) hu1) (by omega)
  repeat' (refine wf rfl ?_; first | refine wq_iadd ?_ | refine wq_isub ?_ | refine wq_imul ?_ | refine wq_iinc rfl ?_ | refine wq_goto ?_ | refine wq_k rfl ?_ | refine wq_b rfl rfl ?_ | refine wq_getf (by assumption) rfl ?_ | refine wq_alen (by assumption) rfl ?_ | (refine wq_eq ⟨by omega, by omega⟩ ⟨by omega, by omega⟩ (fun _ => ?_) (fun _ => ?_) <;> try (exfalso; omega)) | (refine wq_ne ⟨by omega, by omega⟩ ⟨by omega, by omega⟩ (fun _ => ?_) (fun _ => ?_) <;> try (exfalso; omega)) | (refine wq_lt ⟨by omega, by omega⟩ ⟨by omega, by omega⟩ (fun _ => ?_) (fun _ => ?_) <;> try (exfalso; omega)) | (refine wq_ge ⟨by omega, by omega⟩ ⟨by omega, by omega⟩ (fun _ => ?_) (fun _ => ?_) <;> try (exfalso; omega)) | (refine wq_gt ⟨by omega, by omega⟩ ⟨by omega, by omega⟩ (fun _ => ?_) (fun _ => ?_) <;> try (exfalso; omega)) | (refine wq_le ⟨by omega, by omega⟩ ⟨by omega, by omega⟩ (fun _ => ?_) (fun _ => ?_) <;> try (exfalso; omega)) | (refine wq_ifeq ⟨by omega, by omega⟩ (fun _ => ?_) (fun _ => ?_) <;> try (exfalso; omega)) | (refine wq_ifne ⟨by omega, by omega⟩ (fun _ => ?_) (fun _ => ?_) <;> try (exfalso; omega)) | (refine wq_iflt ⟨by omega, by omega⟩ (fun _ => ?_) (fun _ => ?_) <;> try (exfalso; omega)) | (refine wq_ifge ⟨by omega, by omega⟩ (fun _ => ?_) (fun _ => ?_) <;> try (exfalso; omega)) | (refine wq_ifgt ⟨by omega, by omega⟩ (fun _ => ?_) (fun _ => ?_) <;> try (exfalso; omega)) | (refine wq_ifle ⟨by omega, by omega⟩ (fun _ => ?_) (fun _ => ?_) <;> try (exfalso; omega)) | refine wq_r rfl rfl rfl rfl rfl rfl ?_)
  exact ⟨rfl, (f1.mono (fun q hq => by unfold inG; omega)).tr (f2.mono (fun q hq => by unfold inG; omega)), h2⟩
end FO1
