/-! What the constructors make. -/
def Kee (P : Nat → Prop) (n s : Nat) (M M' : PM) : Prop := M'.length = M.length + n ∧ szM M' ≤ szM M + s ∧ ∀ q x, ¬ P q → M[q]? = some x → M'[q]? = some x
theorem Kee.tr {P : Nat → Prop} {n s m t : Nat} {M M1 M2 : PM} (h : Kee P n s M M1) (k : Kee P m t M1 M2) : Kee P (n + m) (s + t) M M2 := ⟨by rw [k.1, h.1]; omega, by have := h.2.1; have := k.2.1; omega, fun q x hq hx => k.2.2 q x hq (h.2.2 q x hq hx)⟩
theorem Fr.kee {P : Nat → Prop} {M M' : PM} (h : Fr P M M') : Kee P 0 0 M M' := ⟨h.1, by rw [h.2.1]; omega, fun q x hq hx => h.at hq hx⟩
theorem getA {M : PM} {x y : PC} {a : Nat} (h : M[a]? = some y) : (M ++ [x])[a]? = some y := by
  rw [List.getElem?_append_left (List.getElem?_eq_some_iff.mp h).1]
  exact h
theorem getL {M : PM} {x : PC} : (M ++ [x])[M.length]? = some x := by
  rw [List.getElem?_append_right (Nat.le_refl _), Nat.sub_self]
  rfl
theorem Kee.app {P : Nat → Prop} {M : PM} (x : PC) : Kee P 1 (szC x) M (M ++ [x]) := ⟨by rw [List.length_append]; rfl, by rw [szM_app]; omega, fun q y _ hy => getA hy⟩
theorem Kee.mono {P P' : Nat → Prop} {n s n' s' : Nat} {M M' : PM} (h : Kee P n s M M') (hn : n = n') (hs : s ≤ s') (hP : ∀ q, P q → P' q) : Kee P' n' s' M M' := ⟨by rw [h.1, hn], by have := h.2.1; omega, fun q x hq hx => h.2.2 q x (fun z => hq (hP q z)) hx⟩
theorem Kee.new {P : Nat → Prop} {n s : Nat} {M M2 : PM} {x : PC} (h : Kee (fun q => q = M.length) n s (M ++ [x]) M2) : Kee P (1 + n) (szC x + s) M M2 := by
  obtain ⟨h1, h2, h3⟩ := h
  rw [List.length_append] at h1
  rw [szM_app] at h2
  refine ⟨by rw [h1]; simp; omega, by omega, fun q y _ hy => h3 q y ?_ (getA hy)⟩
  have := (List.getElem?_eq_some_iff.mp hy).1
  omega
theorem Kee.at {P : Nat → Prop} {n s : Nat} {M M' : PM} (h : Kee P n s M M') {a : Nat} (ha : ¬ P a) {x : PC} (hM : M[a]? = some x) : M'[a]? = some x := h.2.2 a x ha hM
section KEE
variable {P : Nat → Prop} {n s : Nat} {M M' : PM}
theorem Rw.kee {a : Nat} {xs : List Int} (h : Rw M a xs) (k : Kee P n s M M') (h1 : ¬ P a) (h2 : ¬ P (a + 1)) : Rw M' a xs := by
  obtain ⟨g, q1, q2, q3⟩ := h
  exact ⟨g, k.at h1 q1, k.at h2 q2, q3⟩
theorem Gm.kee {g N : Nat} {p : Nat → Nat} {X : Nat → List Int} {mn : List Int} {lt dp us : Nat → Int} {W : Int} (h : Gm M g N p X mn lt dp us W) (f : Kee P n s M M') (hP : ∀ q, g ≤ q → q < g + 59 → ¬ P q) : Gm M' g N p X mn lt dp us W := by
  obtain ⟨q1, ⟨ff, q2, q3⟩, q4, q5, q6, q7, q8, q9, q10, q11⟩ := h
  refine ⟨f.at (hP _ (by omega) (by omega)) q1, ⟨ff, f.at (hP _ (by omega) (by omega)) q2, q3⟩, q4.kee f (hP _ (by omega) (by omega)) (hP _ (by omega) (by omega)), f.at (hP _ (by omega) (by omega)) q5, f.at (hP _ (by omega) (by omega)) q6, f.at (hP _ (by omega) (by omega)) q7, fun k hk => ?_, q9, q10, q11⟩
  obtain ⟨j, hj, e⟩ := q9 k hk
  exact (q8 k hk).kee f (hP _ (by omega) (by omega)) (hP _ (by omega) (by omega))
theorem GM.kee {g : Nat} {G : GS} (h : GM M g G) (f : Kee P n s M M') (hP : ∀ q, g ≤ q → q < g + 59 → ¬ P q) : GM M' g G := by
  obtain ⟨p, X, lt, dp, us, W, h1, h2, h3, h4⟩ := h
  exact ⟨p, X, lt, dp, us, W, h1.kee f hP, h2, h3, h4⟩
theorem Pd.kee {a : Nat} {xs : List Int} (h : Pd M a xs) (k : Kee P n s M M') (h1 : ¬ P a) (h2 : ¬ P (a + 1)) : Pd M' a xs := by
  obtain ⟨g, q1, q2, q3⟩ := h
  exact ⟨g, k.at h1 q1, k.at h2 q2, q3⟩
end KEE
section INI
variable {M : PM}
theorem c_Row_init {a : Nat} (h : M[a]? = some (.inr (6, [.null, .int 0]))) (hl : M.length = a + 1) : Wm 64 [.ref a] M (fun v M' => v = none ∧ Kee (fun q => q = a) 1 80 M M' ∧ Rw M' a []) := by
  refine wm_in (lv := _) rfl rfl rfl ?_
  repeat (refine wf rfl ?_; first | refine wq_oinit rfl ?_ | refine wq_iadd ?_ | refine wq_isub ?_ | refine wq_imul ?_ | refine wq_iinc rfl ?_ | refine wq_goto ?_ | refine wq_k rfl ?_ | refine wq_b rfl rfl ?_ | refine wq_getf (by assumption) rfl ?_ | refine wq_alen (by assumption) rfl ?_)
  refine wf rfl (wq_newa ⟨by omega, by omega⟩ (by omega) (by omega) ?_)
  refine wf rfl (wq_putf (getA h) rfl (fun M1 e1 f1 => ?_))
  have g1 : M1[a + 1]? = some (aJ 80 (fun _ => 0)) := f1.at (by omega) (by rw [← hl]; exact getL)
  rw [hl] at e1
  repeat (refine wf rfl ?_; first | refine wq_iadd ?_ | refine wq_isub ?_ | refine wq_imul ?_ | refine wq_iinc rfl ?_ | refine wq_goto ?_ | refine wq_k rfl ?_ | refine wq_b rfl rfl ?_ | refine wq_getf (by assumption) rfl ?_ | refine wq_alen (by assumption) rfl ?_)
  refine wf rfl (wq_putf e1 rfl (fun M2 e2 f2 => ?_))
  repeat' (refine wf rfl ?_; first | refine wq_iadd ?_ | refine wq_isub ?_ | refine wq_imul ?_ | refine wq_iinc rfl ?_ | refine wq_goto ?_ | refine wq_k rfl ?_ | refine wq_b rfl rfl ?_ | refine wq_getf (by assumption) rfl ?_ | refine wq_alen (by assumption) rfl ?_ | (refine wq_eq ⟨by omega, by omega⟩ ⟨by omega, by omega⟩ (fun _ => ?_) (fun _ => ?_) <;> try (exfalso; omega)) | (refine wq_ne ⟨by omega, by omega⟩ ⟨by omega, by omega⟩ (fun _ => ?_) (fun _ => ?_) <;> try (exfalso; omega)) | (refine wq_lt ⟨by omega, by omega⟩ ⟨by omega, by omega⟩ (fun _ => ?_) (fun _ => ?_) <;> try (exfalso; omega)) | (refine wq_ge ⟨by omega, by omega⟩ ⟨by omega, by omega⟩ (fun _ => ?_) (fun _ => ?_) <;> try (exfalso; omega)) | (refine wq_gt ⟨by omega, by omega⟩ ⟨by omega, by omega⟩ (fun _ => ?_) (fun _ => ?_) <;> try (exfalso; omega)) | (refine wq_le ⟨by omega, by omega⟩ ⟨by omega, by omega⟩ (fun _ => ?_) (fun _ => ?_) <;> try (exfalso; omega)) | (refine wq_ifeq ⟨by omega, by omega⟩ (fun _ => ?_) (fun _ => ?_) <;> try (exfalso; omega)) | (refine wq_ifne ⟨by omega, by omega⟩ (fun _ => ?_) (fun _ => ?_) <;> try (exfalso; omega)) | (refine wq_iflt ⟨by omega, by omega⟩ (fun _ => ?_) (fun _ => ?_) <;> try (exfalso; omega)) | (refine wq_ifge ⟨by omega, by omega⟩ (fun _ => ?_) (fun _ => ?_) <;> try (exfalso; omega)) | (refine wq_ifgt ⟨by omega, by omega⟩ (fun _ => ?_) (fun _ => ?_) <;> try (exfalso; omega)) | (refine wq_ifle ⟨by omega, by omega⟩ (fun _ => ?_) (fun _ => ?_) <;> try (exfalso; omega)) | refine wq_r rfl rfl rfl rfl rfl rfl ?_)
  exact ⟨rfl, (((Kee.app _).tr f1.kee).tr f2.kee).mono rfl (by decide) (fun q hq => hq), ⟨fun _ => 0, e2, f2.at (by omega) g1, by simp, fun k hk => absurd hk (by simp)⟩⟩
theorem c_Pad_init {a : Nat} (h : M[a]? = some (.inr (2, [.null, .int 0]))) (hl : M.length = a + 1) : Wm 41 [.ref a] M (fun v M' => v = none ∧ Kee (fun q => q = a) 1 80 M M' ∧ Pd M' a []) := by
  refine wm_in (lv := _) rfl rfl rfl ?_
  repeat (refine wf rfl ?_; first | refine wq_oinit rfl ?_ | refine wq_iadd ?_ | refine wq_isub ?_ | refine wq_imul ?_ | refine wq_iinc rfl ?_ | refine wq_goto ?_ | refine wq_k rfl ?_ | refine wq_b rfl rfl ?_ | refine wq_getf (by assumption) rfl ?_ | refine wq_alen (by assumption) rfl ?_)
  refine wf rfl (wq_newa ⟨by omega, by omega⟩ (by omega) (by omega) ?_)
  refine wf rfl (wq_putf (getA h) rfl (fun M1 e1 f1 => ?_))
  have g1 : M1[a + 1]? = some (aJ 80 (fun _ => 0)) := f1.at (by omega) (by rw [← hl]; exact getL)
  rw [hl] at e1
  repeat (refine wf rfl ?_; first | refine wq_iadd ?_ | refine wq_isub ?_ | refine wq_imul ?_ | refine wq_iinc rfl ?_ | refine wq_goto ?_ | refine wq_k rfl ?_ | refine wq_b rfl rfl ?_ | refine wq_getf (by assumption) rfl ?_ | refine wq_alen (by assumption) rfl ?_)
  refine wf rfl (wq_putf e1 rfl (fun M2 e2 f2 => ?_))
  repeat' (refine wf rfl ?_; first | refine wq_iadd ?_ | refine wq_isub ?_ | refine wq_imul ?_ | refine wq_iinc rfl ?_ | refine wq_goto ?_ | refine wq_k rfl ?_ | refine wq_b rfl rfl ?_ | refine wq_getf (by assumption) rfl ?_ | refine wq_alen (by assumption) rfl ?_ | (refine wq_eq ⟨by omega, by omega⟩ ⟨by omega, by omega⟩ (fun _ => ?_) (fun _ => ?_) <;> try (exfalso; omega)) | (refine wq_ne ⟨by omega, by omega⟩ ⟨by omega, by omega⟩ (fun _ => ?_) (fun _ => ?_) <;> try (exfalso; omega)) | (refine wq_lt ⟨by omega, by omega⟩ ⟨by omega, by omega⟩ (fun _ => ?_) (fun _ => ?_) <;> try (exfalso; omega)) | (refine wq_ge ⟨by omega, by omega⟩ ⟨by omega, by omega⟩ (fun _ => ?_) (fun _ => ?_) <;> try (exfalso; omega)) | (refine wq_gt ⟨by omega, by omega⟩ ⟨by omega, by omega⟩ (fun _ => ?_) (fun _ => ?_) <;> try (exfalso; omega)) | (refine wq_le ⟨by omega, by omega⟩ ⟨by omega, by omega⟩ (fun _ => ?_) (fun _ => ?_) <;> try (exfalso; omega)) | (refine wq_ifeq ⟨by omega, by omega⟩ (fun _ => ?_) (fun _ => ?_) <;> try (exfalso; omega)) | (refine wq_ifne ⟨by omega, by omega⟩ (fun _ => ?_) (fun _ => ?_) <;> try (exfalso; omega)) | (refine wq_iflt ⟨by omega, by omega⟩ (fun _ => ?_) (fun _ => ?_) <;> try (exfalso; omega)) | (refine wq_ifge ⟨by omega, by omega⟩ (fun _ => ?_) (fun _ => ?_) <;> try (exfalso; omega)) | (refine wq_ifgt ⟨by omega, by omega⟩ (fun _ => ?_) (fun _ => ?_) <;> try (exfalso; omega)) | (refine wq_ifle ⟨by omega, by omega⟩ (fun _ => ?_) (fun _ => ?_) <;> try (exfalso; omega)) | refine wq_r rfl rfl rfl rfl rfl rfl ?_)
  exact ⟨rfl, (((Kee.app _).tr f1.kee).tr f2.kee).mono rfl (by decide) (fun q hq => hq), ⟨fun _ => 0, e2, f2.at (by omega) g1, by simp, fun k hk => absurd hk (by simp)⟩⟩
theorem c_Pairs_init {a : Nat} (h : M[a]? = some (.inr (3, [.null, .int 0, .int 0, .int 0]))) (hl : M.length = a + 1) : Wm 46 [.ref a] M (fun v M' => v = none ∧ Kee (fun q => q = a) 1 1156 M M' ∧ PzE M' a) := by
  refine wm_in (lv := _) rfl rfl rfl ?_
  repeat (refine wf rfl ?_; first | refine wq_oinit rfl ?_ | refine wq_iadd ?_ | refine wq_isub ?_ | refine wq_imul ?_ | refine wq_iinc rfl ?_ | refine wq_goto ?_ | refine wq_k rfl ?_ | refine wq_b rfl rfl ?_ | refine wq_getf (by assumption) rfl ?_ | refine wq_alen (by assumption) rfl ?_)
  refine wf rfl (wq_newa ⟨by omega, by omega⟩ (by omega) (by omega) ?_)
  refine wf rfl (wq_putf (getA h) rfl (fun M1 e1 f1 => ?_))
  have g1 : M1[a + 1]? = some (aJ 1156 (fun _ => 0)) := f1.at (by omega) (by rw [← hl]; exact getL)
  rw [hl] at e1
  repeat (refine wf rfl ?_; first | refine wq_iadd ?_ | refine wq_isub ?_ | refine wq_imul ?_ | refine wq_iinc rfl ?_ | refine wq_goto ?_ | refine wq_k rfl ?_ | refine wq_b rfl rfl ?_ | refine wq_getf (by assumption) rfl ?_ | refine wq_alen (by assumption) rfl ?_)
  refine wf rfl (wq_putf e1 rfl (fun M2 e2 f2 => ?_))
  repeat (refine wf rfl ?_; first | refine wq_iadd ?_ | refine wq_isub ?_ | refine wq_imul ?_ | refine wq_iinc rfl ?_ | refine wq_goto ?_ | refine wq_k rfl ?_ | refine wq_b rfl rfl ?_ | refine wq_getf (by assumption) rfl ?_ | refine wq_alen (by assumption) rfl ?_)
  refine wf rfl (wq_putf e2 rfl (fun M3 e3 f3 => ?_))
  repeat (refine wf rfl ?_; first | refine wq_iadd ?_ | refine wq_isub ?_ | refine wq_imul ?_ | refine wq_iinc rfl ?_ | refine wq_goto ?_ | refine wq_k rfl ?_ | refine wq_b rfl rfl ?_ | refine wq_getf (by assumption) rfl ?_ | refine wq_alen (by assumption) rfl ?_)
  refine wf rfl (wq_putf e3 rfl (fun M4 e4 f4 => ?_))
  repeat' (refine wf rfl ?_; first | refine wq_iadd ?_ | refine wq_isub ?_ | refine wq_imul ?_ | refine wq_iinc rfl ?_ | refine wq_goto ?_ | refine wq_k rfl ?_ | refine wq_b rfl rfl ?_ | refine wq_getf (by assumption) rfl ?_ | refine wq_alen (by assumption) rfl ?_ | (refine wq_eq ⟨by omega, by omega⟩ ⟨by omega, by omega⟩ (fun _ => ?_) (fun _ => ?_) <;> try (exfalso; omega)) | (refine wq_ne ⟨by omega, by omega⟩ ⟨by omega, by omega⟩ (fun _ => ?_) (fun _ => ?_) <;> try (exfalso; omega)) | (refine wq_lt ⟨by omega, by omega⟩ ⟨by omega, by omega⟩ (fun _ => ?_) (fun _ => ?_) <;> try (exfalso; omega)) | (refine wq_ge ⟨by omega, by omega⟩ ⟨by omega, by omega⟩ (fun _ => ?_) (fun _ => ?_) <;> try (exfalso; omega)) | (refine wq_gt ⟨by omega, by omega⟩ ⟨by omega, by omega⟩ (fun _ => ?_) (fun _ => ?_) <;> try (exfalso; omega)) | (refine wq_le ⟨by omega, by omega⟩ ⟨by omega, by omega⟩ (fun _ => ?_) (fun _ => ?_) <;> try (exfalso; omega)) | (refine wq_ifeq ⟨by omega, by omega⟩ (fun _ => ?_) (fun _ => ?_) <;> try (exfalso; omega)) | (refine wq_ifne ⟨by omega, by omega⟩ (fun _ => ?_) (fun _ => ?_) <;> try (exfalso; omega)) | (refine wq_iflt ⟨by omega, by omega⟩ (fun _ => ?_) (fun _ => ?_) <;> try (exfalso; omega)) | (refine wq_ifge ⟨by omega, by omega⟩ (fun _ => ?_) (fun _ => ?_) <;> try (exfalso; omega)) | (refine wq_ifgt ⟨by omega, by omega⟩ (fun _ => ?_) (fun _ => ?_) <;> try (exfalso; omega)) | (refine wq_ifle ⟨by omega, by omega⟩ (fun _ => ?_) (fun _ => ?_) <;> try (exfalso; omega)) | refine wq_r rfl rfl rfl rfl rfl rfl ?_)
  exact ⟨rfl, (((((Kee.app _).tr f1.kee).tr f2.kee).tr f3.kee).tr f4.kee).mono rfl (by decide) (fun q hq => hq), ⟨fun _ => 0, 0, 0, 0, e4, f4.at (by omega) (f3.at (by omega) (f2.at (by omega) g1))⟩⟩
theorem c_Path_init {a : Nat} (h : M[a]? = some (.inr (4, [.int 0, .int 0]))) : Wm 53 [.ref a] M (fun v M' => v = none ∧ Kee (fun q => q = a) 0 0 M M' ∧ ∃ fl rp, Ph M' a fl rp) := by
  refine wm_in (lv := _) rfl rfl rfl ?_
  repeat (refine wf rfl ?_; first | refine wq_oinit rfl ?_ | refine wq_iadd ?_ | refine wq_isub ?_ | refine wq_imul ?_ | refine wq_iinc rfl ?_ | refine wq_goto ?_ | refine wq_k rfl ?_ | refine wq_b rfl rfl ?_ | refine wq_getf (by assumption) rfl ?_ | refine wq_alen (by assumption) rfl ?_)
  refine wf rfl (wq_putf h rfl (fun M1 e1 f1 => ?_))
  repeat (refine wf rfl ?_; first | refine wq_iadd ?_ | refine wq_isub ?_ | refine wq_imul ?_ | refine wq_iinc rfl ?_ | refine wq_goto ?_ | refine wq_k rfl ?_ | refine wq_b rfl rfl ?_ | refine wq_getf (by assumption) rfl ?_ | refine wq_alen (by assumption) rfl ?_)
  refine wf rfl (wq_putf e1 rfl (fun M2 e2 f2 => ?_))
  repeat' (refine wf rfl ?_; first | refine wq_iadd ?_ | refine wq_isub ?_ | refine wq_imul ?_ | refine wq_iinc rfl ?_ | refine wq_goto ?_ | refine wq_k rfl ?_ | refine wq_b rfl rfl ?_ | refine wq_getf (by assumption) rfl ?_ | refine wq_alen (by assumption) rfl ?_ | (refine wq_eq ⟨by omega, by omega⟩ ⟨by omega, by omega⟩ (fun _ => ?_) (fun _ => ?_) <;> try (exfalso; omega)) | (refine wq_ne ⟨by omega, by omega⟩ ⟨by omega, by omega⟩ (fun _ => ?_) (fun _ => ?_) <;> try (exfalso; omega)) | (refine wq_lt ⟨by omega, by omega⟩ ⟨by omega, by omega⟩ (fun _ => ?_) (fun _ => ?_) <;> try (exfalso; omega)) | (refine wq_ge ⟨by omega, by omega⟩ ⟨by omega, by omega⟩ (fun _ => ?_) (fun _ => ?_) <;> try (exfalso; omega)) | (refine wq_gt ⟨by omega, by omega⟩ ⟨by omega, by omega⟩ (fun _ => ?_) (fun _ => ?_) <;> try (exfalso; omega)) | (refine wq_le ⟨by omega, by omega⟩ ⟨by omega, by omega⟩ (fun _ => ?_) (fun _ => ?_) <;> try (exfalso; omega)) | (refine wq_ifeq ⟨by omega, by omega⟩ (fun _ => ?_) (fun _ => ?_) <;> try (exfalso; omega)) | (refine wq_ifne ⟨by omega, by omega⟩ (fun _ => ?_) (fun _ => ?_) <;> try (exfalso; omega)) | (refine wq_iflt ⟨by omega, by omega⟩ (fun _ => ?_) (fun _ => ?_) <;> try (exfalso; omega)) | (refine wq_ifge ⟨by omega, by omega⟩ (fun _ => ?_) (fun _ => ?_) <;> try (exfalso; omega)) | (refine wq_ifgt ⟨by omega, by omega⟩ (fun _ => ?_) (fun _ => ?_) <;> try (exfalso; omega)) | (refine wq_ifle ⟨by omega, by omega⟩ (fun _ => ?_) (fun _ => ?_) <;> try (exfalso; omega)) | refine wq_r rfl rfl rfl rfl rfl rfl ?_)
  exact ⟨rfl, (f1.kee.tr f2.kee).mono rfl (by decide) (fun q hq => hq), 0, 0, e2⟩
theorem c_Reader_init {a : Nat} (h : M[a]? = some (.inr (5, [.null]))) (hl : M.length = a + 1) : Wm 57 [.ref a] M (fun v M' => v = none ∧ Kee (fun q => q = a) 2 90 M M' ∧ M'[a]? = some (.inr (5, [.ref (a + 1)])) ∧ Rw M' (a + 1) []) := by
  refine wm_in (lv := _) rfl rfl rfl ?_
  repeat (refine wf rfl ?_; first | refine wq_oinit rfl ?_ | refine wq_new ?_ | refine wq_iadd ?_ | refine wq_isub ?_ | refine wq_imul ?_ | refine wq_iinc rfl ?_ | refine wq_goto ?_ | refine wq_k rfl ?_ | refine wq_b rfl rfl ?_ | refine wq_getf (by assumption) rfl ?_ | refine wq_alen (by assumption) rfl ?_)
  refine wf rfl (wq_ci rfl rfl ((c_Row_init (M := M ++ [.inr (6, nth [] dfl 6)]) (a := M.length) getL (by rw [List.length_append]; rfl)).mono ?_))
  rintro v M1 ⟨rfl, k1, r1⟩
  have k1' := Kee.new (P := fun q => q = a) k1
  rw [hl] at r1
  rw [hl]
  refine wf rfl (wq_putf (k1.at (by omega) (getA h)) rfl (fun M2 e2 f2 => ?_))
  repeat' (refine wf rfl ?_; first | refine wq_iadd ?_ | refine wq_isub ?_ | refine wq_imul ?_ | refine wq_iinc rfl ?_ | refine wq_goto ?_ | refine wq_k rfl ?_ | refine wq_b rfl rfl ?_ | refine wq_getf (by assumption) rfl ?_ | refine wq_alen (by assumption) rfl ?_ | (refine wq_eq ⟨by omega, by omega⟩ ⟨by omega, by omega⟩ (fun _ => ?_) (fun _ => ?_) <;> try (exfalso; omega)) | (refine wq_ne ⟨by omega, by omega⟩ ⟨by omega, by omega⟩ (fun _ => ?_) (fun _ => ?_) <;> try (exfalso; omega)) | (refine wq_lt ⟨by omega, by omega⟩ ⟨by omega, by omega⟩ (fun _ => ?_) (fun _ => ?_) <;> try (exfalso; omega)) | (refine wq_ge ⟨by omega, by omega⟩ ⟨by omega, by omega⟩ (fun _ => ?_) (fun _ => ?_) <;> try (exfalso; omega)) | (refine wq_gt ⟨by omega, by omega⟩ ⟨by omega, by omega⟩ (fun _ => ?_) (fun _ => ?_) <;> try (exfalso; omega)) | (refine wq_le ⟨by omega, by omega⟩ ⟨by omega, by omega⟩ (fun _ => ?_) (fun _ => ?_) <;> try (exfalso; omega)) | (refine wq_ifeq ⟨by omega, by omega⟩ (fun _ => ?_) (fun _ => ?_) <;> try (exfalso; omega)) | (refine wq_ifne ⟨by omega, by omega⟩ (fun _ => ?_) (fun _ => ?_) <;> try (exfalso; omega)) | (refine wq_iflt ⟨by omega, by omega⟩ (fun _ => ?_) (fun _ => ?_) <;> try (exfalso; omega)) | (refine wq_ifge ⟨by omega, by omega⟩ (fun _ => ?_) (fun _ => ?_) <;> try (exfalso; omega)) | (refine wq_ifgt ⟨by omega, by omega⟩ (fun _ => ?_) (fun _ => ?_) <;> try (exfalso; omega)) | (refine wq_ifle ⟨by omega, by omega⟩ (fun _ => ?_) (fun _ => ?_) <;> try (exfalso; omega)) | refine wq_r rfl rfl rfl rfl rfl rfl ?_)
  exact ⟨rfl, (k1'.tr f2.kee).mono rfl (by decide) (fun q hq => hq), e2, r1.fr f2 (by omega) (by omega)⟩
theorem c_Tally_init {a : Nat} (h : M[a]? = some (.inr (7, [.null, .null, .int 0, .int 0]))) (hl : M.length = a + 1) : Wm 81 [.ref a] M (fun v M' => v = none ∧ Kee (fun q => q = a) 2 68 M M' ∧ ∃ fa su f s, Ty M' a fa su f s) := by
  refine wm_in (lv := _) rfl rfl rfl ?_
  repeat (refine wf rfl ?_; first | refine wq_oinit rfl ?_ | refine wq_iadd ?_ | refine wq_isub ?_ | refine wq_imul ?_ | refine wq_iinc rfl ?_ | refine wq_goto ?_ | refine wq_k rfl ?_ | refine wq_b rfl rfl ?_ | refine wq_getf (by assumption) rfl ?_ | refine wq_alen (by assumption) rfl ?_)
  refine wf rfl (wq_newa ⟨by omega, by omega⟩ (by omega) (by omega) ?_)
  refine wf rfl (wq_putf (getA h) rfl (fun M1 e1 f1 => ?_))
  have g1 : M1[a + 1]? = some (aJ 34 (fun _ => 0)) := f1.at (by omega) (by rw [← hl]; exact getL)
  have l1 : M1.length = a + 2 := by rw [f1.1, List.length_append, hl]; rfl
  rw [hl] at e1
  repeat (refine wf rfl ?_; first | refine wq_iadd ?_ | refine wq_isub ?_ | refine wq_imul ?_ | refine wq_iinc rfl ?_ | refine wq_goto ?_ | refine wq_k rfl ?_ | refine wq_b rfl rfl ?_ | refine wq_getf (by assumption) rfl ?_ | refine wq_alen (by assumption) rfl ?_)
  refine wf rfl (wq_newa ⟨by omega, by omega⟩ (by omega) (by omega) ?_)
  refine wf rfl (wq_putf (getA e1) rfl (fun M2 e2 f2 => ?_))
  have g2 : M2[a + 2]? = some (aJ 34 (fun _ => 0)) := f2.at (by omega) (by rw [← l1]; exact getL)
  have g1' := f2.at (by omega) (getA (x := aJ (34 : Int).toNat (fun _ => 0)) g1)
  rw [l1] at e2
  repeat (refine wf rfl ?_; first | refine wq_iadd ?_ | refine wq_isub ?_ | refine wq_imul ?_ | refine wq_iinc rfl ?_ | refine wq_goto ?_ | refine wq_k rfl ?_ | refine wq_b rfl rfl ?_ | refine wq_getf (by assumption) rfl ?_ | refine wq_alen (by assumption) rfl ?_)
  refine wf rfl (wq_putf e2 rfl (fun M3 e3 f3 => ?_))
  repeat (refine wf rfl ?_; first | refine wq_iadd ?_ | refine wq_isub ?_ | refine wq_imul ?_ | refine wq_iinc rfl ?_ | refine wq_goto ?_ | refine wq_k rfl ?_ | refine wq_b rfl rfl ?_ | refine wq_getf (by assumption) rfl ?_ | refine wq_alen (by assumption) rfl ?_)
  refine wf rfl (wq_putf e3 rfl (fun M4 e4 f4 => ?_))
  repeat' (refine wf rfl ?_; first | refine wq_iadd ?_ | refine wq_isub ?_ | refine wq_imul ?_ | refine wq_iinc rfl ?_ | refine wq_goto ?_ | refine wq_k rfl ?_ | refine wq_b rfl rfl ?_ | refine wq_getf (by assumption) rfl ?_ | refine wq_alen (by assumption) rfl ?_ | (refine wq_eq ⟨by omega, by omega⟩ ⟨by omega, by omega⟩ (fun _ => ?_) (fun _ => ?_) <;> try (exfalso; omega)) | (refine wq_ne ⟨by omega, by omega⟩ ⟨by omega, by omega⟩ (fun _ => ?_) (fun _ => ?_) <;> try (exfalso; omega)) | (refine wq_lt ⟨by omega, by omega⟩ ⟨by omega, by omega⟩ (fun _ => ?_) (fun _ => ?_) <;> try (exfalso; omega)) | (refine wq_ge ⟨by omega, by omega⟩ ⟨by omega, by omega⟩ (fun _ => ?_) (fun _ => ?_) <;> try (exfalso; omega)) | (refine wq_gt ⟨by omega, by omega⟩ ⟨by omega, by omega⟩ (fun _ => ?_) (fun _ => ?_) <;> try (exfalso; omega)) | (refine wq_le ⟨by omega, by omega⟩ ⟨by omega, by omega⟩ (fun _ => ?_) (fun _ => ?_) <;> try (exfalso; omega)) | (refine wq_ifeq ⟨by omega, by omega⟩ (fun _ => ?_) (fun _ => ?_) <;> try (exfalso; omega)) | (refine wq_ifne ⟨by omega, by omega⟩ (fun _ => ?_) (fun _ => ?_) <;> try (exfalso; omega)) | (refine wq_iflt ⟨by omega, by omega⟩ (fun _ => ?_) (fun _ => ?_) <;> try (exfalso; omega)) | (refine wq_ifge ⟨by omega, by omega⟩ (fun _ => ?_) (fun _ => ?_) <;> try (exfalso; omega)) | (refine wq_ifgt ⟨by omega, by omega⟩ (fun _ => ?_) (fun _ => ?_) <;> try (exfalso; omega)) | (refine wq_ifle ⟨by omega, by omega⟩ (fun _ => ?_) (fun _ => ?_) <;> try (exfalso; omega)) | refine wq_r rfl rfl rfl rfl rfl rfl ?_)
  exact ⟨rfl, ((((((Kee.app _).tr f1.kee).tr (Kee.app _)).tr f2.kee).tr f3.kee).tr f4.kee).mono rfl (by decide) (fun q hq => hq), fun _ => 0, fun _ => 0, 1, 0, e4, f4.at (by omega) (f3.at (by omega) g1'), f4.at (by omega) (f3.at (by omega) g2)⟩
theorem c_Walk_init {a : Nat} (h : M[a]? = some (.inr (8, [.null, .null, .int 0]))) (hl : M.length = a + 1) : Wm 86 [.ref a] M (fun v M' => v = none ∧ Kee (fun q => q = a) 2 54 M M' ∧ ∃ ro po o, Wk M' a ro po o) := by
  refine wm_in (lv := _) rfl rfl rfl ?_
  repeat (refine wf rfl ?_; first | refine wq_oinit rfl ?_ | refine wq_iadd ?_ | refine wq_isub ?_ | refine wq_imul ?_ | refine wq_iinc rfl ?_ | refine wq_goto ?_ | refine wq_k rfl ?_ | refine wq_b rfl rfl ?_ | refine wq_getf (by assumption) rfl ?_ | refine wq_alen (by assumption) rfl ?_)
  refine wf rfl (wq_newa ⟨by omega, by omega⟩ (by omega) (by omega) ?_)
  refine wf rfl (wq_putf (getA h) rfl (fun M1 e1 f1 => ?_))
  have g1 : M1[a + 1]? = some (aJ 27 (fun _ => 0)) := f1.at (by omega) (by rw [← hl]; exact getL)
  have l1 : M1.length = a + 2 := by rw [f1.1, List.length_append, hl]; rfl
  rw [hl] at e1
  repeat (refine wf rfl ?_; first | refine wq_iadd ?_ | refine wq_isub ?_ | refine wq_imul ?_ | refine wq_iinc rfl ?_ | refine wq_goto ?_ | refine wq_k rfl ?_ | refine wq_b rfl rfl ?_ | refine wq_getf (by assumption) rfl ?_ | refine wq_alen (by assumption) rfl ?_)
  refine wf rfl (wq_newa ⟨by omega, by omega⟩ (by omega) (by omega) ?_)
  refine wf rfl (wq_putf (getA e1) rfl (fun M2 e2 f2 => ?_))
  have g2 : M2[a + 2]? = some (aJ 27 (fun _ => 0)) := f2.at (by omega) (by rw [← l1]; exact getL)
  have g1' := f2.at (by omega) (getA (x := aJ (27 : Int).toNat (fun _ => 0)) g1)
  rw [l1] at e2
  repeat (refine wf rfl ?_; first | refine wq_iadd ?_ | refine wq_isub ?_ | refine wq_imul ?_ | refine wq_iinc rfl ?_ | refine wq_goto ?_ | refine wq_k rfl ?_ | refine wq_b rfl rfl ?_ | refine wq_getf (by assumption) rfl ?_ | refine wq_alen (by assumption) rfl ?_)
  refine wf rfl (wq_putf e2 rfl (fun M3 e3 f3 => ?_))
  repeat' (refine wf rfl ?_; first | refine wq_iadd ?_ | refine wq_isub ?_ | refine wq_imul ?_ | refine wq_iinc rfl ?_ | refine wq_goto ?_ | refine wq_k rfl ?_ | refine wq_b rfl rfl ?_ | refine wq_getf (by assumption) rfl ?_ | refine wq_alen (by assumption) rfl ?_ | (refine wq_eq ⟨by omega, by omega⟩ ⟨by omega, by omega⟩ (fun _ => ?_) (fun _ => ?_) <;> try (exfalso; omega)) | (refine wq_ne ⟨by omega, by omega⟩ ⟨by omega, by omega⟩ (fun _ => ?_) (fun _ => ?_) <;> try (exfalso; omega)) | (refine wq_lt ⟨by omega, by omega⟩ ⟨by omega, by omega⟩ (fun _ => ?_) (fun _ => ?_) <;> try (exfalso; omega)) | (refine wq_ge ⟨by omega, by omega⟩ ⟨by omega, by omega⟩ (fun _ => ?_) (fun _ => ?_) <;> try (exfalso; omega)) | (refine wq_gt ⟨by omega, by omega⟩ ⟨by omega, by omega⟩ (fun _ => ?_) (fun _ => ?_) <;> try (exfalso; omega)) | (refine wq_le ⟨by omega, by omega⟩ ⟨by omega, by omega⟩ (fun _ => ?_) (fun _ => ?_) <;> try (exfalso; omega)) | (refine wq_ifeq ⟨by omega, by omega⟩ (fun _ => ?_) (fun _ => ?_) <;> try (exfalso; omega)) | (refine wq_ifne ⟨by omega, by omega⟩ (fun _ => ?_) (fun _ => ?_) <;> try (exfalso; omega)) | (refine wq_iflt ⟨by omega, by omega⟩ (fun _ => ?_) (fun _ => ?_) <;> try (exfalso; omega)) | (refine wq_ifge ⟨by omega, by omega⟩ (fun _ => ?_) (fun _ => ?_) <;> try (exfalso; omega)) | (refine wq_ifgt ⟨by omega, by omega⟩ (fun _ => ?_) (fun _ => ?_) <;> try (exfalso; omega)) | (refine wq_ifle ⟨by omega, by omega⟩ (fun _ => ?_) (fun _ => ?_) <;> try (exfalso; omega)) | refine wq_r rfl rfl rfl rfl rfl rfl ?_)
  exact ⟨rfl, (((((Kee.app _).tr f1.kee).tr (Kee.app _)).tr f2.kee).tr f3.kee).mono rfl (by decide) (fun q hq => hq), fun _ => 0, fun _ => 0, 0, e3, f3.at (by omega) g1', f3.at (by omega) g2⟩
abbrev G0 : GS := ([], [])
/-- a grammar under construction, i rows made -/
def GI (M : PM) (g i : Nat) : Prop := M[g]? = some (.inr (0, [.ref (g + 1), .ref (g + 2), .int (I 0), .ref (g + 4), .ref (g + 5), .ref (g + 6), .int (I 0)])) ∧ (∃ f : Nat → Option Nat, M[g + 1]? = some (aQ 2 26 f) ∧ ∀ k, k < i → f k = some (g + 7 + 2 * k)) ∧ Rw M (g + 2) [] ∧ M[g + 4]? = some (aJ 26 (fun _ => 0)) ∧ M[g + 5]? = some (aJ 26 (fun _ => 0)) ∧ M[g + 6]? = some (aJ 26 (fun _ => 0)) ∧ (∀ k, k < i → Rw M (g + 7 + 2 * k) []) ∧ M.length = g + 7 + 2 * i
theorem lp_ginit {g : Nat} (n : Nat) : ∀ (i : Nat) (M1 : PM), (i + n = 26 ∧ GI M1 g i ∧ M1.length = M.length + 6 + 2 * i ∧ szM M1 ≤ szM M + 200 + 90 * i ∧ ∀ q x, q ≠ g → M[q]? = some x → M1[q]? = some x) →
    Wp k_X0_init (60, [(0, .ref g), (1, .int (I i))], [], M1) (fun v M' => v = none ∧ Kee (fun q => q = g) 58 2600 M M' ∧ GM M' g G0) := by
  induction n with
  | zero =>
    rintro i M1 ⟨i1, ⟨a1, ⟨f, a2, a3⟩, a4, a5, a6, a7, a8, a9⟩, i2, i3, i4⟩
    have e26 : i = 26 := by omega
    subst e26
    repeat (refine wf rfl ?_; first | refine wq_iadd ?_ | refine wq_isub ?_ | refine wq_imul ?_ | refine wq_iinc rfl ?_ | refine wq_goto ?_ | refine wq_k rfl ?_ | refine wq_b rfl rfl ?_ | refine wq_getf (by assumption) rfl ?_ | refine wq_alen (by assumption) rfl ?_)
    refine wf rfl (wq_ge ⟨by omega, by omega⟩ ⟨by omega, by omega⟩ (fun _ => ?_) (fun c9 => by exfalso; omega))
    repeat' (refine wf rfl ?_; first | refine wq_iadd ?_ | refine wq_isub ?_ | refine wq_imul ?_ | refine wq_iinc rfl ?_ | refine wq_goto ?_ | refine wq_k rfl ?_ | refine wq_b rfl rfl ?_ | refine wq_getf (by assumption) rfl ?_ | refine wq_alen (by assumption) rfl ?_ | (refine wq_eq ⟨by omega, by omega⟩ ⟨by omega, by omega⟩ (fun _ => ?_) (fun _ => ?_) <;> try (exfalso; omega)) | (refine wq_ne ⟨by omega, by omega⟩ ⟨by omega, by omega⟩ (fun _ => ?_) (fun _ => ?_) <;> try (exfalso; omega)) | (refine wq_lt ⟨by omega, by omega⟩ ⟨by omega, by omega⟩ (fun _ => ?_) (fun _ => ?_) <;> try (exfalso; omega)) | (refine wq_ge ⟨by omega, by omega⟩ ⟨by omega, by omega⟩ (fun _ => ?_) (fun _ => ?_) <;> try (exfalso; omega)) | (refine wq_gt ⟨by omega, by omega⟩ ⟨by omega, by omega⟩ (fun _ => ?_) (fun _ => ?_) <;> try (exfalso; omega)) | (refine wq_le ⟨by omega, by omega⟩ ⟨by omega, by omega⟩ (fun _ => ?_) (fun _ => ?_) <;> try (exfalso; omega)) | (refine wq_ifeq ⟨by omega, by omega⟩ (fun _ => ?_) (fun _ => ?_) <;> try (exfalso; omega)) | (refine wq_ifne ⟨by omega, by omega⟩ (fun _ => ?_) (fun _ => ?_) <;> try (exfalso; omega)) | (refine wq_iflt ⟨by omega, by omega⟩ (fun _ => ?_) (fun _ => ?_) <;> try (exfalso; omega)) | (refine wq_ifge ⟨by omega, by omega⟩ (fun _ => ?_) (fun _ => ?_) <;> try (exfalso; omega)) | (refine wq_ifgt ⟨by omega, by omega⟩ (fun _ => ?_) (fun _ => ?_) <;> try (exfalso; omega)) | (refine wq_ifle ⟨by omega, by omega⟩ (fun _ => ?_) (fun _ => ?_) <;> try (exfalso; omega)) | refine wq_r rfl rfl rfl rfl rfl rfl ?_)
    refine ⟨rfl, ⟨by omega, by omega, i4⟩, fun k => g + 7 + 2 * k, fun _ => [], fun _ => 0, fun _ => 0, fun _ => 0, 0, ⟨a1, ⟨f, a2, a3⟩, a4, a5, a6, a7, a8, fun k hk => ⟨k, hk, rfl⟩, fun j k hj hk e => by have e2 : g + 7 + 2 * j = g + 7 + 2 * k := e; omega, by simp⟩, ⟨fun j hj => absurd hj (by simp), fun j hj => absurd hj (by simp), rfl⟩, fun k hk => absurd hk (by simp), fun k hk => absurd hk (by simp), fun s hs => absurd hs (by simp), fun k hk => absurd hk (by simp)⟩
  | succ n ih =>
    rintro i M1 ⟨i1, ⟨a1, ⟨f, a2, a3⟩, a4, a5, a6, a7, a8, a9⟩, i2, i3, i4⟩
    repeat (refine wf rfl ?_; first | refine wq_iadd ?_ | refine wq_isub ?_ | refine wq_imul ?_ | refine wq_iinc rfl ?_ | refine wq_goto ?_ | refine wq_k rfl ?_ | refine wq_b rfl rfl ?_ | refine wq_getf (by assumption) rfl ?_ | refine wq_alen (by assumption) rfl ?_)
    refine wf rfl (wq_ge ⟨by omega, by omega⟩ ⟨by omega, by omega⟩ (fun c9 => by exfalso; omega) (fun _ => ?_))
    repeat (refine wf rfl ?_; first | refine wq_new ?_ | refine wq_iadd ?_ | refine wq_isub ?_ | refine wq_imul ?_ | refine wq_iinc rfl ?_ | refine wq_goto ?_ | refine wq_k rfl ?_ | refine wq_b rfl rfl ?_ | refine wq_getf (by assumption) rfl ?_ | refine wq_alen (by assumption) rfl ?_)
    refine wf rfl (wq_ci rfl rfl ((c_Row_init (M := M1 ++ [.inr (6, nth [] dfl 6)]) (a := M1.length) getL (by rw [List.length_append]; rfl)).mono ?_))
    rintro v M2 ⟨rfl, k1, r1⟩
    have k1' := Kee.new (P := fun _ => False) k1
    rw [a9] at r1
    rw [a9]
    obtain ⟨gg, rr1, -, -, -⟩ := id r1
    have a2' := k1'.at id a2
    refine wf rfl (wq_aast a2' rr1 rfl ⟨by omega, by omega⟩ (by omega) (by omega) (fun M3 e3 f3 => ?_))
    have hst := fun (_ : True) => ih (i + 1) M3 ⟨by omega, ⟨f3.at (by omega) (k1'.at id a1), ⟨_, e3, fun k hk => ?_⟩, (a4.kee k1' id id).fr f3 (by omega) (by omega), f3.at (by omega) (k1'.at id a5), f3.at (by omega) (k1'.at id a6), f3.at (by omega) (k1'.at id a7), fun k hk => ?_, by rw [f3.1, k1'.1, a9]; omega⟩, by rw [f3.1, k1'.1, i2]; omega, ?_, fun q x hq hx => ?_⟩
    · rw [show ((i + 1 : Nat) : Int) = (i : Int) + 1 by omega] at hst
      repeat' (first | (refine Wp.sub (hst  ?_) ⟨rfl, rfl, trivial⟩ rfl) | (refine wf rfl ?_; first | refine wq_iadd ?_ | refine wq_isub ?_ | refine wq_imul ?_ | refine wq_iinc rfl ?_ | refine wq_goto ?_ | refine wq_k rfl ?_ | refine wq_b rfl rfl ?_ | refine wq_getf (by assumption) rfl ?_ | refine wq_alen (by assumption) rfl ?_ | fail | (refine wq_eq ⟨by omega, by omega⟩ ⟨by omega, by omega⟩ (fun _ => ?_) (fun _ => ?_) <;> try (exfalso; omega)) | (refine wq_ne ⟨by omega, by omega⟩ ⟨by omega, by omega⟩ (fun _ => ?_) (fun _ => ?_) <;> try (exfalso; omega)) | (refine wq_lt ⟨by omega, by omega⟩ ⟨by omega, by omega⟩ (fun _ => ?_) (fun _ => ?_) <;> try (exfalso; omega)) | (refine wq_ge ⟨by omega, by omega⟩ ⟨by omega, by omega⟩ (fun _ => ?_) (fun _ => ?_) <;> try (exfalso; omega)) | (refine wq_gt ⟨by omega, by omega⟩ ⟨by omega, by omega⟩ (fun _ => ?_) (fun _ => ?_) <;> try (exfalso; omega)) | (refine wq_le ⟨by omega, by omega⟩ ⟨by omega, by omega⟩ (fun _ => ?_) (fun _ => ?_) <;> try (exfalso; omega)) | (refine wq_ifeq ⟨by omega, by omega⟩ (fun _ => ?_) (fun _ => ?_) <;> try (exfalso; omega)) | (refine wq_ifne ⟨by omega, by omega⟩ (fun _ => ?_) (fun _ => ?_) <;> try (exfalso; omega)) | (refine wq_iflt ⟨by omega, by omega⟩ (fun _ => ?_) (fun _ => ?_) <;> try (exfalso; omega)) | (refine wq_ifge ⟨by omega, by omega⟩ (fun _ => ?_) (fun _ => ?_) <;> try (exfalso; omega)) | (refine wq_ifgt ⟨by omega, by omega⟩ (fun _ => ?_) (fun _ => ?_) <;> try (exfalso; omega)) | (refine wq_ifle ⟨by omega, by omega⟩ (fun _ => ?_) (fun _ => ?_) <;> try (exfalso; omega)) | refine wq_r rfl rfl rfl rfl rfl rfl ?_))
      trivial
    · unfold va_up
      by_cases he : k = ((i : Int)).toNat
      · rw [if_pos he]
        congr 1
        omega
      · rw [if_neg he]
        exact a3 k (by omega)
    · by_cases he : k = i
      · subst he
        exact r1.fr f3 (by omega) (by omega)
      · exact ((a8 k (by omega)).kee k1' id id).fr f3 (by omega) (by omega)
    · have := k1'.2.1
      rw [f3.2.1]
      have e : szC (.inr (6, nth [] dfl 6)) = 2 := rfl
      rw [e] at this
      omega
    · have h1 := k1'.at id (i4 q x hq hx)
      by_cases hg1 : q = g + 1
      · have hlt := (List.getElem?_eq_some_iff.mp hx).1
        exfalso
        omega
      · exact f3.at hg1 h1
theorem c_Gr_init {g : Nat} (h : M[g]? = some (.inr (0, [.null, .null, .int 0, .null, .null, .null, .int 0]))) (hl : M.length = g + 1) : Wm 0 [.ref g] M (fun v M' => v = none ∧ Kee (fun q => q = g) 58 2600 M M' ∧ GM M' g G0) := by
  refine wm_in (lv := _) rfl rfl rfl ?_
  repeat (refine wf rfl ?_; first | refine wq_oinit rfl ?_ | refine wq_iadd ?_ | refine wq_isub ?_ | refine wq_imul ?_ | refine wq_iinc rfl ?_ | refine wq_goto ?_ | refine wq_k rfl ?_ | refine wq_b rfl rfl ?_ | refine wq_getf (by assumption) rfl ?_ | refine wq_alen (by assumption) rfl ?_)
  refine wf rfl (wq_newq ⟨by omega, by omega⟩ (by omega) (by omega) ?_)
  refine wf rfl (wq_putf (getA h) rfl (fun M1 e1 f1 => ?_))
  have k1 : Kee (fun q => q = g) 1 26 M M1 := ((Kee.app _).tr f1.kee).mono rfl (by decide) (fun q hq => hq)
  have g1 : M1[g + 1]? = some (aQ 2 26 (fun _ => none)) := f1.at (by omega) (by rw [← hl]; exact getL)
  have l1 : M1.length = g + 2 := by rw [k1.1, hl]
  rw [hl] at e1
  repeat (refine wf rfl ?_; first | refine wq_new ?_ | refine wq_iadd ?_ | refine wq_isub ?_ | refine wq_imul ?_ | refine wq_iinc rfl ?_ | refine wq_goto ?_ | refine wq_k rfl ?_ | refine wq_b rfl rfl ?_ | refine wq_getf (by assumption) rfl ?_ | refine wq_alen (by assumption) rfl ?_)
  refine wf rfl (wq_ci rfl rfl ((c_Row_init (M := M1 ++ [.inr (6, nth [] dfl 6)]) (a := M1.length) getL (by rw [List.length_append]; rfl)).mono ?_))
  rintro v M2 ⟨rfl, k2, r2⟩
  have k2' := Kee.new (P := fun q => q = g) k2
  have e2 := k2.at (by omega) (getA (x := .inr (6, nth [] dfl 6)) e1)
  have g2 := k2.at (by omega) (getA (x := .inr (6, nth [] dfl 6)) g1)
  rw [l1] at r2
  rw [l1]
  refine wf rfl (wq_putf e2 rfl (fun M3 e3 f3 => ?_))
  repeat (refine wf rfl ?_; first | refine wq_iadd ?_ | refine wq_isub ?_ | refine wq_imul ?_ | refine wq_iinc rfl ?_ | refine wq_goto ?_ | refine wq_k rfl ?_ | refine wq_b rfl rfl ?_ | refine wq_getf (by assumption) rfl ?_ | refine wq_alen (by assumption) rfl ?_)
  refine wf rfl (wq_putf e3 rfl (fun M4 e4 f4 => ?_))
  have k4 : Kee (fun q => q = g) 3 110 M M4 := (((k1.tr k2').tr f3.kee).tr f4.kee).mono rfl (by decide) (fun q hq => hq)
  have l4 : M4.length = g + 4 := by rw [k4.1, hl]
  have g4 := f4.at (by omega) (f3.at (by omega) g2)
  have r4 := (r2.fr f3 (by omega) (by omega)).fr f4 (by omega) (by omega)
  repeat (refine wf rfl ?_; first | refine wq_iadd ?_ | refine wq_isub ?_ | refine wq_imul ?_ | refine wq_iinc rfl ?_ | refine wq_goto ?_ | refine wq_k rfl ?_ | refine wq_b rfl rfl ?_ | refine wq_getf (by assumption) rfl ?_ | refine wq_alen (by assumption) rfl ?_)
  refine wf rfl (wq_newa ⟨by omega, by omega⟩ (by omega) (by omega) ?_)
  refine wf rfl (wq_putf (getA e4) rfl (fun M5 e5 f5 => ?_))
  have k5 : Kee (fun q => q = g) 1 26 M4 M5 := ((Kee.app _).tr f5.kee).mono rfl (by decide) (fun q hq => hq)
  have t5 : M5[g + 4]? = some (aJ 26 (fun _ => 0)) := f5.at (by omega) (by rw [← l4]; exact getL)
  have l5 : M5.length = g + 5 := by rw [k5.1, l4]
  rw [l4] at e5
  repeat (refine wf rfl ?_; first | refine wq_iadd ?_ | refine wq_isub ?_ | refine wq_imul ?_ | refine wq_iinc rfl ?_ | refine wq_goto ?_ | refine wq_k rfl ?_ | refine wq_b rfl rfl ?_ | refine wq_getf (by assumption) rfl ?_ | refine wq_alen (by assumption) rfl ?_)
  refine wf rfl (wq_newa ⟨by omega, by omega⟩ (by omega) (by omega) ?_)
  refine wf rfl (wq_putf (getA e5) rfl (fun M6 e6 f6 => ?_))
  have k6 : Kee (fun q => q = g) 1 26 M5 M6 := ((Kee.app _).tr f6.kee).mono rfl (by decide) (fun q hq => hq)
  have t6 : M6[g + 5]? = some (aJ 26 (fun _ => 0)) := f6.at (by omega) (by rw [← l5]; exact getL)
  have l6 : M6.length = g + 6 := by rw [k6.1, l5]
  rw [l5] at e6
  repeat (refine wf rfl ?_; first | refine wq_iadd ?_ | refine wq_isub ?_ | refine wq_imul ?_ | refine wq_iinc rfl ?_ | refine wq_goto ?_ | refine wq_k rfl ?_ | refine wq_b rfl rfl ?_ | refine wq_getf (by assumption) rfl ?_ | refine wq_alen (by assumption) rfl ?_)
  refine wf rfl (wq_newa ⟨by omega, by omega⟩ (by omega) (by omega) ?_)
  refine wf rfl (wq_putf (getA e6) rfl (fun M7 e7 f7 => ?_))
  have k7 : Kee (fun q => q = g) 1 26 M6 M7 := ((Kee.app _).tr f7.kee).mono rfl (by decide) (fun q hq => hq)
  have t7 : M7[g + 6]? = some (aJ 26 (fun _ => 0)) := f7.at (by omega) (by rw [← l6]; exact getL)
  have l7 : M7.length = g + 7 := by rw [k7.1, l6]
  rw [l6] at e7
  repeat (refine wf rfl ?_; first | refine wq_iadd ?_ | refine wq_isub ?_ | refine wq_imul ?_ | refine wq_iinc rfl ?_ | refine wq_goto ?_ | refine wq_k rfl ?_ | refine wq_b rfl rfl ?_ | refine wq_getf (by assumption) rfl ?_ | refine wq_alen (by assumption) rfl ?_)
  refine wf rfl (wq_putf e7 rfl (fun M8 e8 f8 => ?_))
  have k48 := ((k5.tr k6).tr k7).tr f8.kee
  have k8 := k4.tr k48
  have hst := fun (_ : True) => lp_ginit (M := M) (g := g) 26 0 M8 ⟨rfl, ⟨e8, ⟨_, k48.at (by omega) g4, fun k hk => by omega⟩, r4.kee k48 (by omega) (by omega), ((k6.tr k7).tr f8.kee).at (by omega) t5, (k7.tr f8.kee).at (by omega) t6, f8.kee.at (by omega) t7, fun k hk => by omega, by rw [f8.1, l7]⟩, by rw [k8.1], by have := k8.2.1; omega, fun q x hq hx => k8.at hq hx⟩
  repeat' (first | (refine Wp.sub (hst  ?_) ⟨rfl, rfl, trivial⟩ rfl) | (refine wf rfl ?_; first | refine wq_iadd ?_ | refine wq_isub ?_ | refine wq_imul ?_ | refine wq_iinc rfl ?_ | refine wq_goto ?_ | refine wq_k rfl ?_ | refine wq_b rfl rfl ?_ | refine wq_getf (by assumption) rfl ?_ | refine wq_alen (by assumption) rfl ?_ | fail | (refine wq_eq ⟨by omega, by omega⟩ ⟨by omega, by omega⟩ (fun _ => ?_) (fun _ => ?_) <;> try (exfalso; omega)) | (refine wq_ne ⟨by omega, by omega⟩ ⟨by omega, by omega⟩ (fun _ => ?_) (fun _ => ?_) <;> try (exfalso; omega)) | (refine wq_lt ⟨by omega, by omega⟩ ⟨by omega, by omega⟩ (fun _ => ?_) (fun _ => ?_) <;> try (exfalso; omega)) | (refine wq_ge ⟨by omega, by omega⟩ ⟨by omega, by omega⟩ (fun _ => ?_) (fun _ => ?_) <;> try (exfalso; omega)) | (refine wq_gt ⟨by omega, by omega⟩ ⟨by omega, by omega⟩ (fun _ => ?_) (fun _ => ?_) <;> try (exfalso; omega)) | (refine wq_le ⟨by omega, by omega⟩ ⟨by omega, by omega⟩ (fun _ => ?_) (fun _ => ?_) <;> try (exfalso; omega)) | (refine wq_ifeq ⟨by omega, by omega⟩ (fun _ => ?_) (fun _ => ?_) <;> try (exfalso; omega)) | (refine wq_ifne ⟨by omega, by omega⟩ (fun _ => ?_) (fun _ => ?_) <;> try (exfalso; omega)) | (refine wq_iflt ⟨by omega, by omega⟩ (fun _ => ?_) (fun _ => ?_) <;> try (exfalso; omega)) | (refine wq_ifge ⟨by omega, by omega⟩ (fun _ => ?_) (fun _ => ?_) <;> try (exfalso; omega)) | (refine wq_ifgt ⟨by omega, by omega⟩ (fun _ => ?_) (fun _ => ?_) <;> try (exfalso; omega)) | (refine wq_ifle ⟨by omega, by omega⟩ (fun _ => ?_) (fun _ => ?_) <;> try (exfalso; omega)) | refine wq_r rfl rfl rfl rfl rfl rfl ?_))
  trivial
end INI
