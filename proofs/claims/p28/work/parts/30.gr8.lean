def fitU (s : Int) (fl xs : List Int) : Prop := (xs.length : Int) + (cntE s xs : Int) * ((fl.length : Int) - 1) ≤ 80
def canU (N : Nat) (X : Nat → List Int) (mn : List Int) (r : Nat) : Prop := (∀ k, r < k → k < N → fitU (8 + (r : Int)) (X r) (X k)) ∧ fitU (8 + (r : Int)) (X r) mn
theorem unr_length (s : Int) (fl : List Int) : ∀ xs : List Int, ((unr s fl xs).length : Int) = (xs.length : Int) + (cntE s xs : Int) * ((fl.length : Int) - 1)
  | [] => by simp [unr, cntE]
  | x :: r => by
    have ih := unr_length s fl r
    unfold unr at ih ⊢
    rw [List.flatMap_cons, List.length_append, cntE, List.length_cons]
    by_cases h : x = s
    · have e : unr1 s fl x = fl := if_pos h
      rw [e, if_pos h, show (((1 + cntE s r : Nat) : Nat) : Int) = (cntE s r : Int) + 1 by omega, Int.add_mul, Int.one_mul]
      omega
    · have e : (unr1 s fl x).length = 1 := by
        unfold unr1
        rw [if_neg h]
        split <;> rfl
      rw [e, if_neg h, show (((0 + cntE s r : Nat) : Nat) : Int) = (cntE s r : Int) by omega]
      omega
section GR8
variable {M : PM} {g N : Nat} {p : Nat → Nat} {X : Nat → List Int} {mn : List Int} {lt dp us : Nat → Int} {W : Int}
theorem lp_gcanU (h : Gm M g N p X mn lt dp us W) (hX : WFX N X) (hm : WFm N mn) {r : Nat} (hr : r < N) (n : Nat) : ∀ (k : Int), ((r : Int) < k ∧ k ≤ N ∧ N - k < n ∧ ∀ j, r < j → j < k.toNat → fitU (8 + (r : Int)) (X r) (X j)) →
    Wp k_X0_canUnroll (10, [(0, .ref g), (1, .int (I r)), (2, .ref (p r)), (3, .int (I k))], [], M) (fun v M' => ((canU N X mn r ∧ v = some (.int (I 1))) ∨ (¬ canU N X mn r ∧ v = some (.int (I 0)))) ∧ M' = M) := by
  have hN := h.le
  have hg1 := h.obj
  have hrr := h.row (k := r) (by omega)
  induction n with
  | zero => intro k hi; exfalso; omega
  | succ n ih =>
    intro k hi
    obtain ⟨i1, i2, i3, i4⟩ := hi
    by_cases hk : k < N
    · have hkr := h.row (k := k.toNat) (by omega)
      have hru := c_Gr_ruleRow (k := k) ⟨by omega, by omega⟩ h
      rw [if_pos (by omega)] at hru
      have hcu := c_Row_canUnroll (sym := 8 + (r : Int)) ⟨by omega, by omega⟩ (hX.sb (k := k.toNat) (by omega) hN) hkr hrr
      obtain ⟨gr, h1, h2, h3, h4⟩ := hkr
      repeat (refine wf rfl ?_; first | refine wq_iadd ?_ | refine wq_isub ?_ | refine wq_imul ?_ | refine wq_iinc rfl ?_ | refine wq_goto ?_ | refine wq_k rfl ?_ | refine wq_b rfl rfl ?_ | refine wq_getf (by assumption) rfl ?_ | refine wq_alen (by assumption) rfl ?_)
      refine wf rfl (wq_ge ⟨by omega, by omega⟩ ⟨by omega, by omega⟩ (fun c1 => by exfalso; omega) (fun c1 => ?_))
      repeat (refine wf rfl ?_; first | refine wq_iadd ?_ | refine wq_isub ?_ | refine wq_imul ?_ | refine wq_iinc rfl ?_ | refine wq_goto ?_ | refine wq_k rfl ?_ | refine wq_b rfl rfl ?_ | refine wq_getf (by assumption) rfl ?_ | refine wq_alen (by assumption) rfl ?_)
      refine wf rfl (wq_cv rfl rfl rfl hg1 (hru.mono ?_))
      rintro v M ⟨rfl, rfl⟩
      repeat (refine wf rfl ?_; first | refine wq_iadd ?_ | refine wq_isub ?_ | refine wq_imul ?_ | refine wq_iinc rfl ?_ | refine wq_goto ?_ | refine wq_k rfl ?_ | refine wq_b rfl rfl ?_ | refine wq_getf (by assumption) rfl ?_ | refine wq_alen (by assumption) rfl ?_)
      refine wf rfl (wq_cv rfl rfl rfl h1 (hcu.mono ?_))
      rintro v M ⟨rfl, rfl⟩
      by_cases hfit : fitU (8 + (r : Int)) (X r) (X k.toNat)
      · have hfit2 := hfit
        unfold fitU at hfit2
        rw [if_pos hfit2]
        refine wf rfl (wq_ifne ⟨by omega, by omega⟩ (fun c2 => ?_) (fun c2 => by exfalso; omega))
        repeat' (first | (refine Wp.sub (ih _ ?_) ⟨rfl, rfl, rfl, rfl, trivial⟩ rfl) | (refine wf rfl ?_; first | refine wq_iadd ?_ | refine wq_isub ?_ | refine wq_imul ?_ | refine wq_iinc rfl ?_ | refine wq_goto ?_ | refine wq_k rfl ?_ | refine wq_b rfl rfl ?_ | refine wq_getf (by assumption) rfl ?_ | refine wq_alen (by assumption) rfl ?_ | fail | (refine wq_eq ⟨by omega, by omega⟩ ⟨by omega, by omega⟩ (fun _ => ?_) (fun _ => ?_) <;> try (exfalso; omega)) | (refine wq_ne ⟨by omega, by omega⟩ ⟨by omega, by omega⟩ (fun _ => ?_) (fun _ => ?_) <;> try (exfalso; omega)) | (refine wq_lt ⟨by omega, by omega⟩ ⟨by omega, by omega⟩ (fun _ => ?_) (fun _ => ?_) <;> try (exfalso; omega)) | (refine wq_ge ⟨by omega, by omega⟩ ⟨by omega, by omega⟩ (fun _ => ?_) (fun _ => ?_) <;> try (exfalso; omega)) | (refine wq_gt ⟨by omega, by omega⟩ ⟨by omega, by omega⟩ (fun _ => ?_) (fun _ => ?_) <;> try (exfalso; omega)) | (refine wq_le ⟨by omega, by omega⟩ ⟨by omega, by omega⟩ (fun _ => ?_) (fun _ => ?_) <;> try (exfalso; omega)) | (refine wq_ifeq ⟨by omega, by omega⟩ (fun _ => ?_) (fun _ => ?_) <;> try (exfalso; omega)) | (refine wq_ifne ⟨by omega, by omega⟩ (fun _ => ?_) (fun _ => ?_) <;> try (exfalso; omega)) | (refine wq_iflt ⟨by omega, by omega⟩ (fun _ => ?_) (fun _ => ?_) <;> try (exfalso; omega)) | (refine wq_ifge ⟨by omega, by omega⟩ (fun _ => ?_) (fun _ => ?_) <;> try (exfalso; omega)) | (refine wq_ifgt ⟨by omega, by omega⟩ (fun _ => ?_) (fun _ => ?_) <;> try (exfalso; omega)) | (refine wq_ifle ⟨by omega, by omega⟩ (fun _ => ?_) (fun _ => ?_) <;> try (exfalso; omega)) | refine wq_r rfl rfl rfl rfl rfl rfl ?_))
        refine ⟨by omega, by omega, by omega, fun j h1 h2 => ?_⟩
        by_cases he : j = k.toNat
        · subst he; exact hfit
        · exact i4 j h1 (by omega)
      · have hfit2 := hfit
        unfold fitU at hfit2
        rw [if_neg hfit2]
        refine wf rfl (wq_ifne ⟨by omega, by omega⟩ (fun c2 => absurd rfl c2) (fun c2 => ?_))
        repeat' (refine wf rfl ?_; first | refine wq_iadd ?_ | refine wq_isub ?_ | refine wq_imul ?_ | refine wq_iinc rfl ?_ | refine wq_goto ?_ | refine wq_k rfl ?_ | refine wq_b rfl rfl ?_ | refine wq_getf (by assumption) rfl ?_ | refine wq_alen (by assumption) rfl ?_ | (refine wq_eq ⟨by omega, by omega⟩ ⟨by omega, by omega⟩ (fun _ => ?_) (fun _ => ?_) <;> try (exfalso; omega)) | (refine wq_ne ⟨by omega, by omega⟩ ⟨by omega, by omega⟩ (fun _ => ?_) (fun _ => ?_) <;> try (exfalso; omega)) | (refine wq_lt ⟨by omega, by omega⟩ ⟨by omega, by omega⟩ (fun _ => ?_) (fun _ => ?_) <;> try (exfalso; omega)) | (refine wq_ge ⟨by omega, by omega⟩ ⟨by omega, by omega⟩ (fun _ => ?_) (fun _ => ?_) <;> try (exfalso; omega)) | (refine wq_gt ⟨by omega, by omega⟩ ⟨by omega, by omega⟩ (fun _ => ?_) (fun _ => ?_) <;> try (exfalso; omega)) | (refine wq_le ⟨by omega, by omega⟩ ⟨by omega, by omega⟩ (fun _ => ?_) (fun _ => ?_) <;> try (exfalso; omega)) | (refine wq_ifeq ⟨by omega, by omega⟩ (fun _ => ?_) (fun _ => ?_) <;> try (exfalso; omega)) | (refine wq_ifne ⟨by omega, by omega⟩ (fun _ => ?_) (fun _ => ?_) <;> try (exfalso; omega)) | (refine wq_iflt ⟨by omega, by omega⟩ (fun _ => ?_) (fun _ => ?_) <;> try (exfalso; omega)) | (refine wq_ifge ⟨by omega, by omega⟩ (fun _ => ?_) (fun _ => ?_) <;> try (exfalso; omega)) | (refine wq_ifgt ⟨by omega, by omega⟩ (fun _ => ?_) (fun _ => ?_) <;> try (exfalso; omega)) | (refine wq_ifle ⟨by omega, by omega⟩ (fun _ => ?_) (fun _ => ?_) <;> try (exfalso; omega)) | refine wq_r rfl rfl rfl rfl rfl rfl ?_)
        exact ⟨Or.inr ⟨fun z => hfit (z.1 k.toNat (by omega) (by omega)), rfl⟩, rfl⟩
    · have hcu := c_Row_canUnroll (sym := 8 + (r : Int)) ⟨by omega, by omega⟩ (hm.sb hN) h.main hrr
      obtain ⟨gr, h1, h2, h3, h4⟩ := h.main
      repeat (refine wf rfl ?_; first | refine wq_iadd ?_ | refine wq_isub ?_ | refine wq_imul ?_ | refine wq_iinc rfl ?_ | refine wq_goto ?_ | refine wq_k rfl ?_ | refine wq_b rfl rfl ?_ | refine wq_getf (by assumption) rfl ?_ | refine wq_alen (by assumption) rfl ?_)
      refine wf rfl (wq_ge ⟨by omega, by omega⟩ ⟨by omega, by omega⟩ (fun c1 => ?_) (fun c1 => by exfalso; omega))
      repeat (refine wf rfl ?_; first | refine wq_iadd ?_ | refine wq_isub ?_ | refine wq_imul ?_ | refine wq_iinc rfl ?_ | refine wq_goto ?_ | refine wq_k rfl ?_ | refine wq_b rfl rfl ?_ | refine wq_getf (by assumption) rfl ?_ | refine wq_alen (by assumption) rfl ?_)
      refine wf rfl (wq_cv rfl rfl rfl h1 (hcu.mono ?_))
      rintro v M ⟨rfl, rfl⟩
      by_cases hfit : fitU (8 + (r : Int)) (X r) mn
      · have hfit2 := hfit
        unfold fitU at hfit2
        rw [if_pos hfit2]
        repeat' (refine wf rfl ?_; first | refine wq_iadd ?_ | refine wq_isub ?_ | refine wq_imul ?_ | refine wq_iinc rfl ?_ | refine wq_goto ?_ | refine wq_k rfl ?_ | refine wq_b rfl rfl ?_ | refine wq_getf (by assumption) rfl ?_ | refine wq_alen (by assumption) rfl ?_ | (refine wq_eq ⟨by omega, by omega⟩ ⟨by omega, by omega⟩ (fun _ => ?_) (fun _ => ?_) <;> try (exfalso; omega)) | (refine wq_ne ⟨by omega, by omega⟩ ⟨by omega, by omega⟩ (fun _ => ?_) (fun _ => ?_) <;> try (exfalso; omega)) | (refine wq_lt ⟨by omega, by omega⟩ ⟨by omega, by omega⟩ (fun _ => ?_) (fun _ => ?_) <;> try (exfalso; omega)) | (refine wq_ge ⟨by omega, by omega⟩ ⟨by omega, by omega⟩ (fun _ => ?_) (fun _ => ?_) <;> try (exfalso; omega)) | (refine wq_gt ⟨by omega, by omega⟩ ⟨by omega, by omega⟩ (fun _ => ?_) (fun _ => ?_) <;> try (exfalso; omega)) | (refine wq_le ⟨by omega, by omega⟩ ⟨by omega, by omega⟩ (fun _ => ?_) (fun _ => ?_) <;> try (exfalso; omega)) | (refine wq_ifeq ⟨by omega, by omega⟩ (fun _ => ?_) (fun _ => ?_) <;> try (exfalso; omega)) | (refine wq_ifne ⟨by omega, by omega⟩ (fun _ => ?_) (fun _ => ?_) <;> try (exfalso; omega)) | (refine wq_iflt ⟨by omega, by omega⟩ (fun _ => ?_) (fun _ => ?_) <;> try (exfalso; omega)) | (refine wq_ifge ⟨by omega, by omega⟩ (fun _ => ?_) (fun _ => ?_) <;> try (exfalso; omega)) | (refine wq_ifgt ⟨by omega, by omega⟩ (fun _ => ?_) (fun _ => ?_) <;> try (exfalso; omega)) | (refine wq_ifle ⟨by omega, by omega⟩ (fun _ => ?_) (fun _ => ?_) <;> try (exfalso; omega)) | refine wq_r rfl rfl rfl rfl rfl rfl ?_)
        exact ⟨Or.inl ⟨⟨fun j h1 h2 => i4 j h1 (by omega), hfit⟩, rfl⟩, rfl⟩
      · have hfit2 := hfit
        unfold fitU at hfit2
        rw [if_neg hfit2]
        repeat' (refine wf rfl ?_; first | refine wq_iadd ?_ | refine wq_isub ?_ | refine wq_imul ?_ | refine wq_iinc rfl ?_ | refine wq_goto ?_ | refine wq_k rfl ?_ | refine wq_b rfl rfl ?_ | refine wq_getf (by assumption) rfl ?_ | refine wq_alen (by assumption) rfl ?_ | (refine wq_eq ⟨by omega, by omega⟩ ⟨by omega, by omega⟩ (fun _ => ?_) (fun _ => ?_) <;> try (exfalso; omega)) | (refine wq_ne ⟨by omega, by omega⟩ ⟨by omega, by omega⟩ (fun _ => ?_) (fun _ => ?_) <;> try (exfalso; omega)) | (refine wq_lt ⟨by omega, by omega⟩ ⟨by omega, by omega⟩ (fun _ => ?_) (fun _ => ?_) <;> try (exfalso; omega)) | (refine wq_ge ⟨by omega, by omega⟩ ⟨by omega, by omega⟩ (fun _ => ?_) (fun _ => ?_) <;> try (exfalso; omega)) | (refine wq_gt ⟨by omega, by omega⟩ ⟨by omega, by omega⟩ (fun _ => ?_) (fun _ => ?_) <;> try (exfalso; omega)) | (refine wq_le ⟨by omega, by omega⟩ ⟨by omega, by omega⟩ (fun _ => ?_) (fun _ => ?_) <;> try (exfalso; omega)) | (refine wq_ifeq ⟨by omega, by omega⟩ (fun _ => ?_) (fun _ => ?_) <;> try (exfalso; omega)) | (refine wq_ifne ⟨by omega, by omega⟩ (fun _ => ?_) (fun _ => ?_) <;> try (exfalso; omega)) | (refine wq_iflt ⟨by omega, by omega⟩ (fun _ => ?_) (fun _ => ?_) <;> try (exfalso; omega)) | (refine wq_ifge ⟨by omega, by omega⟩ (fun _ => ?_) (fun _ => ?_) <;> try (exfalso; omega)) | (refine wq_ifgt ⟨by omega, by omega⟩ (fun _ => ?_) (fun _ => ?_) <;> try (exfalso; omega)) | (refine wq_ifle ⟨by omega, by omega⟩ (fun _ => ?_) (fun _ => ?_) <;> try (exfalso; omega)) | refine wq_r rfl rfl rfl rfl rfl rfl ?_)
        exact ⟨Or.inr ⟨fun z => hfit z.2, rfl⟩, rfl⟩
theorem c_Gr_canUnroll (h : Gm M g N p X mn lt dp us W) (hX : WFX N X) (hm : WFm N mn) {r : Nat} (hr : r < N) : Wm 33 [.ref g, .int (I r)] M (fun v M' => ((canU N X mn r ∧ v = some (.int (I 1))) ∨ (¬ canU N X mn r ∧ v = some (.int (I 0)))) ∧ M' = M) := by
  have hN := h.le
  have hg1 := h.obj
  have hru := c_Gr_ruleRow (k := r) ⟨by omega, by omega⟩ h
  rw [if_pos (by omega)] at hru
  rw [show ((r : Int)).toNat = r by omega] at hru
  refine wm_in (lv := _) rfl rfl rfl ?_
  repeat (refine wf rfl ?_; first | refine wq_iadd ?_ | refine wq_isub ?_ | refine wq_imul ?_ | refine wq_iinc rfl ?_ | refine wq_goto ?_ | refine wq_k rfl ?_ | refine wq_b rfl rfl ?_ | refine wq_getf (by assumption) rfl ?_ | refine wq_alen (by assumption) rfl ?_)
  refine wf rfl (wq_cv rfl rfl rfl hg1 (hru.mono ?_))
  rintro v M ⟨rfl, rfl⟩
  repeat' (first | (refine Wp.sub (lp_gcanU h hX hm hr 100 _ ?_) ⟨rfl, rfl, rfl, rfl, trivial⟩ rfl) | (refine wf rfl ?_; first | refine wq_iadd ?_ | refine wq_isub ?_ | refine wq_imul ?_ | refine wq_iinc rfl ?_ | refine wq_goto ?_ | refine wq_k rfl ?_ | refine wq_b rfl rfl ?_ | refine wq_getf (by assumption) rfl ?_ | refine wq_alen (by assumption) rfl ?_ | fail | (refine wq_eq ⟨by omega, by omega⟩ ⟨by omega, by omega⟩ (fun _ => ?_) (fun _ => ?_) <;> try (exfalso; omega)) | (refine wq_ne ⟨by omega, by omega⟩ ⟨by omega, by omega⟩ (fun _ => ?_) (fun _ => ?_) <;> try (exfalso; omega)) | (refine wq_lt ⟨by omega, by omega⟩ ⟨by omega, by omega⟩ (fun _ => ?_) (fun _ => ?_) <;> try (exfalso; omega)) | (refine wq_ge ⟨by omega, by omega⟩ ⟨by omega, by omega⟩ (fun _ => ?_) (fun _ => ?_) <;> try (exfalso; omega)) | (refine wq_gt ⟨by omega, by omega⟩ ⟨by omega, by omega⟩ (fun _ => ?_) (fun _ => ?_) <;> try (exfalso; omega)) | (refine wq_le ⟨by omega, by omega⟩ ⟨by omega, by omega⟩ (fun _ => ?_) (fun _ => ?_) <;> try (exfalso; omega)) | (refine wq_ifeq ⟨by omega, by omega⟩ (fun _ => ?_) (fun _ => ?_) <;> try (exfalso; omega)) | (refine wq_ifne ⟨by omega, by omega⟩ (fun _ => ?_) (fun _ => ?_) <;> try (exfalso; omega)) | (refine wq_iflt ⟨by omega, by omega⟩ (fun _ => ?_) (fun _ => ?_) <;> try (exfalso; omega)) | (refine wq_ifge ⟨by omega, by omega⟩ (fun _ => ?_) (fun _ => ?_) <;> try (exfalso; omega)) | (refine wq_ifgt ⟨by omega, by omega⟩ (fun _ => ?_) (fun _ => ?_) <;> try (exfalso; omega)) | (refine wq_ifle ⟨by omega, by omega⟩ (fun _ => ?_) (fun _ => ?_) <;> try (exfalso; omega)) | refine wq_r rfl rfl rfl rfl rfl rfl ?_))
  exact ⟨by omega, by omega, by omega, fun j h1 h2 => by omega⟩
/-- a grammar's cells but the row of its rows -/
def Gb (M : PM) (g N : Nat) (p : Nat → Nat) (X : Nat → List Int) (mn : List Int) (lt dp us : Nat → Int) (W : Int) : Prop :=
  M[g]? = some (.inr (0, [.ref (g + 1), .ref (g + 2), .int (I N), .ref (g + 4), .ref (g + 5), .ref (g + 6), .int (I W)])) ∧
  Rw M (g + 2) mn ∧ M[g + 4]? = some (aJ 26 lt) ∧ M[g + 5]? = some (aJ 26 dp) ∧ M[g + 6]? = some (aJ 26 us) ∧
  (∀ k, k < 26 → Rw M (p k) (X k)) ∧ (∀ k, k < 26 → ∃ j, j < 26 ∧ p k = g + 7 + 2 * j) ∧ (∀ j k, j < 26 → k < 26 → p j = p k → j = k) ∧ N ≤ 26
theorem Gm.gb (h : Gm M g N p X mn lt dp us W) : Gb M g N p X mn lt dp us W := ⟨h.1, h.2.2⟩
theorem Gb.newRow {M1 : PM} {k : Nat} {xs : List Int} (h : Gb M g N p X mn lt dp us W) (hk : k < 26) (f : Fr (fun q => q = p k ∨ q = p k + 1) M M1) (hr : Rw M1 (p k) xs) : Gb M1 g N p (updF X k xs) mn lt dp us W := by
  obtain ⟨q1, q4, q5, q6, q7, q8, q9, q10, q11⟩ := h
  obtain ⟨a, ha, ea⟩ := q9 k hk
  refine ⟨f.at (by omega) q1, q4.fr f (by omega) (by omega), f.at (by omega) q5, f.at (by omega) q6, f.at (by omega) q7, fun j hj => ?_, q9, q10, q11⟩
  by_cases he : j = k
  · subst he
    rw [updF_at]
    exact hr
  · rw [updF_ne _ _ he]
    obtain ⟨b, hb, eb⟩ := q9 j hj
    have : p j ≠ p k := fun z => he (q10 j k hj hk z)
    exact (q8 j hj).fr f (by omega) (by omega)
theorem Gb.newMain {M1 : PM} {ys : List Int} (h : Gb M g N p X mn lt dp us W) (f : Fr (fun q => q = g + 2 ∨ q = g + 3) M M1) (hr : Rw M1 (g + 2) ys) : Gb M1 g N p X ys lt dp us W := by
  obtain ⟨q1, q4, q5, q6, q7, q8, q9, q10, q11⟩ := h
  refine ⟨f.at (by omega) q1, hr, f.at (by omega) q5, f.at (by omega) q6, f.at (by omega) q7, fun j hj => ?_, q9, q10, q11⟩
  obtain ⟨b, hb, eb⟩ := q9 j hj
  exact (q8 j hj).fr f (by omega) (by omega)
theorem Gb.arr {M1 : PM} (h : Gb M g N p X mn lt dp us W) (f : Fr (fun q => q = g + 1) M M1) : Gb M1 g N p X mn lt dp us W := by
  obtain ⟨q1, q4, q5, q6, q7, q8, q9, q10, q11⟩ := h
  refine ⟨f.at (by omega) q1, q4.fr f (by omega) (by omega), f.at (by omega) q5, f.at (by omega) q6, f.at (by omega) q7, fun j hj => ?_, q9, q10, q11⟩
  obtain ⟨b, hb, eb⟩ := q9 j hj
  exact (q8 j hj).fr f (by omega) (by omega)
theorem Gb.objs {M1 : PM} {N' : Nat} (h : Gb M g N p X mn lt dp us W) (f : Fr (fun q => q = g) M M1) (h0 : M1[g]? = some (.inr (0, [.ref (g + 1), .ref (g + 2), .int (I N'), .ref (g + 4), .ref (g + 5), .ref (g + 6), .int (I W)]))) (hN : N' ≤ 26) : Gb M1 g N' p X mn lt dp us W := by
  obtain ⟨q1, q4, q5, q6, q7, q8, q9, q10, q11⟩ := h
  refine ⟨h0, q4.fr f (by omega) (by omega), f.at (by omega) q5, f.at (by omega) q6, f.at (by omega) q7, fun j hj => ?_, q9, q10, hN⟩
  obtain ⟨b, hb, eb⟩ := q9 j hj
  exact (q8 j hj).fr f (by omega) (by omega)
/-- where the rows stand behind an unrolling of r of N -/
def sgU (N r j : Nat) : Nat := if j < r then j else if j + 1 < N then j + 1 else if j + 1 = N then r else j
theorem sgU_lt {N r j : Nat} (hr : r < N) (hN : N ≤ 26) (hj : j < 26) : sgU N r j < 26 := by
  unfold sgU
  split
  · exact hj
  · split
    · omega
    · split <;> omega
theorem sgU_inj {N r j k : Nat} (hr : r < N) (h : sgU N r j = sgU N r k) : j = k := by
  unfold sgU at h
  (repeat' split at h) <;> omega
theorem lp_unroll (hX : WFX N X) (hm : WFm N mn) (hne : ∀ k, k < N → 1 ≤ (X k).length) {r : Nat} (hr : r < N) (hcu : canU N X mn r) (n : Nat) : ∀ (k : Int) (M1 : PM), ((r : Int) < k ∧ k ≤ N ∧ N - k < n ∧ Fr (inG g) M M1 ∧ ∃ X1 f, Gb M1 g N p X1 mn lt dp us W ∧ M1[g + 1]? = some (aQ 2 26 f) ∧ (∀ j, j < 26 → f j = some (if r ≤ j ∧ j + 1 < k.toNat then p (j + 1) else p j)) ∧ ∀ j, j < N → X1 j = if r < j ∧ j < k.toNat then unr (8 + (r : Int)) (X r) (X j) else X j) →
    Wp k_X0_unrollRule (20, [(0, .ref g), (1, .int (I r)), (2, .ref (p r)), (3, .int (I k))], [], M1) (fun v M' => v = none ∧ Fr (inG g) M M' ∧ ∃ X2, (∀ j, j + 1 < N → X2 j = if j < r then X j else unr (8 + (r : Int)) (X r) (X (j + 1))) ∧ WFX (N - 1) X2 ∧ WFm (N - 1) (unr (8 + (r : Int)) (X r) mn) ∧ ∃ lt' dp' us' W', Gm M' g (N - 1) (fun j => p (sgU N r j)) X2 (unr (8 + (r : Int)) (X r) mn) lt' dp' us' W' ∧ Ms (N - 1) X2 (unr (8 + (r : Int)) (X r) mn) lt' dp' us' W') := by
  induction n with
  | zero => intro k M1 hi; exfalso; omega
  | succ n ih =>
    intro k M1 hi
    obtain ⟨i1, i2, i3, i4, X1, f, hg, hf1, hf2, hx1⟩ := hi
    obtain ⟨o1, hmn, hl1, hd1, hu1, hrows, hpos, hinj, hN⟩ := id hg
    have exr : X1 r = X r := by rw [hx1 r hr, if_neg (by omega)]
    have hrr := hrows r (by omega)
    rw [exr] at hrr
    obtain ⟨jr, hjr, ejr⟩ := hpos r (by omega)
    by_cases hk : k < N
    · have hkk : k.toNat < 26 := by omega
      obtain ⟨jk, hjk, ejk⟩ := hpos k.toNat hkk
      have hnpk : p k.toNat ≠ p r := fun z => by have := hinj _ _ hkk (by omega) z; omega
      have exk : X1 k.toNat = X k.toNat := by rw [hx1 _ (by omega), if_neg (by omega)]
      have hrk := hrows k.toNat hkk
      rw [exk] at hrk
      have hfit := hcu.1 k.toNat (by omega) (by omega)
      have hul := unr_length (8 + (r : Int)) (X r) (X k.toNat)
      unfold fitU at hfit
      have hus := c_Row_unrollSymbol (sym := 8 + (r : Int)) (by omega) (by omega) (hne r hr) (by omega) (hX.sb (k := k.toNat) (by omega) hN) hrk hrr
      obtain ⟨gr, h1, h2, h3, h4⟩ := id hrk
      have hfk : f k.toNat = some (p k.toNat) := by rw [hf2 _ hkk, if_neg (by omega)]
      repeat (refine wf rfl ?_; first | refine wq_iadd ?_ | refine wq_isub ?_ | refine wq_imul ?_ | refine wq_iinc rfl ?_ | refine wq_goto ?_ | refine wq_k rfl ?_ | refine wq_b rfl rfl ?_ | refine wq_getf (by assumption) rfl ?_ | refine wq_alen (by assumption) rfl ?_)
      refine wf rfl (wq_ge ⟨by omega, by omega⟩ ⟨by omega, by omega⟩ (fun c1 => by exfalso; omega) (fun c1 => ?_))
      repeat (refine wf rfl ?_; first | refine wq_iadd ?_ | refine wq_isub ?_ | refine wq_imul ?_ | refine wq_iinc rfl ?_ | refine wq_goto ?_ | refine wq_k rfl ?_ | refine wq_b rfl rfl ?_ | refine wq_getf (by assumption) rfl ?_ | refine wq_alen (by assumption) rfl ?_)
      refine wf rfl (wq_ge ⟨by omega, by omega⟩ ⟨by omega, by omega⟩ (fun c1 => by exfalso; omega) (fun c1 => ?_))
      repeat (refine wf rfl ?_; first | refine wq_iadd ?_ | refine wq_isub ?_ | refine wq_imul ?_ | refine wq_iinc rfl ?_ | refine wq_goto ?_ | refine wq_k rfl ?_ | refine wq_b rfl rfl ?_ | refine wq_getf (by assumption) rfl ?_ | refine wq_alen (by assumption) rfl ?_)
      refine wf rfl (wq_aald hf1 rfl ⟨by omega, by omega⟩ (by omega) (by omega) hfk ?_)
      repeat (refine wf rfl ?_; first | refine wq_iadd ?_ | refine wq_isub ?_ | refine wq_imul ?_ | refine wq_iinc rfl ?_ | refine wq_goto ?_ | refine wq_k rfl ?_ | refine wq_b rfl rfl ?_ | refine wq_getf (by assumption) rfl ?_ | refine wq_alen (by assumption) rfl ?_)
      refine wf rfl (wq_cv rfl rfl rfl h1 (hus.mono ?_))
      rintro v M2 ⟨rfl, hr2, f2⟩
      have hg2 := hg.newRow hkk f2 hr2
      have hf12 := f2.at (by omega) hf1
      have o2 := hg2.1
      obtain ⟨gr2, y1, y2, y3, y4⟩ := id hr2
      repeat (refine wf rfl ?_; first | refine wq_iadd ?_ | refine wq_isub ?_ | refine wq_imul ?_ | refine wq_iinc rfl ?_ | refine wq_goto ?_ | refine wq_k rfl ?_ | refine wq_b rfl rfl ?_ | refine wq_getf (by assumption) rfl ?_ | refine wq_alen (by assumption) rfl ?_)
      refine wf rfl (wq_aald hf12 rfl ⟨by omega, by omega⟩ (by omega) (by omega) hfk ?_)
      refine wf rfl (wq_aast hf12 y1 rfl ⟨by omega, by omega⟩ (by omega) (by omega) (fun M3 e3 f3 => ?_))
      have hg3 := hg2.arr f3
      repeat' (first | (refine Wp.sub (ih _ _ ?_) ⟨rfl, rfl, rfl, rfl, trivial⟩ rfl) | (refine wf rfl ?_; first | refine wq_iadd ?_ | refine wq_isub ?_ | refine wq_imul ?_ | refine wq_iinc rfl ?_ | refine wq_goto ?_ | refine wq_k rfl ?_ | refine wq_b rfl rfl ?_ | refine wq_getf (by assumption) rfl ?_ | refine wq_alen (by assumption) rfl ?_ | fail | (refine wq_eq ⟨by omega, by omega⟩ ⟨by omega, by omega⟩ (fun _ => ?_) (fun _ => ?_) <;> try (exfalso; omega)) | (refine wq_ne ⟨by omega, by omega⟩ ⟨by omega, by omega⟩ (fun _ => ?_) (fun _ => ?_) <;> try (exfalso; omega)) | (refine wq_lt ⟨by omega, by omega⟩ ⟨by omega, by omega⟩ (fun _ => ?_) (fun _ => ?_) <;> try (exfalso; omega)) | (refine wq_ge ⟨by omega, by omega⟩ ⟨by omega, by omega⟩ (fun _ => ?_) (fun _ => ?_) <;> try (exfalso; omega)) | (refine wq_gt ⟨by omega, by omega⟩ ⟨by omega, by omega⟩ (fun _ => ?_) (fun _ => ?_) <;> try (exfalso; omega)) | (refine wq_le ⟨by omega, by omega⟩ ⟨by omega, by omega⟩ (fun _ => ?_) (fun _ => ?_) <;> try (exfalso; omega)) | (refine wq_ifeq ⟨by omega, by omega⟩ (fun _ => ?_) (fun _ => ?_) <;> try (exfalso; omega)) | (refine wq_ifne ⟨by omega, by omega⟩ (fun _ => ?_) (fun _ => ?_) <;> try (exfalso; omega)) | (refine wq_iflt ⟨by omega, by omega⟩ (fun _ => ?_) (fun _ => ?_) <;> try (exfalso; omega)) | (refine wq_ifge ⟨by omega, by omega⟩ (fun _ => ?_) (fun _ => ?_) <;> try (exfalso; omega)) | (refine wq_ifgt ⟨by omega, by omega⟩ (fun _ => ?_) (fun _ => ?_) <;> try (exfalso; omega)) | (refine wq_ifle ⟨by omega, by omega⟩ (fun _ => ?_) (fun _ => ?_) <;> try (exfalso; omega)) | refine wq_r rfl rfl rfl rfl rfl rfl ?_))
      refine ⟨by omega, by omega, by omega, (i4.tr (f2.mono (fun q hq => by unfold inG; omega))).tr (f3.mono (fun q hq => by unfold inG; omega)), _, _, hg3, e3, fun j hj => ?_, fun j hj => ?_⟩
      · unfold va_up
        by_cases he : j = (k - 1).toNat
        · rw [if_pos he, if_pos (by omega)]
          congr 2
          omega
        · rw [if_neg he, hf2 j hj]
          by_cases hq : r ≤ j ∧ j + 1 < k.toNat
          · rw [if_pos hq, if_pos (by omega)]
          · rw [if_neg hq, if_neg (by omega)]
      · by_cases he : j = k.toNat
        · subst he
          rw [updF_at, if_pos (by omega)]
        · rw [updF_ne _ _ he, hx1 j hj]
          by_cases hq : r < j ∧ j < k.toNat
          · rw [if_pos hq, if_pos (by omega)]
          · rw [if_neg hq, if_neg (by omega)]
    · have ek : k.toNat = N := by omega
      rw [ek] at hf2 hx1
      have hfit := hcu.2
      have hul := unr_length (8 + (r : Int)) (X r) mn
      unfold fitU at hfit
      have hus := c_Row_unrollSymbol (sym := 8 + (r : Int)) (by omega) (by omega) (hne r hr) (by omega) (hm.sb hN) hmn hrr
      obtain ⟨gr, h1, h2, h3, h4⟩ := id hmn
      repeat (refine wf rfl ?_; first | refine wq_iadd ?_ | refine wq_isub ?_ | refine wq_imul ?_ | refine wq_iinc rfl ?_ | refine wq_goto ?_ | refine wq_k rfl ?_ | refine wq_b rfl rfl ?_ | refine wq_getf (by assumption) rfl ?_ | refine wq_alen (by assumption) rfl ?_)
      refine wf rfl (wq_ge ⟨by omega, by omega⟩ ⟨by omega, by omega⟩ (fun c1 => ?_) (fun c1 => by exfalso; omega))
      repeat (refine wf rfl ?_; first | refine wq_iadd ?_ | refine wq_isub ?_ | refine wq_imul ?_ | refine wq_iinc rfl ?_ | refine wq_goto ?_ | refine wq_k rfl ?_ | refine wq_b rfl rfl ?_ | refine wq_getf (by assumption) rfl ?_ | refine wq_alen (by assumption) rfl ?_)
      refine wf rfl (wq_cv rfl rfl rfl h1 (hus.mono ?_))
      rintro v M2 ⟨rfl, hr2, f2⟩
      have hg2 := hg.newMain f2 hr2
      have hf12 := f2.at (by omega) hf1
      have o2 := hg2.1
      repeat (refine wf rfl ?_; first | refine wq_iadd ?_ | refine wq_isub ?_ | refine wq_imul ?_ | refine wq_iinc rfl ?_ | refine wq_goto ?_ | refine wq_k rfl ?_ | refine wq_b rfl rfl ?_ | refine wq_getf (by assumption) rfl ?_ | refine wq_alen (by assumption) rfl ?_)
      refine wf rfl (wq_putf o2 rfl (fun M3 e3 f3 => ?_))
      have e3 : M3[g]? = some (.inr (0, [.ref (g + 1), .ref (g + 2), .int (I (N - 1 : Nat)), .ref (g + 4), .ref (g + 5), .ref (g + 6), .int (I W)])) := by
        rw [show ((N - 1 : Nat) : Int) = (N : Int) - 1 by omega]; exact e3
      have hg3 := hg2.objs f3 e3 (by omega)
      have hf13 := f3.at (by omega) hf12
      obtain ⟨grr, y1, y2, y3, y4⟩ := hg3.2.2.2.2.2.1 r (by omega)
      repeat (refine wf rfl ?_; first | refine wq_iadd ?_ | refine wq_isub ?_ | refine wq_imul ?_ | refine wq_iinc rfl ?_ | refine wq_goto ?_ | refine wq_k rfl ?_ | refine wq_b rfl rfl ?_ | refine wq_getf (by assumption) rfl ?_ | refine wq_alen (by assumption) rfl ?_)
      refine wf rfl (wq_aast hf13 y1 rfl ⟨by omega, by omega⟩ (by omega) (by omega) (fun M4 e4 f4 => ?_))
      have hg4 := hg3.arr f4
      have frA : Fr (inG g) M M4 := ((i4.tr (f2.mono (fun q hq => by unfold inG; omega))).tr (f3.mono (fun q hq => by unfold inG; omega))).tr (f4.mono (fun q hq => by unfold inG; omega))
      have hX2 : ∀ j, j + 1 < N → X1 (sgU N r j) = if j < r then X j else unr (8 + (r : Int)) (X r) (X (j + 1)) := by
        intro j hj
        unfold sgU
        by_cases hq : j < r
        · rw [if_pos hq, if_pos hq, hx1 j (by omega), if_neg (by omega)]
        · rw [if_neg hq, if_neg hq, if_pos hj, hx1 _ hj, if_pos (by omega)]
      have hunr : ∀ (xs : List Int) (B : Nat), r < B → (∀ s ∈ xs, 0 ≤ s ∧ s < 8 + (B : Int)) → ∀ s ∈ unr (8 + (r : Int)) (X r) xs, 0 ≤ s ∧ s < 8 + ((B - 1 : Nat) : Int) := by
        intro xs B hB hxs s hs
        unfold unr at hs
        obtain ⟨x, hx, hs⟩ := List.mem_flatMap.mp hs
        have h1 := hxs x hx
        unfold unr1 at hs
        split at hs
        · have := hX r hr s hs
          omega
        · split at hs
          · have := List.mem_singleton.mp hs
            omega
          · have := List.mem_singleton.mp hs
            omega
      have hwx : WFX (N - 1) (fun j => X1 (sgU N r j)) := by
        intro j hj s hs
        dsimp only at hs
        rw [hX2 j (by omega)] at hs
        split at hs
        · have := hX j (by omega) s hs
          omega
        · have := hunr (X (j + 1)) (j + 1) (by omega) (fun s hs => by have := hX (j + 1) (by omega) s hs; omega) s hs
          omega
      have hwm : WFm (N - 1) (unr (8 + (r : Int)) (X r) mn) := hunr mn N hr hm
      have hG : Gm M4 g (N - 1) (fun j => p (sgU N r j)) (fun j => X1 (sgU N r j)) (unr (8 + (r : Int)) (X r) mn) lt dp us W := by
        obtain ⟨z1, z2, z3, z4, z5, z6, z7, z8, z9⟩ := hg4
        refine ⟨z1, ⟨_, e4, fun j hj => ?_⟩, z2, z3, z4, z5, fun j hj => z6 _ (sgU_lt hr hN hj), fun j hj => z7 _ (sgU_lt hr hN hj), fun j k hj hk e => sgU_inj hr (z8 _ _ (sgU_lt hr hN hj) (sgU_lt hr hN hk) e), by omega⟩
        unfold va_up
        by_cases he : j = (((N - 1 : Nat) : Int)).toNat
        · rw [if_pos he]
          show some (p r) = some (p (sgU N r j))
          unfold sgU
          rw [if_neg (by omega), if_neg (by omega), if_pos (by omega)]
        · rw [if_neg he, hf2 j hj]
          show some (if r ≤ j ∧ j + 1 < N then p (j + 1) else p j) = some (p (sgU N r j))
          unfold sgU
          by_cases hq : r ≤ j ∧ j + 1 < N
          · rw [if_pos hq, if_neg (by omega), if_pos hq.2]
          · rw [if_neg hq]
            by_cases hq2 : j < r
            · rw [if_pos hq2]
            · rw [if_neg hq2, if_neg (by omega), if_neg (by omega)]
      have hme := c_Gr_measure hG hwx hwm
      have o4 := hG.obj
      repeat (refine wf rfl ?_; first | refine wq_iadd ?_ | refine wq_isub ?_ | refine wq_imul ?_ | refine wq_iinc rfl ?_ | refine wq_goto ?_ | refine wq_k rfl ?_ | refine wq_b rfl rfl ?_ | refine wq_getf (by assumption) rfl ?_ | refine wq_alen (by assumption) rfl ?_)
      refine wf rfl (wq_cv rfl rfl rfl o4 (hme.mono ?_))
      rintro v M5 ⟨rfl, f5, hq⟩
      repeat' (refine wf rfl ?_; first | refine wq_iadd ?_ | refine wq_isub ?_ | refine wq_imul ?_ | refine wq_iinc rfl ?_ | refine wq_goto ?_ | refine wq_k rfl ?_ | refine wq_b rfl rfl ?_ | refine wq_getf (by assumption) rfl ?_ | refine wq_alen (by assumption) rfl ?_ | (refine wq_eq ⟨by omega, by omega⟩ ⟨by omega, by omega⟩ (fun _ => ?_) (fun _ => ?_) <;> try (exfalso; omega)) | (refine wq_ne ⟨by omega, by omega⟩ ⟨by omega, by omega⟩ (fun _ => ?_) (fun _ => ?_) <;> try (exfalso; omega)) | (refine wq_lt ⟨by omega, by omega⟩ ⟨by omega, by omega⟩ (fun _ => ?_) (fun _ => ?_) <;> try (exfalso; omega)) | (refine wq_ge ⟨by omega, by omega⟩ ⟨by omega, by omega⟩ (fun _ => ?_) (fun _ => ?_) <;> try (exfalso; omega)) | (refine wq_gt ⟨by omega, by omega⟩ ⟨by omega, by omega⟩ (fun _ => ?_) (fun _ => ?_) <;> try (exfalso; omega)) | (refine wq_le ⟨by omega, by omega⟩ ⟨by omega, by omega⟩ (fun _ => ?_) (fun _ => ?_) <;> try (exfalso; omega)) | (refine wq_ifeq ⟨by omega, by omega⟩ (fun _ => ?_) (fun _ => ?_) <;> try (exfalso; omega)) | (refine wq_ifne ⟨by omega, by omega⟩ (fun _ => ?_) (fun _ => ?_) <;> try (exfalso; omega)) | (refine wq_iflt ⟨by omega, by omega⟩ (fun _ => ?_) (fun _ => ?_) <;> try (exfalso; omega)) | (refine wq_ifge ⟨by omega, by omega⟩ (fun _ => ?_) (fun _ => ?_) <;> try (exfalso; omega)) | (refine wq_ifgt ⟨by omega, by omega⟩ (fun _ => ?_) (fun _ => ?_) <;> try (exfalso; omega)) | (refine wq_ifle ⟨by omega, by omega⟩ (fun _ => ?_) (fun _ => ?_) <;> try (exfalso; omega)) | refine wq_r rfl rfl rfl rfl rfl rfl ?_)
      exact ⟨rfl, frA.tr (f5.mono (fun q hq => by unfold inG; omega)), _, hX2, hwx, hwm, hq⟩
theorem c_Gr_unrollRule (h : Gm M g N p X mn lt dp us W) (hX : WFX N X) (hm : WFm N mn) (hne : ∀ k, k < N → 1 ≤ (X k).length) {r : Nat} (hr : r < N) (hcu : canU N X mn r) : Wm 34 [.ref g, .int (I r)] M (fun v M' => v = none ∧ Fr (inG g) M M' ∧ ∃ X2, (∀ j, j + 1 < N → X2 j = if j < r then X j else unr (8 + (r : Int)) (X r) (X (j + 1))) ∧ WFX (N - 1) X2 ∧ WFm (N - 1) (unr (8 + (r : Int)) (X r) mn) ∧ ∃ lt' dp' us' W', Gm M' g (N - 1) (fun j => p (sgU N r j)) X2 (unr (8 + (r : Int)) (X r) mn) lt' dp' us' W' ∧ Ms (N - 1) X2 (unr (8 + (r : Int)) (X r) mn) lt' dp' us' W') := by
  have hN := h.le
  have hg1 := h.obj
  have hhr := c_Gr_hasRule (k := r) ⟨by omega, by omega⟩ h
  rw [if_pos (by omega)] at hhr
  obtain ⟨f, hf1, hf2⟩ := h.2.1
  refine wm_in (lv := _) rfl rfl rfl ?_
  repeat (refine wf rfl ?_; first | refine wq_iadd ?_ | refine wq_isub ?_ | refine wq_imul ?_ | refine wq_iinc rfl ?_ | refine wq_goto ?_ | refine wq_k rfl ?_ | refine wq_b rfl rfl ?_ | refine wq_getf (by assumption) rfl ?_ | refine wq_alen (by assumption) rfl ?_)
  refine wf rfl (wq_cv rfl rfl rfl hg1 (hhr.mono ?_))
  rintro v M ⟨rfl, rfl⟩
  refine wf rfl (wq_ifne ⟨by omega, by omega⟩ (fun c2 => ?_) (fun c2 => by exfalso; omega))
  repeat (refine wf rfl ?_; first | refine wq_iadd ?_ | refine wq_isub ?_ | refine wq_imul ?_ | refine wq_iinc rfl ?_ | refine wq_goto ?_ | refine wq_k rfl ?_ | refine wq_b rfl rfl ?_ | refine wq_getf (by assumption) rfl ?_ | refine wq_alen (by assumption) rfl ?_)
  refine wf rfl (wq_aald hf1 rfl ⟨by omega, by omega⟩ (by omega) (by omega) (hf2 r (by omega)) ?_)
  repeat' (first | (refine Wp.sub (lp_unroll (lt := lt) (dp := dp) (us := us) (W := W) hX hm hne hr hcu 100 _ _ ?_) ⟨rfl, rfl, rfl, rfl, trivial⟩ rfl) | (refine wf rfl ?_; first | refine wq_iadd ?_ | refine wq_isub ?_ | refine wq_imul ?_ | refine wq_iinc rfl ?_ | refine wq_goto ?_ | refine wq_k rfl ?_ | refine wq_b rfl rfl ?_ | refine wq_getf (by assumption) rfl ?_ | refine wq_alen (by assumption) rfl ?_ | fail | (refine wq_eq ⟨by omega, by omega⟩ ⟨by omega, by omega⟩ (fun _ => ?_) (fun _ => ?_) <;> try (exfalso; omega)) | (refine wq_ne ⟨by omega, by omega⟩ ⟨by omega, by omega⟩ (fun _ => ?_) (fun _ => ?_) <;> try (exfalso; omega)) | (refine wq_lt ⟨by omega, by omega⟩ ⟨by omega, by omega⟩ (fun _ => ?_) (fun _ => ?_) <;> try (exfalso; omega)) | (refine wq_ge ⟨by omega, by omega⟩ ⟨by omega, by omega⟩ (fun _ => ?_) (fun _ => ?_) <;> try (exfalso; omega)) | (refine wq_gt ⟨by omega, by omega⟩ ⟨by omega, by omega⟩ (fun _ => ?_) (fun _ => ?_) <;> try (exfalso; omega)) | (refine wq_le ⟨by omega, by omega⟩ ⟨by omega, by omega⟩ (fun _ => ?_) (fun _ => ?_) <;> try (exfalso; omega)) | (refine wq_ifeq ⟨by omega, by omega⟩ (fun _ => ?_) (fun _ => ?_) <;> try (exfalso; omega)) | (refine wq_ifne ⟨by omega, by omega⟩ (fun _ => ?_) (fun _ => ?_) <;> try (exfalso; omega)) | (refine wq_iflt ⟨by omega, by omega⟩ (fun _ => ?_) (fun _ => ?_) <;> try (exfalso; omega)) | (refine wq_ifge ⟨by omega, by omega⟩ (fun _ => ?_) (fun _ => ?_) <;> try (exfalso; omega)) | (refine wq_ifgt ⟨by omega, by omega⟩ (fun _ => ?_) (fun _ => ?_) <;> try (exfalso; omega)) | (refine wq_ifle ⟨by omega, by omega⟩ (fun _ => ?_) (fun _ => ?_) <;> try (exfalso; omega)) | refine wq_r rfl rfl rfl rfl rfl rfl ?_))
  exact ⟨by omega, by omega, by omega, Fr.rf, X, f, h.gb, hf1, fun j hj => by rw [if_neg (by omega)]; exact hf2 j hj, fun j hj => by rw [if_neg (by omega)]⟩
end GR8
