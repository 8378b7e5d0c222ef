theorem lp_fill {M : PM} {a n : Nat} {f : Nat → Int} {v : Int} (ha : Nat.blt 0 a = true) (hn : n ≤ 100000) (hM : M[a]? = some (aJ n f)) (m : Nat) : ∀ (k : Int) (M1 : PM), (0 ≤ k ∧ k ≤ n ∧ n - k < m ∧ Fr (fun q => q = a) M M1 ∧ ∃ u, M1[a]? = some (aJ n u) ∧ ∀ j : Nat, j < k → u j = v) →
    Wp k_J7_fill_53178 (5, [(0, .ref a), (1, .int (I v)), (2, .int (I k)), (3, .int (I n))], [], M1) (fun w M' => w = none ∧ Fr (fun q => q = a) M M' ∧ ∃ u, M'[a]? = some (aJ n u) ∧ ∀ j, j < n → u j = v) := by
  induction m with
  | zero => intro k M1 hi; exfalso; omega
  | succ m ih =>
    intro k M1 hi
    obtain ⟨i1, i2, i3, i4, u, i5, i6⟩ := hi
    repeat' (refine wf rfl ?_; first | refine wq_iadd ?_ | refine wq_isub ?_ | refine wq_imul ?_ | refine wq_iinc rfl ?_ | refine wq_goto ?_ | refine wq_k rfl ?_ | refine wq_b rfl rfl ?_ | refine wq_getf (by assumption) rfl ?_ | refine wq_alen (by assumption) rfl ?_ | (refine wq_eq ⟨by omega, by omega⟩ ⟨by omega, by omega⟩ (fun _ => ?_) (fun _ => ?_) <;> try (exfalso; omega)) | (refine wq_ne ⟨by omega, by omega⟩ ⟨by omega, by omega⟩ (fun _ => ?_) (fun _ => ?_) <;> try (exfalso; omega)) | (refine wq_lt ⟨by omega, by omega⟩ ⟨by omega, by omega⟩ (fun _ => ?_) (fun _ => ?_) <;> try (exfalso; omega)) | (refine wq_ge ⟨by omega, by omega⟩ ⟨by omega, by omega⟩ (fun _ => ?_) (fun _ => ?_) <;> try (exfalso; omega)) | (refine wq_gt ⟨by omega, by omega⟩ ⟨by omega, by omega⟩ (fun _ => ?_) (fun _ => ?_) <;> try (exfalso; omega)) | (refine wq_le ⟨by omega, by omega⟩ ⟨by omega, by omega⟩ (fun _ => ?_) (fun _ => ?_) <;> try (exfalso; omega)) | (refine wq_ifeq ⟨by omega, by omega⟩ (fun _ => ?_) (fun _ => ?_) <;> try (exfalso; omega)) | (refine wq_ifne ⟨by omega, by omega⟩ (fun _ => ?_) (fun _ => ?_) <;> try (exfalso; omega)) | (refine wq_iflt ⟨by omega, by omega⟩ (fun _ => ?_) (fun _ => ?_) <;> try (exfalso; omega)) | (refine wq_ifge ⟨by omega, by omega⟩ (fun _ => ?_) (fun _ => ?_) <;> try (exfalso; omega)) | (refine wq_ifgt ⟨by omega, by omega⟩ (fun _ => ?_) (fun _ => ?_) <;> try (exfalso; omega)) | (refine wq_ifle ⟨by omega, by omega⟩ (fun _ => ?_) (fun _ => ?_) <;> try (exfalso; omega)) | refine wq_r rfl rfl rfl rfl rfl rfl ?_)
    · exact ⟨rfl, i4, u, i5, fun j hj => i6 j (by omega)⟩
    · refine wf rfl (wq_iast i5 ha ⟨by omega, by omega⟩ (by omega) (by omega) (fun M2 e2 f2 => ?_))
      repeat' (first | (refine Wp.sub (ih _ _ ?_) ⟨rfl, rfl, rfl, rfl, trivial⟩ rfl) | (refine wf rfl ?_; first | refine wq_iadd ?_ | refine wq_isub ?_ | refine wq_imul ?_ | refine wq_iinc rfl ?_ | refine wq_goto ?_ | refine wq_k rfl ?_ | refine wq_b rfl rfl ?_ | refine wq_getf (by assumption) rfl ?_ | refine wq_alen (by assumption) rfl ?_ | fail | (refine wq_eq ⟨by omega, by omega⟩ ⟨by omega, by omega⟩ (fun _ => ?_) (fun _ => ?_) <;> try (exfalso; omega)) | (refine wq_ne ⟨by omega, by omega⟩ ⟨by omega, by omega⟩ (fun _ => ?_) (fun _ => ?_) <;> try (exfalso; omega)) | (refine wq_lt ⟨by omega, by omega⟩ ⟨by omega, by omega⟩ (fun _ => ?_) (fun _ => ?_) <;> try (exfalso; omega)) | (refine wq_ge ⟨by omega, by omega⟩ ⟨by omega, by omega⟩ (fun _ => ?_) (fun _ => ?_) <;> try (exfalso; omega)) | (refine wq_gt ⟨by omega, by omega⟩ ⟨by omega, by omega⟩ (fun _ => ?_) (fun _ => ?_) <;> try (exfalso; omega)) | (refine wq_le ⟨by omega, by omega⟩ ⟨by omega, by omega⟩ (fun _ => ?_) (fun _ => ?_) <;> try (exfalso; omega)) | (refine wq_ifeq ⟨by omega, by omega⟩ (fun _ => ?_) (fun _ => ?_) <;> try (exfalso; omega)) | (refine wq_ifne ⟨by omega, by omega⟩ (fun _ => ?_) (fun _ => ?_) <;> try (exfalso; omega)) | (refine wq_iflt ⟨by omega, by omega⟩ (fun _ => ?_) (fun _ => ?_) <;> try (exfalso; omega)) | (refine wq_ifge ⟨by omega, by omega⟩ (fun _ => ?_) (fun _ => ?_) <;> try (exfalso; omega)) | (refine wq_ifgt ⟨by omega, by omega⟩ (fun _ => ?_) (fun _ => ?_) <;> try (exfalso; omega)) | (refine wq_ifle ⟨by omega, by omega⟩ (fun _ => ?_) (fun _ => ?_) <;> try (exfalso; omega)) | refine wq_r rfl rfl rfl rfl rfl rfl ?_))
      refine ⟨by omega, by omega, by omega, i4.tr f2, _, e2, fun j hj => ?_⟩
      by_cases he : j = k.toNat
      · subst he; rw [upz_at]
      · rw [upz_ne _ _ he]; exact i6 j (by omega)
theorem c_fill {M : PM} {a n : Nat} {f : Nat → Int} {v : Int} (ha : Nat.blt 0 a = true) (hn : n ≤ 100000) (hM : M[a]? = some (aJ n f)) : Wm 123 [.ref a, .int (I v)] M (fun w M' => w = none ∧ Fr (fun q => q = a) M M' ∧ ∃ u, M'[a]? = some (aJ n u) ∧ ∀ j, j < n → u j = v) := by
  refine wm_in (lv := _) rfl rfl rfl ?_
  repeat' (first | (refine Wp.sub (lp_fill ha hn hM (n + 1) _ _ ?_) ⟨rfl, rfl, rfl, rfl, trivial⟩ rfl) | (refine wf rfl ?_; first | refine wq_iadd ?_ | refine wq_isub ?_ | refine wq_imul ?_ | refine wq_iinc rfl ?_ | refine wq_goto ?_ | refine wq_k rfl ?_ | refine wq_b rfl rfl ?_ | refine wq_getf (by assumption) rfl ?_ | refine wq_alen (by assumption) rfl ?_ | fail | (refine wq_eq ⟨by omega, by omega⟩ ⟨by omega, by omega⟩ (fun _ => ?_) (fun _ => ?_) <;> try (exfalso; omega)) | (refine wq_ne ⟨by omega, by omega⟩ ⟨by omega, by omega⟩ (fun _ => ?_) (fun _ => ?_) <;> try (exfalso; omega)) | (refine wq_lt ⟨by omega, by omega⟩ ⟨by omega, by omega⟩ (fun _ => ?_) (fun _ => ?_) <;> try (exfalso; omega)) | (refine wq_ge ⟨by omega, by omega⟩ ⟨by omega, by omega⟩ (fun _ => ?_) (fun _ => ?_) <;> try (exfalso; omega)) | (refine wq_gt ⟨by omega, by omega⟩ ⟨by omega, by omega⟩ (fun _ => ?_) (fun _ => ?_) <;> try (exfalso; omega)) | (refine wq_le ⟨by omega, by omega⟩ ⟨by omega, by omega⟩ (fun _ => ?_) (fun _ => ?_) <;> try (exfalso; omega)) | (refine wq_ifeq ⟨by omega, by omega⟩ (fun _ => ?_) (fun _ => ?_) <;> try (exfalso; omega)) | (refine wq_ifne ⟨by omega, by omega⟩ (fun _ => ?_) (fun _ => ?_) <;> try (exfalso; omega)) | (refine wq_iflt ⟨by omega, by omega⟩ (fun _ => ?_) (fun _ => ?_) <;> try (exfalso; omega)) | (refine wq_ifge ⟨by omega, by omega⟩ (fun _ => ?_) (fun _ => ?_) <;> try (exfalso; omega)) | (refine wq_ifgt ⟨by omega, by omega⟩ (fun _ => ?_) (fun _ => ?_) <;> try (exfalso; omega)) | (refine wq_ifle ⟨by omega, by omega⟩ (fun _ => ?_) (fun _ => ?_) <;> try (exfalso; omega)) | refine wq_r rfl rfl rfl rfl rfl rfl ?_))
  exact ⟨by omega, by omega, by omega, Fr.rf, f, hM, fun j hj => by omega⟩
section GR3
variable {M : PM} {g N : Nat} {p : Nat → Nat} {X : Nat → List Int} {mn : List Int} {lt dp us : Nat → Int} {W : Int} {a : Nat} {xs : List Int}
theorem Gm.upd {M1 : PM} {N' : Nat} {lt' dp' us' : Nat → Int} {W' : Int} (h : Gm M g N p X mn lt dp us W) (f : Fr (fun q => q = g ∨ q = g + 4 ∨ q = g + 5 ∨ q = g + 6) M M1)
    (h0 : M1[g]? = some (.inr (0, [.ref (g + 1), .ref (g + 2), .int (I N'), .ref (g + 4), .ref (g + 5), .ref (g + 6), .int (I W')]))) (h4 : M1[g + 4]? = some (aJ 26 lt')) (h5 : M1[g + 5]? = some (aJ 26 dp')) (h6 : M1[g + 6]? = some (aJ 26 us')) (hN : N' ≤ 26) : Gm M1 g N' p X mn lt' dp' us' W' := by
  obtain ⟨q1, ⟨ff, q2, q3⟩, q4, q5, q6, q7, q8, q9, q10, q11⟩ := h
  refine ⟨h0, ⟨ff, f.at (by omega) q2, q3⟩, q4.fr f (by omega) (by omega), h4, h5, h6, fun k hk => ?_, q9, q10, hN⟩
  obtain ⟨j, hj, e⟩ := q9 k hk
  exact (q8 k hk).fr f (by omega) (by omega)
theorem Gm.newUs (h : Gm M g N p X mn lt dp us W) {M1 : PM} {u : Nat → Int} (f : Fr (fun q => q = g + 6) M M1) (hu : M1[g + 6]? = some (aJ 26 u)) : Gm M1 g N p X mn lt dp u W :=
  h.upd (f.mono (fun q hq => by omega)) (f.at (by omega) h.1) (f.at (by omega) h.2.2.2.1) (f.at (by omega) h.2.2.2.2.1) hu h.le
theorem lp_note (h : Gm M g N p X mn lt dp us W) (hr : Rw M a xs) (ha : a ≠ g + 6 ∧ a + 1 ≠ g + 6) (hb : SB xs) (n : Nat) : ∀ (k : Int) (M1 : PM), (0 ≤ k ∧ k ≤ xs.length ∧ xs.length - k < n ∧ Fr (fun q => q = g + 6) M M1 ∧ ∃ u, M1[g + 6]? = some (aJ 26 u) ∧ ∀ j : Nat, u j + (if j < N then (cntE (8 + (j : Int)) (xs.drop k.toNat) : Int) else 0) = us j + (if j < N then (cntE (8 + (j : Int)) xs : Int) else 0)) →
    Wp k_X0_noteUses (2, [(0, .ref g), (1, .ref a), (2, .int (I k))], [], M1) (fun v M' => v = none ∧ Fr (fun q => q = g + 6) M M' ∧ ∃ u, M'[g + 6]? = some (aJ 26 u) ∧ ∀ j : Nat, u j = us j + (if j < N then (cntE (8 + (j : Int)) xs : Int) else 0)) := by
  have hl := hr.len
  have hN := h.le
  induction n with
  | zero => intro k M1 hi; exfalso; omega
  | succ n ih =>
    intro k M1 hi
    obtain ⟨i1, i2, i3, i4, u, i5, i6⟩ := hi
    have hg := h.newUs i4 i5
    have hr1 := hr.fr i4 ha.1 ha.2
    have hsz := c_Row_size hr1
    have hat := c_Row_at (p := k) ⟨by omega, by omega⟩ hr1
    have bd := rat_bd hb k
    have hls := c_Gr_hasRule (k := rat xs k - 8) ⟨by omega, by omega⟩ hg
    have hg1 := hg.obj
    obtain ⟨gg, h1, h2, h3, h4⟩ := id hr1
    repeat (refine wf rfl ?_; first | refine wq_iadd ?_ | refine wq_isub ?_ | refine wq_imul ?_ | refine wq_iinc rfl ?_ | refine wq_goto ?_ | refine wq_k rfl ?_ | refine wq_b rfl rfl ?_ | refine wq_getf (by assumption) rfl ?_ | refine wq_alen (by assumption) rfl ?_)
    refine wf rfl (wq_cv rfl rfl rfl h1 (hsz.mono ?_))
    rintro v M1 ⟨rfl, rfl⟩
    refine wf rfl (wq_ge ⟨by omega, by omega⟩ ⟨by omega, by omega⟩ (fun c2 => ?_) (fun c2 => ?_))
    · repeat' (refine wf rfl ?_; first | refine wq_iadd ?_ | refine wq_isub ?_ | refine wq_imul ?_ | refine wq_iinc rfl ?_ | refine wq_goto ?_ | refine wq_k rfl ?_ | refine wq_b rfl rfl ?_ | refine wq_getf (by assumption) rfl ?_ | refine wq_alen (by assumption) rfl ?_ | (refine wq_eq ⟨by omega, by omega⟩ ⟨by omega, by omega⟩ (fun _ => ?_) (fun _ => ?_) <;> try (exfalso; omega)) | (refine wq_ne ⟨by omega, by omega⟩ ⟨by omega, by omega⟩ (fun _ => ?_) (fun _ => ?_) <;> try (exfalso; omega)) | (refine wq_lt ⟨by omega, by omega⟩ ⟨by omega, by omega⟩ (fun _ => ?_) (fun _ => ?_) <;> try (exfalso; omega)) | (refine wq_ge ⟨by omega, by omega⟩ ⟨by omega, by omega⟩ (fun _ => ?_) (fun _ => ?_) <;> try (exfalso; omega)) | (refine wq_gt ⟨by omega, by omega⟩ ⟨by omega, by omega⟩ (fun _ => ?_) (fun _ => ?_) <;> try (exfalso; omega)) | (refine wq_le ⟨by omega, by omega⟩ ⟨by omega, by omega⟩ (fun _ => ?_) (fun _ => ?_) <;> try (exfalso; omega)) | (refine wq_ifeq ⟨by omega, by omega⟩ (fun _ => ?_) (fun _ => ?_) <;> try (exfalso; omega)) | (refine wq_ifne ⟨by omega, by omega⟩ (fun _ => ?_) (fun _ => ?_) <;> try (exfalso; omega)) | (refine wq_iflt ⟨by omega, by omega⟩ (fun _ => ?_) (fun _ => ?_) <;> try (exfalso; omega)) | (refine wq_ifge ⟨by omega, by omega⟩ (fun _ => ?_) (fun _ => ?_) <;> try (exfalso; omega)) | (refine wq_ifgt ⟨by omega, by omega⟩ (fun _ => ?_) (fun _ => ?_) <;> try (exfalso; omega)) | (refine wq_ifle ⟨by omega, by omega⟩ (fun _ => ?_) (fun _ => ?_) <;> try (exfalso; omega)) | refine wq_r rfl rfl rfl rfl rfl rfl ?_)
      refine ⟨rfl, i4, u, i5, fun j => ?_⟩
      have := i6 j
      rw [List.drop_eq_nil_of_le (by omega), cntE] at this
      rw [← this]
      split <;> simp
    · have e1 : ((k.toNat : Nat) : Int) = k := by omega
      have hd := drop1 (xs := xs) (p := k.toNat) (by omega)
      rw [e1] at hd
      repeat (refine wf rfl ?_; first | refine wq_iadd ?_ | refine wq_isub ?_ | refine wq_imul ?_ | refine wq_iinc rfl ?_ | refine wq_goto ?_ | refine wq_k rfl ?_ | refine wq_b rfl rfl ?_ | refine wq_getf (by assumption) rfl ?_ | refine wq_alen (by assumption) rfl ?_)
      refine wf rfl (wq_cv rfl rfl rfl h1 (hat.mono ?_))
      rintro v M1 ⟨rfl, rfl⟩
      repeat (refine wf rfl ?_; first | refine wq_iadd ?_ | refine wq_isub ?_ | refine wq_imul ?_ | refine wq_iinc rfl ?_ | refine wq_goto ?_ | refine wq_k rfl ?_ | refine wq_b rfl rfl ?_ | refine wq_getf (by assumption) rfl ?_ | refine wq_alen (by assumption) rfl ?_)
      refine wf rfl (wq_cv rfl rfl rfl hg1 (hls.mono ?_))
      rintro v M1 ⟨rfl, rfl⟩
      by_cases hq : 0 ≤ rat xs k - 8 ∧ rat xs k - 8 < N
      · rw [if_pos hq]
        refine wf rfl (wq_ifeq ⟨by omega, by omega⟩ (fun c3 => by exfalso; omega) (fun c3 => ?_))
        repeat (refine wf rfl ?_; first | refine wq_iadd ?_ | refine wq_isub ?_ | refine wq_imul ?_ | refine wq_iinc rfl ?_ | refine wq_goto ?_ | refine wq_k rfl ?_ | refine wq_b rfl rfl ?_ | refine wq_getf (by assumption) rfl ?_ | refine wq_alen (by assumption) rfl ?_)
        refine wf rfl (wq_iald i5 ⟨by omega, by omega⟩ (by omega) (by omega) ?_)
        repeat (refine wf rfl ?_; first | refine wq_iadd ?_ | refine wq_isub ?_ | refine wq_imul ?_ | refine wq_iinc rfl ?_ | refine wq_goto ?_ | refine wq_k rfl ?_ | refine wq_b rfl rfl ?_ | refine wq_getf (by assumption) rfl ?_ | refine wq_alen (by assumption) rfl ?_)
        refine wf rfl (wq_iast i5 rfl ⟨by omega, by omega⟩ (by omega) (by omega) (fun M2 e2 f2 => ?_))
        repeat' (first | (refine Wp.sub (ih _ _ ?_) ⟨rfl, rfl, rfl, trivial⟩ rfl) | (refine wf rfl ?_; first | refine wq_iadd ?_ | refine wq_isub ?_ | refine wq_imul ?_ | refine wq_iinc rfl ?_ | refine wq_goto ?_ | refine wq_k rfl ?_ | refine wq_b rfl rfl ?_ | refine wq_getf (by assumption) rfl ?_ | refine wq_alen (by assumption) rfl ?_ | fail | (refine wq_eq ⟨by omega, by omega⟩ ⟨by omega, by omega⟩ (fun _ => ?_) (fun _ => ?_) <;> try (exfalso; omega)) | (refine wq_ne ⟨by omega, by omega⟩ ⟨by omega, by omega⟩ (fun _ => ?_) (fun _ => ?_) <;> try (exfalso; omega)) | (refine wq_lt ⟨by omega, by omega⟩ ⟨by omega, by omega⟩ (fun _ => ?_) (fun _ => ?_) <;> try (exfalso; omega)) | (refine wq_ge ⟨by omega, by omega⟩ ⟨by omega, by omega⟩ (fun _ => ?_) (fun _ => ?_) <;> try (exfalso; omega)) | (refine wq_gt ⟨by omega, by omega⟩ ⟨by omega, by omega⟩ (fun _ => ?_) (fun _ => ?_) <;> try (exfalso; omega)) | (refine wq_le ⟨by omega, by omega⟩ ⟨by omega, by omega⟩ (fun _ => ?_) (fun _ => ?_) <;> try (exfalso; omega)) | (refine wq_ifeq ⟨by omega, by omega⟩ (fun _ => ?_) (fun _ => ?_) <;> try (exfalso; omega)) | (refine wq_ifne ⟨by omega, by omega⟩ (fun _ => ?_) (fun _ => ?_) <;> try (exfalso; omega)) | (refine wq_iflt ⟨by omega, by omega⟩ (fun _ => ?_) (fun _ => ?_) <;> try (exfalso; omega)) | (refine wq_ifge ⟨by omega, by omega⟩ (fun _ => ?_) (fun _ => ?_) <;> try (exfalso; omega)) | (refine wq_ifgt ⟨by omega, by omega⟩ (fun _ => ?_) (fun _ => ?_) <;> try (exfalso; omega)) | (refine wq_ifle ⟨by omega, by omega⟩ (fun _ => ?_) (fun _ => ?_) <;> try (exfalso; omega)) | refine wq_r rfl rfl rfl rfl rfl rfl ?_))
        refine ⟨by omega, by omega, by omega, i4.tr f2, _, e2, fun j => ?_⟩
        have := i6 j
        rw [hd, cntE] at this
        rw [← this, show (k + 1).toNat = k.toNat + 1 by omega]
        by_cases hj : j < N
        · rw [if_pos hj, if_pos hj]
          by_cases he : j = (rat xs k - 8).toNat
          · subst he
            rw [upz_at, if_pos (by omega)]
            omega
          · rw [upz_ne _ _ he, if_neg (by omega)]
            omega
        · rw [if_neg hj, if_neg hj, upz_ne _ _ (by omega)]
      · rw [if_neg hq]
        refine wf rfl (wq_ifeq ⟨by omega, by omega⟩ (fun c3 => ?_) (fun c3 => absurd rfl c3))
        repeat' (first | (refine Wp.sub (ih _ _ ?_) ⟨rfl, rfl, rfl, trivial⟩ rfl) | (refine wf rfl ?_; first | refine wq_iadd ?_ | refine wq_isub ?_ | refine wq_imul ?_ | refine wq_iinc rfl ?_ | refine wq_goto ?_ | refine wq_k rfl ?_ | refine wq_b rfl rfl ?_ | refine wq_getf (by assumption) rfl ?_ | refine wq_alen (by assumption) rfl ?_ | fail | (refine wq_eq ⟨by omega, by omega⟩ ⟨by omega, by omega⟩ (fun _ => ?_) (fun _ => ?_) <;> try (exfalso; omega)) | (refine wq_ne ⟨by omega, by omega⟩ ⟨by omega, by omega⟩ (fun _ => ?_) (fun _ => ?_) <;> try (exfalso; omega)) | (refine wq_lt ⟨by omega, by omega⟩ ⟨by omega, by omega⟩ (fun _ => ?_) (fun _ => ?_) <;> try (exfalso; omega)) | (refine wq_ge ⟨by omega, by omega⟩ ⟨by omega, by omega⟩ (fun _ => ?_) (fun _ => ?_) <;> try (exfalso; omega)) | (refine wq_gt ⟨by omega, by omega⟩ ⟨by omega, by omega⟩ (fun _ => ?_) (fun _ => ?_) <;> try (exfalso; omega)) | (refine wq_le ⟨by omega, by omega⟩ ⟨by omega, by omega⟩ (fun _ => ?_) (fun _ => ?_) <;> try (exfalso; omega)) | (refine wq_ifeq ⟨by omega, by omega⟩ (fun _ => ?_) (fun _ => ?_) <;> try (exfalso; omega)) | (refine wq_ifne ⟨by omega, by omega⟩ (fun _ => ?_) (fun _ => ?_) <;> try (exfalso; omega)) | (refine wq_iflt ⟨by omega, by omega⟩ (fun _ => ?_) (fun _ => ?_) <;> try (exfalso; omega)) | (refine wq_ifge ⟨by omega, by omega⟩ (fun _ => ?_) (fun _ => ?_) <;> try (exfalso; omega)) | (refine wq_ifgt ⟨by omega, by omega⟩ (fun _ => ?_) (fun _ => ?_) <;> try (exfalso; omega)) | (refine wq_ifle ⟨by omega, by omega⟩ (fun _ => ?_) (fun _ => ?_) <;> try (exfalso; omega)) | refine wq_r rfl rfl rfl rfl rfl rfl ?_))
        refine ⟨by omega, by omega, by omega, i4, u, i5, fun j => ?_⟩
        have := i6 j
        rw [hd, cntE] at this
        rw [← this, show (k + 1).toNat = k.toNat + 1 by omega]
        by_cases hj : j < N
        · rw [if_pos hj, if_pos hj, if_neg (by omega)]
          omega
        · rw [if_neg hj, if_neg hj]
theorem c_Gr_noteUses (h : Gm M g N p X mn lt dp us W) (hr : Rw M a xs) (ha : a ≠ g + 6 ∧ a + 1 ≠ g + 6) (hb : SB xs) : Wm 22 [.ref g, .ref a] M (fun v M' => v = none ∧ Fr (fun q => q = g + 6) M M' ∧ ∃ u, M'[g + 6]? = some (aJ 26 u) ∧ ∀ j : Nat, u j = us j + (if j < N then (cntE (8 + (j : Int)) xs : Int) else 0)) := by
  have hl := hr.len
  obtain ⟨-, -, -, -, -, hu, -⟩ := id h
  refine wm_in (lv := _) rfl rfl rfl ?_
  repeat' (first | (refine Wp.sub (lp_note h hr ha hb 100 _ _ ?_) ⟨rfl, rfl, rfl, trivial⟩ rfl) | (refine wf rfl ?_; first | refine wq_iadd ?_ | refine wq_isub ?_ | refine wq_imul ?_ | refine wq_iinc rfl ?_ | refine wq_goto ?_ | refine wq_k rfl ?_ | refine wq_b rfl rfl ?_ | refine wq_getf (by assumption) rfl ?_ | refine wq_alen (by assumption) rfl ?_ | fail | (refine wq_eq ⟨by omega, by omega⟩ ⟨by omega, by omega⟩ (fun _ => ?_) (fun _ => ?_) <;> try (exfalso; omega)) | (refine wq_ne ⟨by omega, by omega⟩ ⟨by omega, by omega⟩ (fun _ => ?_) (fun _ => ?_) <;> try (exfalso; omega)) | (refine wq_lt ⟨by omega, by omega⟩ ⟨by omega, by omega⟩ (fun _ => ?_) (fun _ => ?_) <;> try (exfalso; omega)) | (refine wq_ge ⟨by omega, by omega⟩ ⟨by omega, by omega⟩ (fun _ => ?_) (fun _ => ?_) <;> try (exfalso; omega)) | (refine wq_gt ⟨by omega, by omega⟩ ⟨by omega, by omega⟩ (fun _ => ?_) (fun _ => ?_) <;> try (exfalso; omega)) | (refine wq_le ⟨by omega, by omega⟩ ⟨by omega, by omega⟩ (fun _ => ?_) (fun _ => ?_) <;> try (exfalso; omega)) | (refine wq_ifeq ⟨by omega, by omega⟩ (fun _ => ?_) (fun _ => ?_) <;> try (exfalso; omega)) | (refine wq_ifne ⟨by omega, by omega⟩ (fun _ => ?_) (fun _ => ?_) <;> try (exfalso; omega)) | (refine wq_iflt ⟨by omega, by omega⟩ (fun _ => ?_) (fun _ => ?_) <;> try (exfalso; omega)) | (refine wq_ifge ⟨by omega, by omega⟩ (fun _ => ?_) (fun _ => ?_) <;> try (exfalso; omega)) | (refine wq_ifgt ⟨by omega, by omega⟩ (fun _ => ?_) (fun _ => ?_) <;> try (exfalso; omega)) | (refine wq_ifle ⟨by omega, by omega⟩ (fun _ => ?_) (fun _ => ?_) <;> try (exfalso; omega)) | refine wq_r rfl rfl rfl rfl rfl rfl ?_))
  exact ⟨by omega, by omega, by omega, Fr.rf, us, hu, fun j => by simp⟩
end GR3
