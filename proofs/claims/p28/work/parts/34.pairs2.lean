section PR2
variable {M : PM} {q a : Nat} {u : Nat → Int} {bf bs bt : Int} {xs : List Int}
/-- where the count of a pair goes on -/
def nxp (xs : List Int) (c p f s : Int) : Int := if c = 1 ∧ rat xs (p - 1) = f ∧ rat xs p = s then p + 1 else p
theorem nxp_ov {p f s : Int} (hb : SB xs) (h0 : 1 ≤ p) (h1 : p + 1 < xs.length) (hk : key xs (p - 1) = key xs p) : cnt2 f s (xs.drop (nxp xs 1 p f s).toNat) = cnt2 f s (xs.drop (nxp xs 0 (p + 1) f s).toNat) := by
  have hk1 := (key_eq hb (p := p - 1) (k := p) (by omega) (by omega) (by omega) h1).mp hk
  rw [show p - 1 + 1 = p by omega] at hk1
  unfold nxp
  rw [if_neg (c := (0 : Int) = 1 ∧ rat xs (p + 1 - 1) = f ∧ rat xs (p + 1) = s) (by omega)]
  by_cases hq : rat xs (p - 1) = f ∧ rat xs p = s
  · rw [if_pos ⟨rfl, hq⟩]
  · rw [if_neg (fun z => hq z.2)]
    exact cnt2_no (by omega) (fun z => by obtain ⟨z1, z2, z3, z4⟩ := z; omega)
theorem nxp_no {c p f s : Int} (hb : SB xs) (hc : c = 1 → 1 ≤ p) (h0 : 0 ≤ p) (h1 : p + 1 < xs.length) (hk : ¬ (c = 1 ∧ key xs (p - 1) = key xs p)) : cnt2 f s (xs.drop (nxp xs c p f s).toNat) = cnt2 f s (xs.drop (nxp xs 1 (p + 1) f s).toNat) + (if rat xs p = f ∧ rat xs (p + 1) = s then 1 else 0) := by
  unfold nxp
  rw [show p + 1 - 1 = p by omega]
  by_cases hq : rat xs p = f ∧ rat xs (p + 1) = s
  · rw [if_pos hq, if_pos (c := (1 : Int) = 1 ∧ rat xs p = f ∧ rat xs (p + 1) = s) ⟨rfl, hq⟩]
    have hn : ¬ (c = 1 ∧ rat xs (p - 1) = f ∧ rat xs p = s) := by
      rintro ⟨z1, z2, z3⟩
      have := hc z1
      refine hk ⟨z1, (key_eq hb (p := p - 1) (k := p) (by omega) (by omega) (by omega) h1).mpr ?_⟩
      rw [show p - 1 + 1 = p by omega]
      omega
    rw [if_neg hn, show p + 1 + 1 = p + 2 by omega]
    exact cnt2_yes h0 ⟨by omega, h1, hq⟩
  · rw [if_neg hq, if_neg (c := (1 : Int) = 1 ∧ rat xs p = f ∧ rat xs (p + 1) = s) (fun z => hq z.2), Nat.add_zero]
    by_cases hz : c = 1 ∧ rat xs (p - 1) = f ∧ rat xs p = s
    · rw [if_pos hz]
    · rw [if_neg hz]
      exact cnt2_no h0 (fun z => hq z.2.2)
abbrev cntPost (M : PM) (q : Nat) (bf bs bt : Int) (xs : List Int) : Option Value → PM → Prop := fun v M' => v = none ∧ Fr (fun z => z = q + 1) M M' ∧ ∃ u', Pz M' q u' bf bs bt ∧ ∀ j : Int, 0 ≤ j → j + 1 < xs.length → u' (key xs j).toNat = (cnt2 (rat xs j) (rat xs (j + 1)) xs : Int)
theorem lp_cnt (hr : Rw M a xs) (hb : SB xs) (ha : a ≠ q + 1 ∧ a + 1 ≠ q + 1) (n : Nat) : ∀ (c p : Int) (M1 : PM), (0 ≤ p ∧ p ≤ xs.length ∧ xs.length - p < n ∧ (c = 0 ∨ c = 1) ∧ (c = 1 → 1 ≤ p) ∧ Fr (fun z => z = q + 1) M M1 ∧ ∃ u1, Pz M1 q u1 bf bs bt ∧ ∀ j : Int, 0 ≤ j → j + 1 < xs.length → u1 (key xs j).toNat + (cnt2 (rat xs j) (rat xs (j + 1)) (xs.drop (nxp xs c p (rat xs j) (rat xs (j + 1))).toNat) : Int) = (cnt2 (rat xs j) (rat xs (j + 1)) xs : Int)) →
    Wp k_X3_countAll (34, [(0, .ref q), (1, .ref a), (2, .int (I c)), (3, .int (I p))], [], M1) (cntPost M q bf bs bt xs) := by
  have hl := hr.len
  induction n with
  | zero => intro c p M1 hi; exfalso; omega
  | succ n ih =>
    intro c p M1 hi
    obtain ⟨i1, i2, i3, i4, i5, i6, u1, i7, i8⟩ := hi
    have hr1 := hr.fr i6 ha.1 ha.2
    have hsz := c_Row_size hr1
    obtain ⟨p1, p2⟩ := id i7
    obtain ⟨gg, r1, r2, r3, r4⟩ := id hr1
    by_cases hp : p + 1 < xs.length
    · have kb := key_bd hb i1 hp
      have hka := c_Pairs_keyAt i7 hr1 hb i1 hp
      have hY : ¬ (c = 1 ∧ key xs (p - 1) = key xs p) → Wp k_X3_countAll (69, [(0, .ref q), (1, .ref a), (2, .int (I c)), (3, .int (I p))], [], M1) (cntPost M q bf bs bt xs) := by
        intro hno
        repeat' (refine wf rfl ?_; first | refine wq_iadd ?_ | refine wq_isub ?_ | refine wq_imul ?_ | refine wq_iinc rfl ?_ | refine wq_goto ?_ | refine wq_k rfl ?_ | refine wq_b rfl rfl ?_ | refine wq_getf (by assumption) rfl ?_ | refine wq_alen (by assumption) rfl ?_ | (refine wq_eq ⟨by omega, by omega⟩ ⟨by omega, by omega⟩ (fun _ => ?_) (fun _ => ?_) <;> try (exfalso; omega)) | (refine wq_ne ⟨by omega, by omega⟩ ⟨by omega, by omega⟩ (fun _ => ?_) (fun _ => ?_) <;> try (exfalso; omega)) | (refine wq_lt ⟨by omega, by omega⟩ ⟨by omega, by omega⟩ (fun _ => ?_) (fun _ => ?_) <;> try (exfalso; omega)) | (refine wq_ge ⟨by omega, by omega⟩ ⟨by omega, by omega⟩ (fun _ => ?_) (fun _ => ?_) <;> try (exfalso; omega)) | (refine wq_gt ⟨by omega, by omega⟩ ⟨by omega, by omega⟩ (fun _ => ?_) (fun _ => ?_) <;> try (exfalso; omega)) | (refine wq_le ⟨by omega, by omega⟩ ⟨by omega, by omega⟩ (fun _ => ?_) (fun _ => ?_) <;> try (exfalso; omega)) | (refine wq_ifeq ⟨by omega, by omega⟩ (fun _ => ?_) (fun _ => ?_) <;> try (exfalso; omega)) | (refine wq_ifne ⟨by omega, by omega⟩ (fun _ => ?_) (fun _ => ?_) <;> try (exfalso; omega)) | (refine wq_iflt ⟨by omega, by omega⟩ (fun _ => ?_) (fun _ => ?_) <;> try (exfalso; omega)) | (refine wq_ifge ⟨by omega, by omega⟩ (fun _ => ?_) (fun _ => ?_) <;> try (exfalso; omega)) | (refine wq_ifgt ⟨by omega, by omega⟩ (fun _ => ?_) (fun _ => ?_) <;> try (exfalso; omega)) | (refine wq_ifle ⟨by omega, by omega⟩ (fun _ => ?_) (fun _ => ?_) <;> try (exfalso; omega)) | refine wq_r rfl rfl rfl rfl rfl rfl ?_)
        refine wf rfl (wq_cv rfl rfl rfl p1 (hka.mono ?_))
        rintro v M1 ⟨rfl, rfl⟩
        repeat (refine wf rfl ?_; first | refine wq_iadd ?_ | refine wq_isub ?_ | refine wq_imul ?_ | refine wq_iinc rfl ?_ | refine wq_goto ?_ | refine wq_k rfl ?_ | refine wq_b rfl rfl ?_ | refine wq_getf (by assumption) rfl ?_ | refine wq_alen (by assumption) rfl ?_)
        refine wf rfl (wq_iald p2 ⟨by omega, by omega⟩ (by omega) (by omega) ?_)
        repeat (refine wf rfl ?_; first | refine wq_iadd ?_ | refine wq_isub ?_ | refine wq_imul ?_ | refine wq_iinc rfl ?_ | refine wq_goto ?_ | refine wq_k rfl ?_ | refine wq_b rfl rfl ?_ | refine wq_getf (by assumption) rfl ?_ | refine wq_alen (by assumption) rfl ?_)
        refine wf rfl (wq_iast p2 rfl ⟨by omega, by omega⟩ (by omega) (by omega) (fun M2 e2 f2 => ?_))
        repeat' (first | (refine Wp.sub (ih _ _ _ ?_) ⟨rfl, rfl, rfl, rfl, trivial⟩ rfl) | (refine wf rfl ?_; first | refine wq_iadd ?_ | refine wq_isub ?_ | refine wq_imul ?_ | refine wq_iinc rfl ?_ | refine wq_goto ?_ | refine wq_k rfl ?_ | refine wq_b rfl rfl ?_ | refine wq_getf (by assumption) rfl ?_ | refine wq_alen (by assumption) rfl ?_ | fail | (refine wq_eq ⟨by omega, by omega⟩ ⟨by omega, by omega⟩ (fun _ => ?_) (fun _ => ?_) <;> try (exfalso; omega)) | (refine wq_ne ⟨by omega, by omega⟩ ⟨by omega, by omega⟩ (fun _ => ?_) (fun _ => ?_) <;> try (exfalso; omega)) | (refine wq_lt ⟨by omega, by omega⟩ ⟨by omega, by omega⟩ (fun _ => ?_) (fun _ => ?_) <;> try (exfalso; omega)) | (refine wq_ge ⟨by omega, by omega⟩ ⟨by omega, by omega⟩ (fun _ => ?_) (fun _ => ?_) <;> try (exfalso; omega)) | (refine wq_gt ⟨by omega, by omega⟩ ⟨by omega, by omega⟩ (fun _ => ?_) (fun _ => ?_) <;> try (exfalso; omega)) | (refine wq_le ⟨by omega, by omega⟩ ⟨by omega, by omega⟩ (fun _ => ?_) (fun _ => ?_) <;> try (exfalso; omega)) | (refine wq_ifeq ⟨by omega, by omega⟩ (fun _ => ?_) (fun _ => ?_) <;> try (exfalso; omega)) | (refine wq_ifne ⟨by omega, by omega⟩ (fun _ => ?_) (fun _ => ?_) <;> try (exfalso; omega)) | (refine wq_iflt ⟨by omega, by omega⟩ (fun _ => ?_) (fun _ => ?_) <;> try (exfalso; omega)) | (refine wq_ifge ⟨by omega, by omega⟩ (fun _ => ?_) (fun _ => ?_) <;> try (exfalso; omega)) | (refine wq_ifgt ⟨by omega, by omega⟩ (fun _ => ?_) (fun _ => ?_) <;> try (exfalso; omega)) | (refine wq_ifle ⟨by omega, by omega⟩ (fun _ => ?_) (fun _ => ?_) <;> try (exfalso; omega)) | refine wq_r rfl rfl rfl rfl rfl rfl ?_))
        refine ⟨by omega, by omega, by omega, Or.inr rfl, fun _ => by omega, i6.tr f2, _, ⟨f2.at (by omega) p1, e2⟩, fun j j0 j1 => ?_⟩
        have hst := nxp_no (f := rat xs j) (s := rat xs (j + 1)) hb i5 i1 hp hno
        have hj := i8 j j0 j1
        have kj := key_bd hb j0 j1
        by_cases he : key xs j = key xs p
        · have he2 := (key_eq hb j0 j1 i1 hp).mp he
          rw [if_pos (by omega)] at hst
          rw [he, upz_at, ← he]
          omega
        · have he2 : ¬ (rat xs p = rat xs j ∧ rat xs (p + 1) = rat xs (j + 1)) := fun z => he ((key_eq hb j0 j1 i1 hp).mpr (by omega))
          rw [if_neg he2] at hst
          rw [upz_ne _ _ (by omega)]
          omega
      repeat (refine wf rfl ?_; first | refine wq_iadd ?_ | refine wq_isub ?_ | refine wq_imul ?_ | refine wq_iinc rfl ?_ | refine wq_goto ?_ | refine wq_k rfl ?_ | refine wq_b rfl rfl ?_ | refine wq_getf (by assumption) rfl ?_ | refine wq_alen (by assumption) rfl ?_)
      refine wf rfl (wq_cv rfl rfl rfl r1 (hsz.mono ?_))
      rintro v M1 ⟨rfl, rfl⟩
      refine wf rfl (wq_ge ⟨by omega, by omega⟩ ⟨by omega, by omega⟩ (fun c2 => by exfalso; omega) (fun c2 => ?_))
      repeat (refine wf rfl ?_; first | refine wq_iadd ?_ | refine wq_isub ?_ | refine wq_imul ?_ | refine wq_iinc rfl ?_ | refine wq_goto ?_ | refine wq_k rfl ?_ | refine wq_b rfl rfl ?_ | refine wq_getf (by assumption) rfl ?_ | refine wq_alen (by assumption) rfl ?_)
      refine wf rfl (wq_ifeq ⟨by omega, by omega⟩ (fun c3 => ?_) (fun c3 => ?_))
      · exact hY (fun z => by omega)
      · have hc1 : c = 1 := by omega
        have h1p := i5 hc1
        have kb0 := key_bd hb (p := p - 1) (by omega) (by omega)
        have hk0 := c_Pairs_keyAt i7 hr1 hb (p := p - 1) (by omega) (by omega)
        repeat (refine wf rfl ?_; first | refine wq_iadd ?_ | refine wq_isub ?_ | refine wq_imul ?_ | refine wq_iinc rfl ?_ | refine wq_goto ?_ | refine wq_k rfl ?_ | refine wq_b rfl rfl ?_ | refine wq_getf (by assumption) rfl ?_ | refine wq_alen (by assumption) rfl ?_)
        refine wf rfl (wq_cv rfl rfl rfl p1 (hk0.mono ?_))
        rintro v M1 ⟨rfl, rfl⟩
        repeat (refine wf rfl ?_; first | refine wq_iadd ?_ | refine wq_isub ?_ | refine wq_imul ?_ | refine wq_iinc rfl ?_ | refine wq_goto ?_ | refine wq_k rfl ?_ | refine wq_b rfl rfl ?_ | refine wq_getf (by assumption) rfl ?_ | refine wq_alen (by assumption) rfl ?_)
        refine wf rfl (wq_cv rfl rfl rfl p1 (hka.mono ?_))
        rintro v M1 ⟨rfl, rfl⟩
        refine wf rfl (wq_ne ⟨by omega, by omega⟩ ⟨by omega, by omega⟩ (fun c4 => ?_) (fun c4 => ?_))
        · exact hY (fun z => c4 z.2)
        · repeat' (first | (refine Wp.sub (ih _ _ _ ?_) ⟨rfl, rfl, rfl, rfl, trivial⟩ rfl) | (refine wf rfl ?_; first | refine wq_iadd ?_ | refine wq_isub ?_ | refine wq_imul ?_ | refine wq_iinc rfl ?_ | refine wq_goto ?_ | refine wq_k rfl ?_ | refine wq_b rfl rfl ?_ | refine wq_getf (by assumption) rfl ?_ | refine wq_alen (by assumption) rfl ?_ | fail | (refine wq_eq ⟨by omega, by omega⟩ ⟨by omega, by omega⟩ (fun _ => ?_) (fun _ => ?_) <;> try (exfalso; omega)) | (refine wq_ne ⟨by omega, by omega⟩ ⟨by omega, by omega⟩ (fun _ => ?_) (fun _ => ?_) <;> try (exfalso; omega)) | (refine wq_lt ⟨by omega, by omega⟩ ⟨by omega, by omega⟩ (fun _ => ?_) (fun _ => ?_) <;> try (exfalso; omega)) | (refine wq_ge ⟨by omega, by omega⟩ ⟨by omega, by omega⟩ (fun _ => ?_) (fun _ => ?_) <;> try (exfalso; omega)) | (refine wq_gt ⟨by omega, by omega⟩ ⟨by omega, by omega⟩ (fun _ => ?_) (fun _ => ?_) <;> try (exfalso; omega)) | (refine wq_le ⟨by omega, by omega⟩ ⟨by omega, by omega⟩ (fun _ => ?_) (fun _ => ?_) <;> try (exfalso; omega)) | (refine wq_ifeq ⟨by omega, by omega⟩ (fun _ => ?_) (fun _ => ?_) <;> try (exfalso; omega)) | (refine wq_ifne ⟨by omega, by omega⟩ (fun _ => ?_) (fun _ => ?_) <;> try (exfalso; omega)) | (refine wq_iflt ⟨by omega, by omega⟩ (fun _ => ?_) (fun _ => ?_) <;> try (exfalso; omega)) | (refine wq_ifge ⟨by omega, by omega⟩ (fun _ => ?_) (fun _ => ?_) <;> try (exfalso; omega)) | (refine wq_ifgt ⟨by omega, by omega⟩ (fun _ => ?_) (fun _ => ?_) <;> try (exfalso; omega)) | (refine wq_ifle ⟨by omega, by omega⟩ (fun _ => ?_) (fun _ => ?_) <;> try (exfalso; omega)) | refine wq_r rfl rfl rfl rfl rfl rfl ?_))
          refine ⟨by omega, by omega, by omega, Or.inl rfl, fun z => by omega, i6, u1, i7, fun j j0 j1 => ?_⟩
          rw [← i8 j j0 j1, hc1, nxp_ov hb h1p hp c4]
    · repeat (refine wf rfl ?_; first | refine wq_iadd ?_ | refine wq_isub ?_ | refine wq_imul ?_ | refine wq_iinc rfl ?_ | refine wq_goto ?_ | refine wq_k rfl ?_ | refine wq_b rfl rfl ?_ | refine wq_getf (by assumption) rfl ?_ | refine wq_alen (by assumption) rfl ?_)
      refine wf rfl (wq_cv rfl rfl rfl r1 (hsz.mono ?_))
      rintro v M1 ⟨rfl, rfl⟩
      refine wf rfl (wq_ge ⟨by omega, by omega⟩ ⟨by omega, by omega⟩ (fun c2 => ?_) (fun c2 => by exfalso; omega))
      repeat' (refine wf rfl ?_; first | refine wq_iadd ?_ | refine wq_isub ?_ | refine wq_imul ?_ | refine wq_iinc rfl ?_ | refine wq_goto ?_ | refine wq_k rfl ?_ | refine wq_b rfl rfl ?_ | refine wq_getf (by assumption) rfl ?_ | refine wq_alen (by assumption) rfl ?_ | (refine wq_eq ⟨by omega, by omega⟩ ⟨by omega, by omega⟩ (fun _ => ?_) (fun _ => ?_) <;> try (exfalso; omega)) | (refine wq_ne ⟨by omega, by omega⟩ ⟨by omega, by omega⟩ (fun _ => ?_) (fun _ => ?_) <;> try (exfalso; omega)) | (refine wq_lt ⟨by omega, by omega⟩ ⟨by omega, by omega⟩ (fun _ => ?_) (fun _ => ?_) <;> try (exfalso; omega)) | (refine wq_ge ⟨by omega, by omega⟩ ⟨by omega, by omega⟩ (fun _ => ?_) (fun _ => ?_) <;> try (exfalso; omega)) | (refine wq_gt ⟨by omega, by omega⟩ ⟨by omega, by omega⟩ (fun _ => ?_) (fun _ => ?_) <;> try (exfalso; omega)) | (refine wq_le ⟨by omega, by omega⟩ ⟨by omega, by omega⟩ (fun _ => ?_) (fun _ => ?_) <;> try (exfalso; omega)) | (refine wq_ifeq ⟨by omega, by omega⟩ (fun _ => ?_) (fun _ => ?_) <;> try (exfalso; omega)) | (refine wq_ifne ⟨by omega, by omega⟩ (fun _ => ?_) (fun _ => ?_) <;> try (exfalso; omega)) | (refine wq_iflt ⟨by omega, by omega⟩ (fun _ => ?_) (fun _ => ?_) <;> try (exfalso; omega)) | (refine wq_ifge ⟨by omega, by omega⟩ (fun _ => ?_) (fun _ => ?_) <;> try (exfalso; omega)) | (refine wq_ifgt ⟨by omega, by omega⟩ (fun _ => ?_) (fun _ => ?_) <;> try (exfalso; omega)) | (refine wq_ifle ⟨by omega, by omega⟩ (fun _ => ?_) (fun _ => ?_) <;> try (exfalso; omega)) | refine wq_r rfl rfl rfl rfl rfl rfl ?_)
      refine ⟨rfl, i6, u1, i7, fun j j0 j1 => ?_⟩
      have hj := i8 j j0 j1
      have hz : cnt2 (rat xs j) (rat xs (j + 1)) (xs.drop (nxp xs c p (rat xs j) (rat xs (j + 1))).toNat) = 0 := by
        have hge : xs.length ≤ (nxp xs c p (rat xs j) (rat xs (j + 1))).toNat + 1 := by
          unfold nxp
          split <;> omega
        by_cases hg : (nxp xs c p (rat xs j) (rat xs (j + 1))).toNat < xs.length
        · rw [drop1 hg, List.drop_eq_nil_of_le (by omega), cnt2]
          simp
        · rw [List.drop_eq_nil_of_le (by omega), cnt2]
          simp
      rw [hz] at hj
      omega
theorem lp_zero (h : Pz M q u bf bs bt) (hr : Rw M a xs) (hb : SB xs) (ha : a ≠ q + 1 ∧ a + 1 ≠ q + 1) (n : Nat) : ∀ (k : Int) (M1 : PM), (0 ≤ k ∧ k ≤ xs.length ∧ xs.length - k < n ∧ Fr (fun z => z = q + 1) M M1 ∧ ∃ u1, Pz M1 q u1 bf bs bt ∧ ∀ j : Int, 0 ≤ j → j + 1 < xs.length → j < k → u1 (key xs j).toNat = 0) →
    Wp k_X3_countAll (2, [(0, .ref q), (1, .ref a), (2, .int (I k))], [], M1) (cntPost M q bf bs bt xs) := by
  have hl := hr.len
  induction n with
  | zero => intro k M1 hi; exfalso; omega
  | succ n ih =>
    intro k M1 hi
    obtain ⟨i1, i2, i3, i4, u1, i5, i6⟩ := hi
    have hr1 := hr.fr i4 ha.1 ha.2
    have hsz := c_Row_size hr1
    obtain ⟨p1, p2⟩ := id i5
    obtain ⟨gg, r1, r2, r3, r4⟩ := id hr1
    repeat (refine wf rfl ?_; first | refine wq_iadd ?_ | refine wq_isub ?_ | refine wq_imul ?_ | refine wq_iinc rfl ?_ | refine wq_goto ?_ | refine wq_k rfl ?_ | refine wq_b rfl rfl ?_ | refine wq_getf (by assumption) rfl ?_ | refine wq_alen (by assumption) rfl ?_)
    refine wf rfl (wq_cv rfl rfl rfl r1 (hsz.mono ?_))
    rintro v M1 ⟨rfl, rfl⟩
    refine wf rfl (wq_ge ⟨by omega, by omega⟩ ⟨by omega, by omega⟩ (fun c2 => ?_) (fun c2 => ?_))
    · have hc := lp_cnt (M := M) (q := q) (bf := bf) (bs := bs) (bt := bt) hr hb ha (xs.length + 1)
      repeat' (first | (refine Wp.sub (hc _ _ _ ?_) ⟨rfl, rfl, rfl, rfl, trivial⟩ rfl) | (refine wf rfl ?_; first | refine wq_iadd ?_ | refine wq_isub ?_ | refine wq_imul ?_ | refine wq_iinc rfl ?_ | refine wq_goto ?_ | refine wq_k rfl ?_ | refine wq_b rfl rfl ?_ | refine wq_getf (by assumption) rfl ?_ | refine wq_alen (by assumption) rfl ?_ | fail | (refine wq_eq ⟨by omega, by omega⟩ ⟨by omega, by omega⟩ (fun _ => ?_) (fun _ => ?_) <;> try (exfalso; omega)) | (refine wq_ne ⟨by omega, by omega⟩ ⟨by omega, by omega⟩ (fun _ => ?_) (fun _ => ?_) <;> try (exfalso; omega)) | (refine wq_lt ⟨by omega, by omega⟩ ⟨by omega, by omega⟩ (fun _ => ?_) (fun _ => ?_) <;> try (exfalso; omega)) | (refine wq_ge ⟨by omega, by omega⟩ ⟨by omega, by omega⟩ (fun _ => ?_) (fun _ => ?_) <;> try (exfalso; omega)) | (refine wq_gt ⟨by omega, by omega⟩ ⟨by omega, by omega⟩ (fun _ => ?_) (fun _ => ?_) <;> try (exfalso; omega)) | (refine wq_le ⟨by omega, by omega⟩ ⟨by omega, by omega⟩ (fun _ => ?_) (fun _ => ?_) <;> try (exfalso; omega)) | (refine wq_ifeq ⟨by omega, by omega⟩ (fun _ => ?_) (fun _ => ?_) <;> try (exfalso; omega)) | (refine wq_ifne ⟨by omega, by omega⟩ (fun _ => ?_) (fun _ => ?_) <;> try (exfalso; omega)) | (refine wq_iflt ⟨by omega, by omega⟩ (fun _ => ?_) (fun _ => ?_) <;> try (exfalso; omega)) | (refine wq_ifge ⟨by omega, by omega⟩ (fun _ => ?_) (fun _ => ?_) <;> try (exfalso; omega)) | (refine wq_ifgt ⟨by omega, by omega⟩ (fun _ => ?_) (fun _ => ?_) <;> try (exfalso; omega)) | (refine wq_ifle ⟨by omega, by omega⟩ (fun _ => ?_) (fun _ => ?_) <;> try (exfalso; omega)) | refine wq_r rfl rfl rfl rfl rfl rfl ?_))
      refine ⟨by omega, by omega, by omega, Or.inl rfl, fun z => by omega, i4, u1, i5, fun j j0 j1 => ?_⟩
      rw [i6 j j0 j1 (by omega)]
      unfold nxp
      rw [if_neg (by omega)]
      simp
    · have kb := key_bd hb i1 c2
      have hka := c_Pairs_keyAt i5 hr1 hb i1 c2
      repeat (refine wf rfl ?_; first | refine wq_iadd ?_ | refine wq_isub ?_ | refine wq_imul ?_ | refine wq_iinc rfl ?_ | refine wq_goto ?_ | refine wq_k rfl ?_ | refine wq_b rfl rfl ?_ | refine wq_getf (by assumption) rfl ?_ | refine wq_alen (by assumption) rfl ?_)
      refine wf rfl (wq_cv rfl rfl rfl p1 (hka.mono ?_))
      rintro v M1 ⟨rfl, rfl⟩
      repeat (refine wf rfl ?_; first | refine wq_iadd ?_ | refine wq_isub ?_ | refine wq_imul ?_ | refine wq_iinc rfl ?_ | refine wq_goto ?_ | refine wq_k rfl ?_ | refine wq_b rfl rfl ?_ | refine wq_getf (by assumption) rfl ?_ | refine wq_alen (by assumption) rfl ?_)
      refine wf rfl (wq_iast p2 rfl ⟨by omega, by omega⟩ (by omega) (by omega) (fun M2 e2 f2 => ?_))
      repeat' (first | (refine Wp.sub (ih _ _ ?_) ⟨rfl, rfl, rfl, trivial⟩ rfl) | (refine wf rfl ?_; first | refine wq_iadd ?_ | refine wq_isub ?_ | refine wq_imul ?_ | refine wq_iinc rfl ?_ | refine wq_goto ?_ | refine wq_k rfl ?_ | refine wq_b rfl rfl ?_ | refine wq_getf (by assumption) rfl ?_ | refine wq_alen (by assumption) rfl ?_ | fail | (refine wq_eq ⟨by omega, by omega⟩ ⟨by omega, by omega⟩ (fun _ => ?_) (fun _ => ?_) <;> try (exfalso; omega)) | (refine wq_ne ⟨by omega, by omega⟩ ⟨by omega, by omega⟩ (fun _ => ?_) (fun _ => ?_) <;> try (exfalso; omega)) | (refine wq_lt ⟨by omega, by omega⟩ ⟨by omega, by omega⟩ (fun _ => ?_) (fun _ => ?_) <;> try (exfalso; omega)) | (refine wq_ge ⟨by omega, by omega⟩ ⟨by omega, by omega⟩ (fun _ => ?_) (fun _ => ?_) <;> try (exfalso; omega)) | (refine wq_gt ⟨by omega, by omega⟩ ⟨by omega, by omega⟩ (fun _ => ?_) (fun _ => ?_) <;> try (exfalso; omega)) | (refine wq_le ⟨by omega, by omega⟩ ⟨by omega, by omega⟩ (fun _ => ?_) (fun _ => ?_) <;> try (exfalso; omega)) | (refine wq_ifeq ⟨by omega, by omega⟩ (fun _ => ?_) (fun _ => ?_) <;> try (exfalso; omega)) | (refine wq_ifne ⟨by omega, by omega⟩ (fun _ => ?_) (fun _ => ?_) <;> try (exfalso; omega)) | (refine wq_iflt ⟨by omega, by omega⟩ (fun _ => ?_) (fun _ => ?_) <;> try (exfalso; omega)) | (refine wq_ifge ⟨by omega, by omega⟩ (fun _ => ?_) (fun _ => ?_) <;> try (exfalso; omega)) | (refine wq_ifgt ⟨by omega, by omega⟩ (fun _ => ?_) (fun _ => ?_) <;> try (exfalso; omega)) | (refine wq_ifle ⟨by omega, by omega⟩ (fun _ => ?_) (fun _ => ?_) <;> try (exfalso; omega)) | refine wq_r rfl rfl rfl rfl rfl rfl ?_))
      refine ⟨by omega, by omega, by omega, i4.tr f2, _, ⟨f2.at (by omega) p1, e2⟩, fun j j0 j1 j2 => ?_⟩
      have kj := key_bd hb j0 j1
      by_cases he : key xs j = key xs k
      · rw [he, upz_at]
      · rw [upz_ne _ _ (by omega)]
        refine i6 j j0 j1 ?_
        by_cases hjk : j = k
        · exact absurd (by rw [hjk]) he
        · omega
theorem c_Pairs_countAll (h : Pz M q u bf bs bt) (hr : Rw M a xs) (hb : SB xs) (ha : a ≠ q + 1 ∧ a + 1 ≠ q + 1) : Wm 51 [.ref q, .ref a] M (cntPost M q bf bs bt xs) := by
  refine wm_in (lv := _) rfl rfl rfl ?_
  repeat' (first | (refine Wp.sub (lp_zero h hr hb ha (xs.length + 1) _ _ ?_) ⟨rfl, rfl, rfl, trivial⟩ rfl) | (refine wf rfl ?_; first | refine wq_iadd ?_ | refine wq_isub ?_ | refine wq_imul ?_ | refine wq_iinc rfl ?_ | refine wq_goto ?_ | refine wq_k rfl ?_ | refine wq_b rfl rfl ?_ | refine wq_getf (by assumption) rfl ?_ | refine wq_alen (by assumption) rfl ?_ | fail | (refine wq_eq ⟨by omega, by omega⟩ ⟨by omega, by omega⟩ (fun _ => ?_) (fun _ => ?_) <;> try (exfalso; omega)) | (refine wq_ne ⟨by omega, by omega⟩ ⟨by omega, by omega⟩ (fun _ => ?_) (fun _ => ?_) <;> try (exfalso; omega)) | (refine wq_lt ⟨by omega, by omega⟩ ⟨by omega, by omega⟩ (fun _ => ?_) (fun _ => ?_) <;> try (exfalso; omega)) | (refine wq_ge ⟨by omega, by omega⟩ ⟨by omega, by omega⟩ (fun _ => ?_) (fun _ => ?_) <;> try (exfalso; omega)) | (refine wq_gt ⟨by omega, by omega⟩ ⟨by omega, by omega⟩ (fun _ => ?_) (fun _ => ?_) <;> try (exfalso; omega)) | (refine wq_le ⟨by omega, by omega⟩ ⟨by omega, by omega⟩ (fun _ => ?_) (fun _ => ?_) <;> try (exfalso; omega)) | (refine wq_ifeq ⟨by omega, by omega⟩ (fun _ => ?_) (fun _ => ?_) <;> try (exfalso; omega)) | (refine wq_ifne ⟨by omega, by omega⟩ (fun _ => ?_) (fun _ => ?_) <;> try (exfalso; omega)) | (refine wq_iflt ⟨by omega, by omega⟩ (fun _ => ?_) (fun _ => ?_) <;> try (exfalso; omega)) | (refine wq_ifge ⟨by omega, by omega⟩ (fun _ => ?_) (fun _ => ?_) <;> try (exfalso; omega)) | (refine wq_ifgt ⟨by omega, by omega⟩ (fun _ => ?_) (fun _ => ?_) <;> try (exfalso; omega)) | (refine wq_ifle ⟨by omega, by omega⟩ (fun _ => ?_) (fun _ => ?_) <;> try (exfalso; omega)) | refine wq_r rfl rfl rfl rfl rfl rfl ?_))
  exact ⟨by omega, by omega, by omega, Fr.rf, u, h, fun j j0 j1 j2 => by omega⟩
end PR2
