/-! The Model's fault and tell. -/
section MD18
variable {M : PM} {m : Nat} {hl si re : Int} {xs : List Int}
theorem lp_fault {RR : Int × RS} {fp : Nat → Int} (hx : ∀ x ∈ xs, 0 ≤ x ∧ x < 256) (hl80 : xs.length ≤ 80) (hP : M[m + 14]? = some (aJ 80 fp)) (hL : Lw fp 0 xs) (n : Nat) : ∀ (R : List (List Int)) (k : Int) (ru : List Int) (M1 : PM), (R.length + n = 26 ∧ 0 ≤ k ∧ k ≤ xs.length ∧ Fr (fun q => q = m ∨ q = m + 3) M M1 ∧ MO M1 m hl si re (xs.length : Nat) k ∧ prj (rdRun (xs.drop k.toNat) (0, (R, []), ru) k) = prj RR ∧ ∃ g, M1[m + 3]? = some (aJ 2188 g) ∧ ∀ j, j < R.length → Rf g (81 * j) (xof R j)) →
    Wp k_X10_fault (7, [(0, .ref m), (1, .int (I R.length))], [], M1) (fltPost M m hl si re xs RR) := by
  have main : ∀ (R : List (List Int)) (k : Int) (ru : List Int) (M1 : PM), R.length ≤ 26 → 0 ≤ k → k ≤ xs.length → Fr (fun q => q = m ∨ q = m + 3) M M1 → MO M1 m hl si re (xs.length : Nat) k → prj (rdRun (xs.drop k.toNat) (0, (R, []), ru) k) = prj RR → (∃ g, M1[m + 3]? = some (aJ 2188 g) ∧ ∀ j, j < R.length → Rf g (81 * j) (xof R j)) → (k < xs.length → syC (rat xs k) ≠ 8 + (R.length : Int)) → Wp k_X10_fault (62, [(0, .ref m), (1, .int (I R.length))], [], M1) (fltPost M m hl si re xs RR) := by
    rintro R k ru M1 i1 i2 i3 i4 hO hpr ⟨g, hT, hrows⟩ hno
    exact fault_main hx hl80 hP hL i2 i3 i4 hO hT i1 hrows hpr hno
  have sy26 : ∀ c : Int, syC c < 34 := fun c => (syC_bd c).2
  induction n with
  | zero =>
    rintro R k ru M1 ⟨i1, i2, i3, i4, hO, hpr, hT⟩
    have hst := fun (_ : True) => main R k ru M1 (by omega) i2 i3 i4 hO hpr hT (fun _ => by have := sy26 (rat xs k); omega)
    repeat (refine wf rfl ?_; first | refine wq_iadd ?_ | refine wq_isub ?_ | refine wq_imul ?_ | refine wq_iinc rfl ?_ | refine wq_goto ?_ | refine wq_k rfl ?_ | refine wq_b rfl rfl ?_ | refine wq_getf (by assumption) rfl ?_ | refine wq_alen (by assumption) rfl ?_)
    refine wf rfl (wq_ge ⟨by omega, by omega⟩ ⟨by omega, by omega⟩ (fun _ => ?_) (fun c9 => by exfalso; omega))
    repeat' (first | (refine Wp.sub (hst  ?_) ⟨rfl, rfl, trivial⟩ rfl) | (refine wf rfl ?_; first | refine wq_iadd ?_ | refine wq_isub ?_ | refine wq_imul ?_ | refine wq_iinc rfl ?_ | refine wq_goto ?_ | refine wq_k rfl ?_ | refine wq_b rfl rfl ?_ | refine wq_getf (by assumption) rfl ?_ | refine wq_alen (by assumption) rfl ?_ | fail | (refine wq_eq ⟨by omega, by omega⟩ ⟨by omega, by omega⟩ (fun _ => ?_) (fun _ => ?_) <;> try (exfalso; omega)) | (refine wq_ne ⟨by omega, by omega⟩ ⟨by omega, by omega⟩ (fun _ => ?_) (fun _ => ?_) <;> try (exfalso; omega)) | (refine wq_lt ⟨by omega, by omega⟩ ⟨by omega, by omega⟩ (fun _ => ?_) (fun _ => ?_) <;> try (exfalso; omega)) | (refine wq_ge ⟨by omega, by omega⟩ ⟨by omega, by omega⟩ (fun _ => ?_) (fun _ => ?_) <;> try (exfalso; omega)) | (refine wq_gt ⟨by omega, by omega⟩ ⟨by omega, by omega⟩ (fun _ => ?_) (fun _ => ?_) <;> try (exfalso; omega)) | (refine wq_le ⟨by omega, by omega⟩ ⟨by omega, by omega⟩ (fun _ => ?_) (fun _ => ?_) <;> try (exfalso; omega)) | (refine wq_ifeq ⟨by omega, by omega⟩ (fun _ => ?_) (fun _ => ?_) <;> try (exfalso; omega)) | (refine wq_ifne ⟨by omega, by omega⟩ (fun _ => ?_) (fun _ => ?_) <;> try (exfalso; omega)) | (refine wq_iflt ⟨by omega, by omega⟩ (fun _ => ?_) (fun _ => ?_) <;> try (exfalso; omega)) | (refine wq_ifge ⟨by omega, by omega⟩ (fun _ => ?_) (fun _ => ?_) <;> try (exfalso; omega)) | (refine wq_ifgt ⟨by omega, by omega⟩ (fun _ => ?_) (fun _ => ?_) <;> try (exfalso; omega)) | (refine wq_ifle ⟨by omega, by omega⟩ (fun _ => ?_) (fun _ => ?_) <;> try (exfalso; omega)) | refine wq_r rfl rfl rfl rfl rfl rfl ?_))
    trivial
  | succ n ih =>
    rintro R k ru M1 ⟨i1, i2, i3, i4, hO, hpr, g, hT, hrows⟩
    have hP1 := i4.at (by omega) hP
    have tk1 := c_Md_takes (M := M1) (m := m) (hl := hl) (si := si) (re := re) (ch := 65 + (R.length : Int)) (k := k) ⟨by omega, by omega⟩ hx hl80 hO hP1 hL i2 i3
    repeat (refine wf rfl ?_; first | refine wq_iadd ?_ | refine wq_isub ?_ | refine wq_imul ?_ | refine wq_iinc rfl ?_ | refine wq_goto ?_ | refine wq_k rfl ?_ | refine wq_b rfl rfl ?_ | refine wq_getf (by assumption) rfl ?_ | refine wq_alen (by assumption) rfl ?_)
    refine wf rfl (wq_ge ⟨by omega, by omega⟩ ⟨by omega, by omega⟩ (fun c9 => by exfalso; omega) (fun _ => ?_))
    repeat (refine wf rfl ?_; first | refine wq_iadd ?_ | refine wq_isub ?_ | refine wq_imul ?_ | refine wq_iinc rfl ?_ | refine wq_goto ?_ | refine wq_k rfl ?_ | refine wq_b rfl rfl ?_ | refine wq_getf (by assumption) rfl ?_ | refine wq_alen (by assumption) rfl ?_)
    refine wf rfl (wq_cv rfl rfl rfl hO (tk1.mono ?_))
    rintro v M2 ⟨f2, ⟨⟨c1, c2⟩, rfl, hO2⟩ | ⟨c1, rfl, hO2⟩⟩
    · have i42 := i4.tr (f2.mono (fun q hq => Or.inl hq))
      have hs0 : rdStep (0, (R, []), ru) (rat xs k) = (1, (R, []), []) := by
        unfold rdStep rd0
        dsimp only
        rw [if_pos rfl, if_pos]
        rw [c2]
        unfold syC
        rw [if_neg (by omega), if_pos (by omega)]
        omega
      rw [drop_at i2 c1, rdRun_cons hs0 n15] at hpr
      have tk2 := c_Md_takes (M := M2) (m := m) (hl := hl) (si := si) (re := re) (ch := 61) (k := k + 1) ⟨by omega, by omega⟩ hx hl80 hO2 (i42.at (by omega) hP) hL (by omega) (by omega)
      refine wf rfl (wq_ifeq ⟨by omega, by omega⟩ (fun c9 => by exfalso; omega) (fun _ => ?_))
      repeat (refine wf rfl ?_; first | refine wq_iadd ?_ | refine wq_isub ?_ | refine wq_imul ?_ | refine wq_iinc rfl ?_ | refine wq_goto ?_ | refine wq_k rfl ?_ | refine wq_b rfl rfl ?_ | refine wq_getf (by assumption) rfl ?_ | refine wq_alen (by assumption) rfl ?_)
      refine wf rfl (wq_cv rfl rfl rfl hO2 (tk2.mono ?_))
      rintro v M3 ⟨f3, ⟨⟨c3, c4⟩, rfl, hO3⟩ | ⟨c3, rfl, hO3⟩⟩
      · have i43 := i42.tr (f3.mono (fun q hq => Or.inl hq))
        have hs1 : rdStep (1, (R, []), []) (rat xs (k + 1)) = (2, (R, []), []) := by
          unfold rdStep
          dsimp only
          rw [if_neg (by omega), if_pos rfl, if_pos c4]
        rw [drop_at (by omega) c3, rdRun_cons hs1 (by show (2 : Int) ≠ 5; omega), show k + 1 + 1 = k + 2 by omega] at hpr
        rw [show k + 1 + 1 = k + 2 by omega] at hO3
        have hT3 := f3.at (by omega) (f2.at (by omega) hT)
        have hrr := c_Md_readsRow (r := (R.length : Int)) (N := R.length) (k0 := k + 2) (hl := hl) (si := si) (re := re) (by omega) (by omega) hx hl80 (i43.at (by omega) hP) hL (by omega) (by omega) hO3 hT3
        have hle := rn_le R.length (xs.drop (k + 2).toNat)
        rw [List.length_drop] at hle
        refine wf rfl (wq_ifeq ⟨by omega, by omega⟩ (fun c9 => by exfalso; omega) (fun _ => ?_))
        repeat (refine wf rfl ?_; first | refine wq_iadd ?_ | refine wq_isub ?_ | refine wq_imul ?_ | refine wq_iinc rfl ?_ | refine wq_goto ?_ | refine wq_k rfl ?_ | refine wq_b rfl rfl ?_ | refine wq_getf (by assumption) rfl ?_ | refine wq_alen (by assumption) rfl ?_)
        refine wf rfl (wq_cv rfl rfl rfl hO3 (hrr.mono ?_))
        rintro v M4 ⟨rfl, f4, hO4, g4, e4, r4, q4⟩
        have i44 := i43.tr f4
        by_cases hn : 0 < (rn R.length (xs.drop (k + 2).toNat)).length
        · rw [if_pos hn]
          have h2 := rdRun2 (G := (R, [])) (ru := []) (cs := xs.drop (k + 2).toNat) (k := k + 2) (by rw [List.length_drop]; simp; omega) hn
          dsimp only at h2
          rw [h2, List.drop_drop, List.nil_append] at hpr
          generalize hK : k + 2 + ((rn R.length (xs.drop (k + 2).toNat)).length : Int) = K at *
          rw [show (k + 2).toNat + (rn R.length (xs.drop (k + 2).toNat)).length = K.toNat by omega] at hpr
          have hbad : K < xs.length → ¬ isym R.length (rat xs K) := by
            intro hh
            have := rn_bad (N := R.length) (xs := xs) (k := k + 2) (by omega) (by omega)
            rw [hK] at this
            exact this
          have tk3 := c_Md_takes (M := M4) (m := m) (hl := hl) (si := si) (re := re) (ch := 59) (k := K) ⟨by omega, by omega⟩ hx hl80 hO4 (i44.at (by omega) hP) hL (by omega) (by omega)
          refine wf rfl (wq_ifeq ⟨by omega, by omega⟩ (fun c9 => by exfalso; omega) (fun _ => ?_))
          repeat (refine wf rfl ?_; first | refine wq_iadd ?_ | refine wq_isub ?_ | refine wq_imul ?_ | refine wq_iinc rfl ?_ | refine wq_goto ?_ | refine wq_k rfl ?_ | refine wq_b rfl rfl ?_ | refine wq_getf (by assumption) rfl ?_ | refine wq_alen (by assumption) rfl ?_)
          refine wf rfl (wq_cv rfl rfl rfl hO4 (tk3.mono ?_))
          rintro v M5 ⟨f5, ⟨⟨c5, c6⟩, rfl, hO5⟩ | ⟨c5, rfl, hO5⟩⟩
          · have i45 := i44.tr (f5.mono (fun q hq => Or.inl hq))
            have hs3 : rdStep (3, (R, []), rn R.length (xs.drop (k + 2).toNat)) (rat xs K) = (0, (R ++ [rn R.length (xs.drop (k + 2).toNat)], []), rn R.length (xs.drop (k + 2).toNat)) := by
              unfold rdStep rd3
              dsimp only
              rw [if_neg (by omega), if_neg (by omega), if_neg (by omega), if_pos rfl, if_pos c6]
            rw [drop_at (by omega) c5, rdRun_cons hs3 (by show (0 : Int) ≠ 5; omega)] at hpr
            have hst := fun (_ : True) => ih (R ++ [rn R.length (xs.drop (k + 2).toNat)]) (K + 1) (rn R.length (xs.drop (k + 2).toNat)) M5 ⟨by rw [List.length_append]; simp; omega, by omega, by omega, i45, hO5, hpr, g4, f5.at (by omega) e4, fun j hj => by
              rw [List.length_append] at hj
              have hj : j < R.length + 1 := hj
              by_cases he : j < R.length
              · rw [xof_app1 he]
                exact (hrows j he).congr (fun q w1 w2 => q4 q (by omega))
              · have e : j = R.length := by omega
                subst e
                rw [xof_app2]
                rw [show (81 * (R.length : Int)).toNat = 81 * R.length by omega] at r4
                exact r4⟩
            rw [show (((R ++ [rn R.length (xs.drop (k + 2).toNat)]).length : Nat) : Int) = (R.length : Int) + 1 by rw [List.length_append]; rfl] at hst
            refine wf rfl (wq_ifne ⟨by omega, by omega⟩ (fun _ => ?_) (fun c9 => by exfalso; omega))
            repeat' (first | (refine Wp.sub (hst  ?_) ⟨rfl, rfl, trivial⟩ rfl) | (refine wf rfl ?_; first | refine wq_iadd ?_ | refine wq_isub ?_ | refine wq_imul ?_ | refine wq_iinc rfl ?_ | refine wq_goto ?_ | refine wq_k rfl ?_ | refine wq_b rfl rfl ?_ | refine wq_getf (by assumption) rfl ?_ | refine wq_alen (by assumption) rfl ?_ | fail | (refine wq_eq ⟨by omega, by omega⟩ ⟨by omega, by omega⟩ (fun _ => ?_) (fun _ => ?_) <;> try (exfalso; omega)) | (refine wq_ne ⟨by omega, by omega⟩ ⟨by omega, by omega⟩ (fun _ => ?_) (fun _ => ?_) <;> try (exfalso; omega)) | (refine wq_lt ⟨by omega, by omega⟩ ⟨by omega, by omega⟩ (fun _ => ?_) (fun _ => ?_) <;> try (exfalso; omega)) | (refine wq_ge ⟨by omega, by omega⟩ ⟨by omega, by omega⟩ (fun _ => ?_) (fun _ => ?_) <;> try (exfalso; omega)) | (refine wq_gt ⟨by omega, by omega⟩ ⟨by omega, by omega⟩ (fun _ => ?_) (fun _ => ?_) <;> try (exfalso; omega)) | (refine wq_le ⟨by omega, by omega⟩ ⟨by omega, by omega⟩ (fun _ => ?_) (fun _ => ?_) <;> try (exfalso; omega)) | (refine wq_ifeq ⟨by omega, by omega⟩ (fun _ => ?_) (fun _ => ?_) <;> try (exfalso; omega)) | (refine wq_ifne ⟨by omega, by omega⟩ (fun _ => ?_) (fun _ => ?_) <;> try (exfalso; omega)) | (refine wq_iflt ⟨by omega, by omega⟩ (fun _ => ?_) (fun _ => ?_) <;> try (exfalso; omega)) | (refine wq_ifge ⟨by omega, by omega⟩ (fun _ => ?_) (fun _ => ?_) <;> try (exfalso; omega)) | (refine wq_ifgt ⟨by omega, by omega⟩ (fun _ => ?_) (fun _ => ?_) <;> try (exfalso; omega)) | (refine wq_ifle ⟨by omega, by omega⟩ (fun _ => ?_) (fun _ => ?_) <;> try (exfalso; omega)) | refine wq_r rfl rfl rfl rfl rfl rfl ?_))
            trivial
          · have i45 := i44.tr (f5.mono (fun q hq => Or.inl hq))
            have ha : rdAns xs RR = K := by
              rw [← rdAns_prj hpr]
              exact rd_fail (by omega) (by omega) (by omega) (fun hh => bad3 (hbad hh) (fun z => c5 ⟨hh, z⟩))
            refine wf rfl (wq_ifne ⟨by omega, by omega⟩ (fun c9 => absurd rfl c9) (fun _ => ?_))
            repeat' (refine wf rfl ?_; first | refine wq_iadd ?_ | refine wq_isub ?_ | refine wq_imul ?_ | refine wq_iinc rfl ?_ | refine wq_goto ?_ | refine wq_k rfl ?_ | refine wq_b rfl rfl ?_ | refine wq_getf (by assumption) rfl ?_ | refine wq_alen (by assumption) rfl ?_ | (refine wq_eq ⟨by omega, by omega⟩ ⟨by omega, by omega⟩ (fun _ => ?_) (fun _ => ?_) <;> try (exfalso; omega)) | (refine wq_ne ⟨by omega, by omega⟩ ⟨by omega, by omega⟩ (fun _ => ?_) (fun _ => ?_) <;> try (exfalso; omega)) | (refine wq_lt ⟨by omega, by omega⟩ ⟨by omega, by omega⟩ (fun _ => ?_) (fun _ => ?_) <;> try (exfalso; omega)) | (refine wq_ge ⟨by omega, by omega⟩ ⟨by omega, by omega⟩ (fun _ => ?_) (fun _ => ?_) <;> try (exfalso; omega)) | (refine wq_gt ⟨by omega, by omega⟩ ⟨by omega, by omega⟩ (fun _ => ?_) (fun _ => ?_) <;> try (exfalso; omega)) | (refine wq_le ⟨by omega, by omega⟩ ⟨by omega, by omega⟩ (fun _ => ?_) (fun _ => ?_) <;> try (exfalso; omega)) | (refine wq_ifeq ⟨by omega, by omega⟩ (fun _ => ?_) (fun _ => ?_) <;> try (exfalso; omega)) | (refine wq_ifne ⟨by omega, by omega⟩ (fun _ => ?_) (fun _ => ?_) <;> try (exfalso; omega)) | (refine wq_iflt ⟨by omega, by omega⟩ (fun _ => ?_) (fun _ => ?_) <;> try (exfalso; omega)) | (refine wq_ifge ⟨by omega, by omega⟩ (fun _ => ?_) (fun _ => ?_) <;> try (exfalso; omega)) | (refine wq_ifgt ⟨by omega, by omega⟩ (fun _ => ?_) (fun _ => ?_) <;> try (exfalso; omega)) | (refine wq_ifle ⟨by omega, by omega⟩ (fun _ => ?_) (fun _ => ?_) <;> try (exfalso; omega)) | refine wq_r rfl rfl rfl rfl rfl rfl ?_)
            exact ⟨by rw [ha], i45, ⟨_, hO5⟩, fun z => by omega⟩
        · have hz : (rn R.length (xs.drop (k + 2).toNat)).length = 0 := by omega
          rw [if_neg hn]
          rw [hz] at hO4
          have ha : rdAns xs RR = k + 2 := by
            rw [← rdAns_prj hpr]
            refine rd_fail (by omega) (by omega) (by omega) (fun hh => bad2 ?_)
            have := rn_bad (N := R.length) (xs := xs) (k := k + 2) (by omega) (by omega)
            rw [hz] at this
            simpa using this
          refine wf rfl (wq_ifeq ⟨by omega, by omega⟩ (fun _ => ?_) (fun c9 => absurd rfl c9))
          repeat' (refine wf rfl ?_; first | refine wq_iadd ?_ | refine wq_isub ?_ | refine wq_imul ?_ | refine wq_iinc rfl ?_ | refine wq_goto ?_ | refine wq_k rfl ?_ | refine wq_b rfl rfl ?_ | refine wq_getf (by assumption) rfl ?_ | refine wq_alen (by assumption) rfl ?_ | (refine wq_eq ⟨by omega, by omega⟩ ⟨by omega, by omega⟩ (fun _ => ?_) (fun _ => ?_) <;> try (exfalso; omega)) | (refine wq_ne ⟨by omega, by omega⟩ ⟨by omega, by omega⟩ (fun _ => ?_) (fun _ => ?_) <;> try (exfalso; omega)) | (refine wq_lt ⟨by omega, by omega⟩ ⟨by omega, by omega⟩ (fun _ => ?_) (fun _ => ?_) <;> try (exfalso; omega)) | (refine wq_ge ⟨by omega, by omega⟩ ⟨by omega, by omega⟩ (fun _ => ?_) (fun _ => ?_) <;> try (exfalso; omega)) | (refine wq_gt ⟨by omega, by omega⟩ ⟨by omega, by omega⟩ (fun _ => ?_) (fun _ => ?_) <;> try (exfalso; omega)) | (refine wq_le ⟨by omega, by omega⟩ ⟨by omega, by omega⟩ (fun _ => ?_) (fun _ => ?_) <;> try (exfalso; omega)) | (refine wq_ifeq ⟨by omega, by omega⟩ (fun _ => ?_) (fun _ => ?_) <;> try (exfalso; omega)) | (refine wq_ifne ⟨by omega, by omega⟩ (fun _ => ?_) (fun _ => ?_) <;> try (exfalso; omega)) | (refine wq_iflt ⟨by omega, by omega⟩ (fun _ => ?_) (fun _ => ?_) <;> try (exfalso; omega)) | (refine wq_ifge ⟨by omega, by omega⟩ (fun _ => ?_) (fun _ => ?_) <;> try (exfalso; omega)) | (refine wq_ifgt ⟨by omega, by omega⟩ (fun _ => ?_) (fun _ => ?_) <;> try (exfalso; omega)) | (refine wq_ifle ⟨by omega, by omega⟩ (fun _ => ?_) (fun _ => ?_) <;> try (exfalso; omega)) | refine wq_r rfl rfl rfl rfl rfl rfl ?_)
          exact ⟨by rw [ha]; simp, i44, ⟨_, hO4⟩, fun z => by omega⟩
      · have i43 := i42.tr (f3.mono (fun q hq => Or.inl hq))
        have ha : rdAns xs RR = k + 1 := by
          rw [← rdAns_prj hpr]
          exact rd_fail (by omega) (by omega) (by omega) (fun hh => bad1 (fun z => c3 ⟨hh, z⟩))
        refine wf rfl (wq_ifeq ⟨by omega, by omega⟩ (fun _ => ?_) (fun c9 => absurd rfl c9))
        repeat' (refine wf rfl ?_; first | refine wq_iadd ?_ | refine wq_isub ?_ | refine wq_imul ?_ | refine wq_iinc rfl ?_ | refine wq_goto ?_ | refine wq_k rfl ?_ | refine wq_b rfl rfl ?_ | refine wq_getf (by assumption) rfl ?_ | refine wq_alen (by assumption) rfl ?_ | (refine wq_eq ⟨by omega, by omega⟩ ⟨by omega, by omega⟩ (fun _ => ?_) (fun _ => ?_) <;> try (exfalso; omega)) | (refine wq_ne ⟨by omega, by omega⟩ ⟨by omega, by omega⟩ (fun _ => ?_) (fun _ => ?_) <;> try (exfalso; omega)) | (refine wq_lt ⟨by omega, by omega⟩ ⟨by omega, by omega⟩ (fun _ => ?_) (fun _ => ?_) <;> try (exfalso; omega)) | (refine wq_ge ⟨by omega, by omega⟩ ⟨by omega, by omega⟩ (fun _ => ?_) (fun _ => ?_) <;> try (exfalso; omega)) | (refine wq_gt ⟨by omega, by omega⟩ ⟨by omega, by omega⟩ (fun _ => ?_) (fun _ => ?_) <;> try (exfalso; omega)) | (refine wq_le ⟨by omega, by omega⟩ ⟨by omega, by omega⟩ (fun _ => ?_) (fun _ => ?_) <;> try (exfalso; omega)) | (refine wq_ifeq ⟨by omega, by omega⟩ (fun _ => ?_) (fun _ => ?_) <;> try (exfalso; omega)) | (refine wq_ifne ⟨by omega, by omega⟩ (fun _ => ?_) (fun _ => ?_) <;> try (exfalso; omega)) | (refine wq_iflt ⟨by omega, by omega⟩ (fun _ => ?_) (fun _ => ?_) <;> try (exfalso; omega)) | (refine wq_ifge ⟨by omega, by omega⟩ (fun _ => ?_) (fun _ => ?_) <;> try (exfalso; omega)) | (refine wq_ifgt ⟨by omega, by omega⟩ (fun _ => ?_) (fun _ => ?_) <;> try (exfalso; omega)) | (refine wq_ifle ⟨by omega, by omega⟩ (fun _ => ?_) (fun _ => ?_) <;> try (exfalso; omega)) | refine wq_r rfl rfl rfl rfl rfl rfl ?_)
        exact ⟨by rw [ha], i43, ⟨_, hO3⟩, fun z => by omega⟩
    · have i42 := i4.tr (f2.mono (fun q hq => Or.inl hq))
      have hst := fun (_ : True) => main R k ru M2 (by omega) i2 i3 i42 hO2 hpr ⟨g, f2.at (by omega) hT, hrows⟩ (fun hk hs => c1 ⟨hk, by
        unfold syC at hs
        split at hs
        · omega
        · split at hs <;> omega⟩)
      refine wf rfl (wq_ifeq ⟨by omega, by omega⟩ (fun _ => ?_) (fun c9 => absurd rfl c9))
      repeat' (first | (refine Wp.sub (hst  ?_) ⟨rfl, rfl, trivial⟩ rfl) | (refine wf rfl ?_; first | refine wq_iadd ?_ | refine wq_isub ?_ | refine wq_imul ?_ | refine wq_iinc rfl ?_ | refine wq_goto ?_ | refine wq_k rfl ?_ | refine wq_b rfl rfl ?_ | refine wq_getf (by assumption) rfl ?_ | refine wq_alen (by assumption) rfl ?_ | fail | (refine wq_eq ⟨by omega, by omega⟩ ⟨by omega, by omega⟩ (fun _ => ?_) (fun _ => ?_) <;> try (exfalso; omega)) | (refine wq_ne ⟨by omega, by omega⟩ ⟨by omega, by omega⟩ (fun _ => ?_) (fun _ => ?_) <;> try (exfalso; omega)) | (refine wq_lt ⟨by omega, by omega⟩ ⟨by omega, by omega⟩ (fun _ => ?_) (fun _ => ?_) <;> try (exfalso; omega)) | (refine wq_ge ⟨by omega, by omega⟩ ⟨by omega, by omega⟩ (fun _ => ?_) (fun _ => ?_) <;> try (exfalso; omega)) | (refine wq_gt ⟨by omega, by omega⟩ ⟨by omega, by omega⟩ (fun _ => ?_) (fun _ => ?_) <;> try (exfalso; omega)) | (refine wq_le ⟨by omega, by omega⟩ ⟨by omega, by omega⟩ (fun _ => ?_) (fun _ => ?_) <;> try (exfalso; omega)) | (refine wq_ifeq ⟨by omega, by omega⟩ (fun _ => ?_) (fun _ => ?_) <;> try (exfalso; omega)) | (refine wq_ifne ⟨by omega, by omega⟩ (fun _ => ?_) (fun _ => ?_) <;> try (exfalso; omega)) | (refine wq_iflt ⟨by omega, by omega⟩ (fun _ => ?_) (fun _ => ?_) <;> try (exfalso; omega)) | (refine wq_ifge ⟨by omega, by omega⟩ (fun _ => ?_) (fun _ => ?_) <;> try (exfalso; omega)) | (refine wq_ifgt ⟨by omega, by omega⟩ (fun _ => ?_) (fun _ => ?_) <;> try (exfalso; omega)) | (refine wq_ifle ⟨by omega, by omega⟩ (fun _ => ?_) (fun _ => ?_) <;> try (exfalso; omega)) | refine wq_r rfl rfl rfl rfl rfl rfl ?_))
      trivial
end MD18
def OKP (xs : List Int) : Prop := ∀ x ∈ xs, 0 ≤ x ∧ x < 256
section MD19
variable {M : PM} {m : Nat} {S : ST}
theorem c_Md_faultF (h : MS M m S) (hx : OKP S.2.1) : Wm 158 [.ref m] M (fun v M' => v = some (.int (I (spFault S))) ∧ Fr (fun q => q = m ∨ q = m + 3) M M' ∧ (∃ si re sp, MO M' m (S.2.2.1.length : Nat) si re (S.2.1.length : Nat) sp) ∧ (spFault S = -6 → GA M' (m + 2) (rdRun S.2.1 (0, ([], []), []) 0).2.2.1)) := by
  obtain ⟨⟨si, re, sp, hO⟩, a, ⟨⟨fp, p1, p2⟩, p3⟩, c, d, e⟩ := id h
  obtain ⟨ft, t1⟩ := e.2.1
  refine wm_in (lv := _) rfl rfl rfl ?_
  repeat (refine wf rfl ?_; first | refine wq_iadd ?_ | refine wq_isub ?_ | refine wq_imul ?_ | refine wq_iinc rfl ?_ | refine wq_goto ?_ | refine wq_k rfl ?_ | refine wq_b rfl rfl ?_ | refine wq_getf (by assumption) rfl ?_ | refine wq_alen (by assumption) rfl ?_)
  refine wf rfl (wq_putf hO rfl (fun M1 e1 f1 => ?_))
  have hO1 : MO M1 m (S.2.2.1.length : Nat) si re (S.2.1.length : Nat) 0 := e1
  have hst := fun (_ : True) => lp_fault (M := M1) (m := m) (hl := (S.2.2.1.length : Nat)) (si := si) (re := re) (RR := rdRun S.2.1 (0, ([], []), []) 0) hx p3 (f1.at (by omega) p1) p2 26 [] 0 [] M1 ⟨rfl, by omega, by omega, Fr.rf, hO1, rfl, ft, f1.at (by omega) t1, fun j hj => absurd hj (by simp)⟩
  refine Wp.mono (Q := fltPost M1 m (S.2.2.1.length : Nat) si re S.2.1 (rdRun S.2.1 (0, ([], []), []) 0)) ?_ ?_
  · repeat' (first | (refine Wp.sub (hst  ?_) ⟨rfl, rfl, trivial⟩ rfl) | (refine wf rfl ?_; first | refine wq_iadd ?_ | refine wq_isub ?_ | refine wq_imul ?_ | refine wq_iinc rfl ?_ | refine wq_goto ?_ | refine wq_k rfl ?_ | refine wq_b rfl rfl ?_ | refine wq_getf (by assumption) rfl ?_ | refine wq_alen (by assumption) rfl ?_ | fail | (refine wq_eq ⟨by omega, by omega⟩ ⟨by omega, by omega⟩ (fun _ => ?_) (fun _ => ?_) <;> try (exfalso; omega)) | (refine wq_ne ⟨by omega, by omega⟩ ⟨by omega, by omega⟩ (fun _ => ?_) (fun _ => ?_) <;> try (exfalso; omega)) | (refine wq_lt ⟨by omega, by omega⟩ ⟨by omega, by omega⟩ (fun _ => ?_) (fun _ => ?_) <;> try (exfalso; omega)) | (refine wq_ge ⟨by omega, by omega⟩ ⟨by omega, by omega⟩ (fun _ => ?_) (fun _ => ?_) <;> try (exfalso; omega)) | (refine wq_gt ⟨by omega, by omega⟩ ⟨by omega, by omega⟩ (fun _ => ?_) (fun _ => ?_) <;> try (exfalso; omega)) | (refine wq_le ⟨by omega, by omega⟩ ⟨by omega, by omega⟩ (fun _ => ?_) (fun _ => ?_) <;> try (exfalso; omega)) | (refine wq_ifeq ⟨by omega, by omega⟩ (fun _ => ?_) (fun _ => ?_) <;> try (exfalso; omega)) | (refine wq_ifne ⟨by omega, by omega⟩ (fun _ => ?_) (fun _ => ?_) <;> try (exfalso; omega)) | (refine wq_iflt ⟨by omega, by omega⟩ (fun _ => ?_) (fun _ => ?_) <;> try (exfalso; omega)) | (refine wq_ifge ⟨by omega, by omega⟩ (fun _ => ?_) (fun _ => ?_) <;> try (exfalso; omega)) | (refine wq_ifgt ⟨by omega, by omega⟩ (fun _ => ?_) (fun _ => ?_) <;> try (exfalso; omega)) | (refine wq_ifle ⟨by omega, by omega⟩ (fun _ => ?_) (fun _ => ?_) <;> try (exfalso; omega)) | refine wq_r rfl rfl rfl rfl rfl rfl ?_))
    trivial
  · rintro v M2 ⟨rfl, f2, ⟨sp2, hO2⟩, hg⟩
    exact ⟨rfl, (f1.mono (fun q hq => Or.inl hq)).tr f2, ⟨si, re, sp2, hO2⟩, hg⟩
theorem c_Md_fault (h : MS M m S) (hx : OKP S.2.1) : Wm 158 [.ref m] M (fun v M' => v = some (.int (I (spFault S))) ∧ Fr (inM m) M M' ∧ MS M' m S) := by
  obtain ⟨-, a, b, c, d, e⟩ := id h
  refine (c_Md_faultF h hx).mono ?_
  rintro v M1 ⟨rfl, f1, hO1, -⟩
  exact ⟨rfl, f1.mono (fun q hq => by unfold inM; omega), hO1, a.fr f1 (by omega), b.fr f1 (by omega), c.fr f1 (by omega), d.fr f1 (by omega) (by omega), e.fr f1⟩
theorem tooB_iff {G : GS} : tooB G = true ↔ (9999 < wlG G ∨ ∃ j, j < G.1.length ∧ 9999 < ltG G j) := by
  unfold tooB
  rw [Bool.or_eq_true, decide_eq_true_eq, List.any_eq_true]
  constructor
  · rintro (h | ⟨j, h1, h2⟩)
    · exact Or.inl h
    · exact Or.inr ⟨j, List.mem_range.mp h1, by simpa using h2⟩
  · rintro (h | ⟨j, h1, h2⟩)
    · exact Or.inl h
    · exact Or.inr ⟨j, List.mem_range.mpr h1, by simpa using h2⟩
theorem lp_mtell {G : GS} {t : Nat → Int} (h : Mr M m G) (hW : WFG G) (hT : M[m + 7]? = some (aJ 27 t)) (ht : ∀ j, j < G.1.length → t j = ltG G j) (hw : t 26 = wlG G) {Q : Option Value → PM → Prop}
    (hk : Wp k_X10_tell (99, [(0, .ref m), (1, .int (I (if tooB G = true then 0 else 1)))], [], M) Q) (n : Nat) : ∀ (k b : Int), (0 ≤ k ∧ k ≤ G.1.length ∧ G.1.length - k < n ∧ ((b = 1 ∧ wlG G ≤ 9999 ∧ ∀ j : Nat, (j : Int) < k → ltG G j ≤ 9999) ∨ (b = 0 ∧ tooB G = true))) →
    Wp k_X10_tell (59, [(0, .ref m), (1, .int (I b)), (2, .int (I k))], [], M) Q := by
  have hN := h.le
  obtain ⟨⟨a', b', c', d', e', hO⟩, f, hA, hG⟩ := id h
  have g0 : f (2187 : Int).toNat = G.1.length := hG.cnt.1
  induction n with
  | zero => intro k b hi; exfalso; omega
  | succ n ih =>
    rintro k b ⟨i1, i2, i3, i4⟩
    repeat (refine wf rfl ?_; first | refine wq_iadd ?_ | refine wq_isub ?_ | refine wq_imul ?_ | refine wq_iinc rfl ?_ | refine wq_goto ?_ | refine wq_k rfl ?_ | refine wq_b rfl rfl ?_ | refine wq_getf (by assumption) rfl ?_ | refine wq_alen (by assumption) rfl ?_)
    refine wf rfl (wq_iald hA ⟨by omega, by omega⟩ (by omega) (by omega) ?_)
    refine wf rfl (wq_ge ⟨by omega, by omega⟩ ⟨by omega, by omega⟩ (fun c2 => ?_) (fun c2 => ?_))
    · rcases i4 with ⟨rfl, e1, e2⟩ | ⟨rfl, e1⟩
      · rw [if_neg (fun z => by
          rcases tooB_iff.mp z with w | ⟨j, w1, w2⟩
          · omega
          · have := e2 j (by omega); omega)] at hk
        have hst := fun (_ : True) => hk
        repeat' (first | (refine Wp.sub (hst  ?_) ⟨rfl, rfl, trivial⟩ rfl) | (refine wf rfl ?_; first | refine wq_iadd ?_ | refine wq_isub ?_ | refine wq_imul ?_ | refine wq_iinc rfl ?_ | refine wq_goto ?_ | refine wq_k rfl ?_ | refine wq_b rfl rfl ?_ | refine wq_getf (by assumption) rfl ?_ | refine wq_alen (by assumption) rfl ?_ | fail | (refine wq_eq ⟨by omega, by omega⟩ ⟨by omega, by omega⟩ (fun _ => ?_) (fun _ => ?_) <;> try (exfalso; omega)) | (refine wq_ne ⟨by omega, by omega⟩ ⟨by omega, by omega⟩ (fun _ => ?_) (fun _ => ?_) <;> try (exfalso; omega)) | (refine wq_lt ⟨by omega, by omega⟩ ⟨by omega, by omega⟩ (fun _ => ?_) (fun _ => ?_) <;> try (exfalso; omega)) | (refine wq_ge ⟨by omega, by omega⟩ ⟨by omega, by omega⟩ (fun _ => ?_) (fun _ => ?_) <;> try (exfalso; omega)) | (refine wq_gt ⟨by omega, by omega⟩ ⟨by omega, by omega⟩ (fun _ => ?_) (fun _ => ?_) <;> try (exfalso; omega)) | (refine wq_le ⟨by omega, by omega⟩ ⟨by omega, by omega⟩ (fun _ => ?_) (fun _ => ?_) <;> try (exfalso; omega)) | (refine wq_ifeq ⟨by omega, by omega⟩ (fun _ => ?_) (fun _ => ?_) <;> try (exfalso; omega)) | (refine wq_ifne ⟨by omega, by omega⟩ (fun _ => ?_) (fun _ => ?_) <;> try (exfalso; omega)) | (refine wq_iflt ⟨by omega, by omega⟩ (fun _ => ?_) (fun _ => ?_) <;> try (exfalso; omega)) | (refine wq_ifge ⟨by omega, by omega⟩ (fun _ => ?_) (fun _ => ?_) <;> try (exfalso; omega)) | (refine wq_ifgt ⟨by omega, by omega⟩ (fun _ => ?_) (fun _ => ?_) <;> try (exfalso; omega)) | (refine wq_ifle ⟨by omega, by omega⟩ (fun _ => ?_) (fun _ => ?_) <;> try (exfalso; omega)) | refine wq_r rfl rfl rfl rfl rfl rfl ?_))
        trivial
      · rw [if_pos e1] at hk
        have hst := fun (_ : True) => hk
        repeat' (first | (refine Wp.sub (hst  ?_) ⟨rfl, rfl, trivial⟩ rfl) | (refine wf rfl ?_; first | refine wq_iadd ?_ | refine wq_isub ?_ | refine wq_imul ?_ | refine wq_iinc rfl ?_ | refine wq_goto ?_ | refine wq_k rfl ?_ | refine wq_b rfl rfl ?_ | refine wq_getf (by assumption) rfl ?_ | refine wq_alen (by assumption) rfl ?_ | fail | (refine wq_eq ⟨by omega, by omega⟩ ⟨by omega, by omega⟩ (fun _ => ?_) (fun _ => ?_) <;> try (exfalso; omega)) | (refine wq_ne ⟨by omega, by omega⟩ ⟨by omega, by omega⟩ (fun _ => ?_) (fun _ => ?_) <;> try (exfalso; omega)) | (refine wq_lt ⟨by omega, by omega⟩ ⟨by omega, by omega⟩ (fun _ => ?_) (fun _ => ?_) <;> try (exfalso; omega)) | (refine wq_ge ⟨by omega, by omega⟩ ⟨by omega, by omega⟩ (fun _ => ?_) (fun _ => ?_) <;> try (exfalso; omega)) | (refine wq_gt ⟨by omega, by omega⟩ ⟨by omega, by omega⟩ (fun _ => ?_) (fun _ => ?_) <;> try (exfalso; omega)) | (refine wq_le ⟨by omega, by omega⟩ ⟨by omega, by omega⟩ (fun _ => ?_) (fun _ => ?_) <;> try (exfalso; omega)) | (refine wq_ifeq ⟨by omega, by omega⟩ (fun _ => ?_) (fun _ => ?_) <;> try (exfalso; omega)) | (refine wq_ifne ⟨by omega, by omega⟩ (fun _ => ?_) (fun _ => ?_) <;> try (exfalso; omega)) | (refine wq_iflt ⟨by omega, by omega⟩ (fun _ => ?_) (fun _ => ?_) <;> try (exfalso; omega)) | (refine wq_ifge ⟨by omega, by omega⟩ (fun _ => ?_) (fun _ => ?_) <;> try (exfalso; omega)) | (refine wq_ifgt ⟨by omega, by omega⟩ (fun _ => ?_) (fun _ => ?_) <;> try (exfalso; omega)) | (refine wq_ifle ⟨by omega, by omega⟩ (fun _ => ?_) (fun _ => ?_) <;> try (exfalso; omega)) | refine wq_r rfl rfl rfl rfl rfl rfl ?_))
        trivial
    · have hb := ltG_bd hW k.toNat (by omega)
      have et := ht k.toNat (by omega)
      rcases i4 with ⟨rfl, e1, e2⟩ | ⟨rfl, e1⟩
      · repeat (refine wf rfl ?_; first | refine wq_iadd ?_ | refine wq_isub ?_ | refine wq_imul ?_ | refine wq_iinc rfl ?_ | refine wq_goto ?_ | refine wq_k rfl ?_ | refine wq_b rfl rfl ?_ | refine wq_getf (by assumption) rfl ?_ | refine wq_alen (by assumption) rfl ?_)
        refine wf rfl (wq_ifeq ⟨by omega, by omega⟩ (fun c9 => by exfalso; omega) (fun _ => ?_))
        repeat (refine wf rfl ?_; first | refine wq_iadd ?_ | refine wq_isub ?_ | refine wq_imul ?_ | refine wq_iinc rfl ?_ | refine wq_goto ?_ | refine wq_k rfl ?_ | refine wq_b rfl rfl ?_ | refine wq_getf (by assumption) rfl ?_ | refine wq_alen (by assumption) rfl ?_)
        refine wf rfl (wq_iald hT ⟨by omega, by omega⟩ (by omega) (by omega) ?_)
        rw [et]
        repeat (refine wf rfl ?_; first | refine wq_iadd ?_ | refine wq_isub ?_ | refine wq_imul ?_ | refine wq_iinc rfl ?_ | refine wq_goto ?_ | refine wq_k rfl ?_ | refine wq_b rfl rfl ?_ | refine wq_getf (by assumption) rfl ?_ | refine wq_alen (by assumption) rfl ?_)
        refine wf rfl (wq_gt ⟨by omega, by omega⟩ ⟨by omega, by omega⟩ (fun c3 => ?_) (fun c3 => ?_))
        · repeat' (first | (refine Wp.sub (ih _ _ ?_) ⟨rfl, rfl, rfl, trivial⟩ rfl) | (refine wf rfl ?_; first | refine wq_iadd ?_ | refine wq_isub ?_ | refine wq_imul ?_ | refine wq_iinc rfl ?_ | refine wq_goto ?_ | refine wq_k rfl ?_ | refine wq_b rfl rfl ?_ | refine wq_getf (by assumption) rfl ?_ | refine wq_alen (by assumption) rfl ?_ | fail | (refine wq_eq ⟨by omega, by omega⟩ ⟨by omega, by omega⟩ (fun _ => ?_) (fun _ => ?_) <;> try (exfalso; omega)) | (refine wq_ne ⟨by omega, by omega⟩ ⟨by omega, by omega⟩ (fun _ => ?_) (fun _ => ?_) <;> try (exfalso; omega)) | (refine wq_lt ⟨by omega, by omega⟩ ⟨by omega, by omega⟩ (fun _ => ?_) (fun _ => ?_) <;> try (exfalso; omega)) | (refine wq_ge ⟨by omega, by omega⟩ ⟨by omega, by omega⟩ (fun _ => ?_) (fun _ => ?_) <;> try (exfalso; omega)) | (refine wq_gt ⟨by omega, by omega⟩ ⟨by omega, by omega⟩ (fun _ => ?_) (fun _ => ?_) <;> try (exfalso; omega)) | (refine wq_le ⟨by omega, by omega⟩ ⟨by omega, by omega⟩ (fun _ => ?_) (fun _ => ?_) <;> try (exfalso; omega)) | (refine wq_ifeq ⟨by omega, by omega⟩ (fun _ => ?_) (fun _ => ?_) <;> try (exfalso; omega)) | (refine wq_ifne ⟨by omega, by omega⟩ (fun _ => ?_) (fun _ => ?_) <;> try (exfalso; omega)) | (refine wq_iflt ⟨by omega, by omega⟩ (fun _ => ?_) (fun _ => ?_) <;> try (exfalso; omega)) | (refine wq_ifge ⟨by omega, by omega⟩ (fun _ => ?_) (fun _ => ?_) <;> try (exfalso; omega)) | (refine wq_ifgt ⟨by omega, by omega⟩ (fun _ => ?_) (fun _ => ?_) <;> try (exfalso; omega)) | (refine wq_ifle ⟨by omega, by omega⟩ (fun _ => ?_) (fun _ => ?_) <;> try (exfalso; omega)) | refine wq_r rfl rfl rfl rfl rfl rfl ?_))
          exact ⟨by omega, by omega, by omega, Or.inr ⟨rfl, tooB_iff.mpr (Or.inr ⟨k.toNat, by omega, by omega⟩)⟩⟩
        · repeat' (first | (refine Wp.sub (ih _ _ ?_) ⟨rfl, rfl, rfl, trivial⟩ rfl) | (refine wf rfl ?_; first | refine wq_iadd ?_ | refine wq_isub ?_ | refine wq_imul ?_ | refine wq_iinc rfl ?_ | refine wq_goto ?_ | refine wq_k rfl ?_ | refine wq_b rfl rfl ?_ | refine wq_getf (by assumption) rfl ?_ | refine wq_alen (by assumption) rfl ?_ | fail | (refine wq_eq ⟨by omega, by omega⟩ ⟨by omega, by omega⟩ (fun _ => ?_) (fun _ => ?_) <;> try (exfalso; omega)) | (refine wq_ne ⟨by omega, by omega⟩ ⟨by omega, by omega⟩ (fun _ => ?_) (fun _ => ?_) <;> try (exfalso; omega)) | (refine wq_lt ⟨by omega, by omega⟩ ⟨by omega, by omega⟩ (fun _ => ?_) (fun _ => ?_) <;> try (exfalso; omega)) | (refine wq_ge ⟨by omega, by omega⟩ ⟨by omega, by omega⟩ (fun _ => ?_) (fun _ => ?_) <;> try (exfalso; omega)) | (refine wq_gt ⟨by omega, by omega⟩ ⟨by omega, by omega⟩ (fun _ => ?_) (fun _ => ?_) <;> try (exfalso; omega)) | (refine wq_le ⟨by omega, by omega⟩ ⟨by omega, by omega⟩ (fun _ => ?_) (fun _ => ?_) <;> try (exfalso; omega)) | (refine wq_ifeq ⟨by omega, by omega⟩ (fun _ => ?_) (fun _ => ?_) <;> try (exfalso; omega)) | (refine wq_ifne ⟨by omega, by omega⟩ (fun _ => ?_) (fun _ => ?_) <;> try (exfalso; omega)) | (refine wq_iflt ⟨by omega, by omega⟩ (fun _ => ?_) (fun _ => ?_) <;> try (exfalso; omega)) | (refine wq_ifge ⟨by omega, by omega⟩ (fun _ => ?_) (fun _ => ?_) <;> try (exfalso; omega)) | (refine wq_ifgt ⟨by omega, by omega⟩ (fun _ => ?_) (fun _ => ?_) <;> try (exfalso; omega)) | (refine wq_ifle ⟨by omega, by omega⟩ (fun _ => ?_) (fun _ => ?_) <;> try (exfalso; omega)) | refine wq_r rfl rfl rfl rfl rfl rfl ?_))
          refine ⟨by omega, by omega, by omega, Or.inl ⟨rfl, e1, fun j hj => ?_⟩⟩
          by_cases he : j = k.toNat
          · subst he; exact c3
          · exact e2 j (by omega)
      · repeat (refine wf rfl ?_; first | refine wq_iadd ?_ | refine wq_isub ?_ | refine wq_imul ?_ | refine wq_iinc rfl ?_ | refine wq_goto ?_ | refine wq_k rfl ?_ | refine wq_b rfl rfl ?_ | refine wq_getf (by assumption) rfl ?_ | refine wq_alen (by assumption) rfl ?_)
        refine wf rfl (wq_ifeq ⟨by omega, by omega⟩ (fun _ => ?_) (fun c9 => absurd rfl c9))
        repeat' (first | (refine Wp.sub (ih _ _ ?_) ⟨rfl, rfl, rfl, trivial⟩ rfl) | (refine wf rfl ?_; first | refine wq_iadd ?_ | refine wq_isub ?_ | refine wq_imul ?_ | refine wq_iinc rfl ?_ | refine wq_goto ?_ | refine wq_k rfl ?_ | refine wq_b rfl rfl ?_ | refine wq_getf (by assumption) rfl ?_ | refine wq_alen (by assumption) rfl ?_ | fail | (refine wq_eq ⟨by omega, by omega⟩ ⟨by omega, by omega⟩ (fun _ => ?_) (fun _ => ?_) <;> try (exfalso; omega)) | (refine wq_ne ⟨by omega, by omega⟩ ⟨by omega, by omega⟩ (fun _ => ?_) (fun _ => ?_) <;> try (exfalso; omega)) | (refine wq_lt ⟨by omega, by omega⟩ ⟨by omega, by omega⟩ (fun _ => ?_) (fun _ => ?_) <;> try (exfalso; omega)) | (refine wq_ge ⟨by omega, by omega⟩ ⟨by omega, by omega⟩ (fun _ => ?_) (fun _ => ?_) <;> try (exfalso; omega)) | (refine wq_gt ⟨by omega, by omega⟩ ⟨by omega, by omega⟩ (fun _ => ?_) (fun _ => ?_) <;> try (exfalso; omega)) | (refine wq_le ⟨by omega, by omega⟩ ⟨by omega, by omega⟩ (fun _ => ?_) (fun _ => ?_) <;> try (exfalso; omega)) | (refine wq_ifeq ⟨by omega, by omega⟩ (fun _ => ?_) (fun _ => ?_) <;> try (exfalso; omega)) | (refine wq_ifne ⟨by omega, by omega⟩ (fun _ => ?_) (fun _ => ?_) <;> try (exfalso; omega)) | (refine wq_iflt ⟨by omega, by omega⟩ (fun _ => ?_) (fun _ => ?_) <;> try (exfalso; omega)) | (refine wq_ifge ⟨by omega, by omega⟩ (fun _ => ?_) (fun _ => ?_) <;> try (exfalso; omega)) | (refine wq_ifgt ⟨by omega, by omega⟩ (fun _ => ?_) (fun _ => ?_) <;> try (exfalso; omega)) | (refine wq_ifle ⟨by omega, by omega⟩ (fun _ => ?_) (fun _ => ?_) <;> try (exfalso; omega)) | refine wq_r rfl rfl rfl rfl rfl rfl ?_))
        exact ⟨by omega, by omega, by omega, Or.inr ⟨rfl, e1⟩⟩
theorem c_Md_tell (h : MS M m S) (hx : OKP S.2.1) : Wm 159 [.ref m] M (fun v M' => v = some (.int (I (spTell S).1)) ∧ Fr (inM m) M M' ∧ MS M' m (spTell S).2) := by
  obtain ⟨-, a, b, c, d, e⟩ := id h
  obtain ⟨⟨si0, re0, sp0, hO⟩, -⟩ := id h
  have hRW := RdW.run S.2.1 (0, ([], []), []) 0 (RdW0 []) (Or.inl rfl)
  have hfb : -6 ≤ spFault S ∧ spFault S ≤ 100 ∨ True := Or.inr trivial
  unfold spTell
  refine wm_in (lv := _) rfl rfl rfl ?_
  repeat (refine wf rfl ?_; first | refine wq_iadd ?_ | refine wq_isub ?_ | refine wq_imul ?_ | refine wq_iinc rfl ?_ | refine wq_goto ?_ | refine wq_k rfl ?_ | refine wq_b rfl rfl ?_ | refine wq_getf (by assumption) rfl ?_ | refine wq_alen (by assumption) rfl ?_)
  refine wf rfl (wq_cv rfl rfl rfl hO ((c_Md_faultF h hx).mono ?_))
  rintro v M1 ⟨rfl, f1, ⟨si, re, sp, hO1⟩, hg⟩
  have hrng : inR (spFault S) := by
    have gen : ∀ (cs : List Int) (r : RS) (k : Int), 0 ≤ k → (rdRun cs r k).1 = -6 ∨ (0 ≤ (rdRun cs r k).1 ∧ (rdRun cs r k).1 ≤ k + cs.length) := by
      intro cs
      induction cs with
      | nil => intro r k hk; rw [rdRun]; exact Or.inl rfl
      | cons c cs ih =>
        intro r k hk
        rw [rdRun]
        split
        · dsimp only; rw [List.length_cons]; omega
        · have := ih (rdStep r c) (k + 1) (by omega)
          rw [List.length_cons]
          omega
    have h1 := gen S.2.1 (0, ([], []), []) 0 (by omega)
    have h2 := b.2
    unfold spFault rdAns
    split
    · split
      · exact ⟨by omega, by omega⟩
      · exact ⟨by omega, by omega⟩
    · exact ⟨by omega, by omega⟩
  obtain ⟨hr1, hr2⟩ := hrng
  repeat (refine wf rfl ?_; first | refine wq_iadd ?_ | refine wq_isub ?_ | refine wq_imul ?_ | refine wq_iinc rfl ?_ | refine wq_goto ?_ | refine wq_k rfl ?_ | refine wq_b rfl rfl ?_ | refine wq_getf (by assumption) rfl ?_ | refine wq_alen (by assumption) rfl ?_)
  by_cases hf : spFault S = -6
  · have hf' : rdAns S.2.1 (rdRun S.2.1 (0, ([], []), []) 0) = -6 := hf
    rw [if_pos hf']
    generalize hG' : (rdRun S.2.1 (0, ([], []), []) 0).2.2.1 = G' at *
    obtain ⟨hW', hN', hm', -, -⟩ := hRW
    rw [hG'] at hW' hN' hm'
    obtain ⟨gt, t1, t2⟩ := hg hf
    have t1 : M1[m + 3]? = some (aJ 2188 gt) := t1
    obtain ⟨fa, a1, a2⟩ := id a
    obtain ⟨fk, k1⟩ := f1.arr e.1
    have a1' := f1.at (by omega) a1
    refine wf rfl (wq_eq ⟨by omega, by omega⟩ ⟨by omega, by omega⟩ (fun _ => ?_) (fun c9 => absurd hf c9))
    repeat (refine wf rfl ?_; first | refine wq_iadd ?_ | refine wq_isub ?_ | refine wq_imul ?_ | refine wq_iinc rfl ?_ | refine wq_goto ?_ | refine wq_k rfl ?_ | refine wq_b rfl rfl ?_ | refine wq_getf (by assumption) rfl ?_ | refine wq_alen (by assumption) rfl ?_)
    refine wf rfl (wq_cs rfl rfl ((c_Md_copy rfl a1' k1 (by omega)).mono ?_))
    rintro v M2 ⟨rfl, f2, gk, q1, q2⟩
    have hGk : Ga gk 0 S.1 := a2.move (fun k hk => by rw [Nat.zero_add, q2 k hk])
    have hO2 : MO M2 m _ si re _ sp := f2.at (by omega) hO1
    repeat (refine wf rfl ?_; first | refine wq_iadd ?_ | refine wq_isub ?_ | refine wq_imul ?_ | refine wq_iinc rfl ?_ | refine wq_goto ?_ | refine wq_k rfl ?_ | refine wq_b rfl rfl ?_ | refine wq_getf (by assumption) rfl ?_ | refine wq_alen (by assumption) rfl ?_)
    refine wf rfl (wq_cs rfl rfl ((c_Md_copy rfl (f2.at (by omega) t1) (f2.at (by omega) a1') (by omega)).mono ?_))
    rintro v M3 ⟨rfl, f3, g3, q3, q4⟩
    have hO3 : MO M3 m _ si re _ sp := f3.at (by omega) hO2
    have h3 : Mr M3 m G' := ⟨⟨_, _, _, _, _, hO3⟩, g3, q3, t2.move (fun k hk => by rw [Nat.zero_add, q4 k hk])⟩
    have f13 := (f1.tr2 f2).tr2 f3
    repeat (refine wf rfl ?_; first | refine wq_iadd ?_ | refine wq_isub ?_ | refine wq_imul ?_ | refine wq_iinc rfl ?_ | refine wq_goto ?_ | refine wq_k rfl ?_ | refine wq_b rfl rfl ?_ | refine wq_getf (by assumption) rfl ?_ | refine wq_alen (by assumption) rfl ?_)
    refine wf rfl (wq_cv rfl rfl rfl hO3 ((c_Md_measures h3 hW' (f13.arr e.2.2.1)).mono ?_))
    rintro v M4 ⟨rfl, f4, t, t4, t5, t6⟩
    have hO4 : MO M4 m _ si re _ sp := f4.at (by omega) hO3
    have h4 : Mr M4 m G' := h3.fr f4 (by omega) (by omega)
    have f14 := f13.tr2 f4
    have t6' : t (26 : Int).toNat = wlG G' := t6
    have hwb := wlG_bd hW'
    -- the end
    have fin := fun (_ : True) => lp_mtell (Q := fun v M' => v = some (.int (I (if tooB G' = true then ((-4, S) : Int × ST) else (wlG G', (G', [], push S.2.2.1 S.1, S.2.2.2))).1)) ∧ Fr (inM m) M M' ∧ MS M' m (if tooB G' = true then ((-4, S) : Int × ST) else (wlG G', (G', [], push S.2.2.1 S.1, S.2.2.2))).2) h4 hW' t4 t5 t6 (by
      by_cases ht : tooB G' = true
      · rw [if_pos ht, if_pos ht]
        repeat (refine wf rfl ?_; first | refine wq_iadd ?_ | refine wq_isub ?_ | refine wq_imul ?_ | refine wq_iinc rfl ?_ | refine wq_goto ?_ | refine wq_k rfl ?_ | refine wq_b rfl rfl ?_ | refine wq_getf (by assumption) rfl ?_ | refine wq_alen (by assumption) rfl ?_)
        refine wf rfl (wq_ifne ⟨by omega, by omega⟩ (fun c9 => absurd rfl c9) (fun _ => ?_))
        repeat (refine wf rfl ?_; first | refine wq_iadd ?_ | refine wq_isub ?_ | refine wq_imul ?_ | refine wq_iinc rfl ?_ | refine wq_goto ?_ | refine wq_k rfl ?_ | refine wq_b rfl rfl ?_ | refine wq_getf (by assumption) rfl ?_ | refine wq_alen (by assumption) rfl ?_)
        refine wf rfl (wq_cv rfl rfl rfl hO4 ((c_Md_failS h f14 (fun q hq => by unfold inM; omega) (by omega) (by omega) (by omega) (by omega) ⟨si, re, sp, hO4⟩ (f4.at (by omega) (f3.at (by omega) q1)) hGk ⟨g3, f4.at (by omega) q3⟩).mono ?_))
        rintro v M5 ⟨rfl, f5, h5⟩
        repeat' (refine wf rfl ?_; first | refine wq_iadd ?_ | refine wq_isub ?_ | refine wq_imul ?_ | refine wq_iinc rfl ?_ | refine wq_goto ?_ | refine wq_k rfl ?_ | refine wq_b rfl rfl ?_ | refine wq_getf (by assumption) rfl ?_ | refine wq_alen (by assumption) rfl ?_ | (refine wq_eq ⟨by omega, by omega⟩ ⟨by omega, by omega⟩ (fun _ => ?_) (fun _ => ?_) <;> try (exfalso; omega)) | (refine wq_ne ⟨by omega, by omega⟩ ⟨by omega, by omega⟩ (fun _ => ?_) (fun _ => ?_) <;> try (exfalso; omega)) | (refine wq_lt ⟨by omega, by omega⟩ ⟨by omega, by omega⟩ (fun _ => ?_) (fun _ => ?_) <;> try (exfalso; omega)) | (refine wq_ge ⟨by omega, by omega⟩ ⟨by omega, by omega⟩ (fun _ => ?_) (fun _ => ?_) <;> try (exfalso; omega)) | (refine wq_gt ⟨by omega, by omega⟩ ⟨by omega, by omega⟩ (fun _ => ?_) (fun _ => ?_) <;> try (exfalso; omega)) | (refine wq_le ⟨by omega, by omega⟩ ⟨by omega, by omega⟩ (fun _ => ?_) (fun _ => ?_) <;> try (exfalso; omega)) | (refine wq_ifeq ⟨by omega, by omega⟩ (fun _ => ?_) (fun _ => ?_) <;> try (exfalso; omega)) | (refine wq_ifne ⟨by omega, by omega⟩ (fun _ => ?_) (fun _ => ?_) <;> try (exfalso; omega)) | (refine wq_iflt ⟨by omega, by omega⟩ (fun _ => ?_) (fun _ => ?_) <;> try (exfalso; omega)) | (refine wq_ifge ⟨by omega, by omega⟩ (fun _ => ?_) (fun _ => ?_) <;> try (exfalso; omega)) | (refine wq_ifgt ⟨by omega, by omega⟩ (fun _ => ?_) (fun _ => ?_) <;> try (exfalso; omega)) | (refine wq_ifle ⟨by omega, by omega⟩ (fun _ => ?_) (fun _ => ?_) <;> try (exfalso; omega)) | refine wq_r rfl rfl rfl rfl rfl rfl ?_)
        exact ⟨rfl, f5, h5⟩
      · rw [if_neg ht, if_neg ht]
        repeat (refine wf rfl ?_; first | refine wq_iadd ?_ | refine wq_isub ?_ | refine wq_imul ?_ | refine wq_iinc rfl ?_ | refine wq_goto ?_ | refine wq_k rfl ?_ | refine wq_b rfl rfl ?_ | refine wq_getf (by assumption) rfl ?_ | refine wq_alen (by assumption) rfl ?_)
        refine wf rfl (wq_ifne ⟨by omega, by omega⟩ (fun _ => ?_) (fun c9 => by exfalso; omega))
        repeat (refine wf rfl ?_; first | refine wq_iadd ?_ | refine wq_isub ?_ | refine wq_imul ?_ | refine wq_iinc rfl ?_ | refine wq_goto ?_ | refine wq_k rfl ?_ | refine wq_b rfl rfl ?_ | refine wq_getf (by assumption) rfl ?_ | refine wq_alen (by assumption) rfl ?_)
        refine wf rfl (wq_putf hO4 rfl (fun M5 e5 f5 => ?_))
        have hO5 : MO M5 m (S.2.2.1.length : Nat) si re 0 sp := e5
        have f15 := f14.tr2 f5
        obtain ⟨⟨fh, c1, c2⟩, c3⟩ := id c
        repeat (refine wf rfl ?_; first | refine wq_iadd ?_ | refine wq_isub ?_ | refine wq_imul ?_ | refine wq_iinc rfl ?_ | refine wq_goto ?_ | refine wq_k rfl ?_ | refine wq_b rfl rfl ?_ | refine wq_getf (by assumption) rfl ?_ | refine wq_alen (by assumption) rfl ?_)
        refine wf rfl (wq_iald (f5.at (by omega) t4) ⟨by omega, by omega⟩ (by omega) (by omega) ?_)
        rw [t6']
        repeat (refine wf rfl ?_; first | refine wq_iadd ?_ | refine wq_isub ?_ | refine wq_imul ?_ | refine wq_iinc rfl ?_ | refine wq_goto ?_ | refine wq_k rfl ?_ | refine wq_b rfl rfl ?_ | refine wq_getf (by assumption) rfl ?_ | refine wq_alen (by assumption) rfl ?_)
        refine wf rfl (wq_cv rfl rfl rfl hO5 ((c_Md_changed (rs := wlG G') hO5 c3 (f15.at (by omega) c1) c2 (f5.at (by omega) (f4.at (by omega) (f3.at (by omega) q1))) hGk).mono ?_))
        rintro v M6 ⟨rfl, f6, hO6, g6, q6, q7⟩
        have f16 := f15.tr2 f6
        obtain ⟨⟨fp, p1, p2⟩, p3⟩ := id b
        have hgg : GA M6 m G' := ⟨g3, f6.at (by omega) (f5.at (by omega) (f4.at (by omega) q3)), t2.move (fun k hk => by rw [Nat.zero_add, q4 k hk])⟩
        repeat' (refine wf rfl ?_; first | refine wq_iadd ?_ | refine wq_isub ?_ | refine wq_imul ?_ | refine wq_iinc rfl ?_ | refine wq_goto ?_ | refine wq_k rfl ?_ | refine wq_b rfl rfl ?_ | refine wq_getf (by assumption) rfl ?_ | refine wq_alen (by assumption) rfl ?_ | (refine wq_eq ⟨by omega, by omega⟩ ⟨by omega, by omega⟩ (fun _ => ?_) (fun _ => ?_) <;> try (exfalso; omega)) | (refine wq_ne ⟨by omega, by omega⟩ ⟨by omega, by omega⟩ (fun _ => ?_) (fun _ => ?_) <;> try (exfalso; omega)) | (refine wq_lt ⟨by omega, by omega⟩ ⟨by omega, by omega⟩ (fun _ => ?_) (fun _ => ?_) <;> try (exfalso; omega)) | (refine wq_ge ⟨by omega, by omega⟩ ⟨by omega, by omega⟩ (fun _ => ?_) (fun _ => ?_) <;> try (exfalso; omega)) | (refine wq_gt ⟨by omega, by omega⟩ ⟨by omega, by omega⟩ (fun _ => ?_) (fun _ => ?_) <;> try (exfalso; omega)) | (refine wq_le ⟨by omega, by omega⟩ ⟨by omega, by omega⟩ (fun _ => ?_) (fun _ => ?_) <;> try (exfalso; omega)) | (refine wq_ifeq ⟨by omega, by omega⟩ (fun _ => ?_) (fun _ => ?_) <;> try (exfalso; omega)) | (refine wq_ifne ⟨by omega, by omega⟩ (fun _ => ?_) (fun _ => ?_) <;> try (exfalso; omega)) | (refine wq_iflt ⟨by omega, by omega⟩ (fun _ => ?_) (fun _ => ?_) <;> try (exfalso; omega)) | (refine wq_ifge ⟨by omega, by omega⟩ (fun _ => ?_) (fun _ => ?_) <;> try (exfalso; omega)) | (refine wq_ifgt ⟨by omega, by omega⟩ (fun _ => ?_) (fun _ => ?_) <;> try (exfalso; omega)) | (refine wq_ifle ⟨by omega, by omega⟩ (fun _ => ?_) (fun _ => ?_) <;> try (exfalso; omega)) | refine wq_r rfl rfl rfl rfl rfl rfl ?_)
        exact ⟨rfl, f16.mono (fun q hq => by unfold inM; omega), ⟨si, re, sp, hO6⟩, hgg, ⟨⟨fp, f16.at (by omega) p1, Lw.nil _ _⟩, by show (0 : Nat) ≤ 80; omega⟩, ⟨⟨g6, q6, q7⟩, push_len c3⟩, d.fr f16 (by omega) (by omega), e.fr f16⟩) 100 0
    repeat (refine wf rfl ?_; first | refine wq_iadd ?_ | refine wq_isub ?_ | refine wq_imul ?_ | refine wq_iinc rfl ?_ | refine wq_goto ?_ | refine wq_k rfl ?_ | refine wq_b rfl rfl ?_ | refine wq_getf (by assumption) rfl ?_ | refine wq_alen (by assumption) rfl ?_)
    refine wf rfl (wq_iald t4 ⟨by omega, by omega⟩ (by omega) (by omega) ?_)
    rw [t6']
    repeat (refine wf rfl ?_; first | refine wq_iadd ?_ | refine wq_isub ?_ | refine wq_imul ?_ | refine wq_iinc rfl ?_ | refine wq_goto ?_ | refine wq_k rfl ?_ | refine wq_b rfl rfl ?_ | refine wq_getf (by assumption) rfl ?_ | refine wq_alen (by assumption) rfl ?_)
    refine wf rfl (wq_gt ⟨by omega, by omega⟩ ⟨by omega, by omega⟩ (fun c3 => ?_) (fun c3 => ?_))
    · have hst := fun (_ : True) => fin trivial 0 ⟨by omega, by omega, by omega, Or.inr ⟨rfl, tooB_iff.mpr (Or.inl c3)⟩⟩
      repeat' (first | (refine Wp.sub (hst  ?_) ⟨rfl, rfl, rfl, trivial⟩ rfl) | (refine wf rfl ?_; first | refine wq_iadd ?_ | refine wq_isub ?_ | refine wq_imul ?_ | refine wq_iinc rfl ?_ | refine wq_goto ?_ | refine wq_k rfl ?_ | refine wq_b rfl rfl ?_ | refine wq_getf (by assumption) rfl ?_ | refine wq_alen (by assumption) rfl ?_ | fail | (refine wq_eq ⟨by omega, by omega⟩ ⟨by omega, by omega⟩ (fun _ => ?_) (fun _ => ?_) <;> try (exfalso; omega)) | (refine wq_ne ⟨by omega, by omega⟩ ⟨by omega, by omega⟩ (fun _ => ?_) (fun _ => ?_) <;> try (exfalso; omega)) | (refine wq_lt ⟨by omega, by omega⟩ ⟨by omega, by omega⟩ (fun _ => ?_) (fun _ => ?_) <;> try (exfalso; omega)) | (refine wq_ge ⟨by omega, by omega⟩ ⟨by omega, by omega⟩ (fun _ => ?_) (fun _ => ?_) <;> try (exfalso; omega)) | (refine wq_gt ⟨by omega, by omega⟩ ⟨by omega, by omega⟩ (fun _ => ?_) (fun _ => ?_) <;> try (exfalso; omega)) | (refine wq_le ⟨by omega, by omega⟩ ⟨by omega, by omega⟩ (fun _ => ?_) (fun _ => ?_) <;> try (exfalso; omega)) | (refine wq_ifeq ⟨by omega, by omega⟩ (fun _ => ?_) (fun _ => ?_) <;> try (exfalso; omega)) | (refine wq_ifne ⟨by omega, by omega⟩ (fun _ => ?_) (fun _ => ?_) <;> try (exfalso; omega)) | (refine wq_iflt ⟨by omega, by omega⟩ (fun _ => ?_) (fun _ => ?_) <;> try (exfalso; omega)) | (refine wq_ifge ⟨by omega, by omega⟩ (fun _ => ?_) (fun _ => ?_) <;> try (exfalso; omega)) | (refine wq_ifgt ⟨by omega, by omega⟩ (fun _ => ?_) (fun _ => ?_) <;> try (exfalso; omega)) | (refine wq_ifle ⟨by omega, by omega⟩ (fun _ => ?_) (fun _ => ?_) <;> try (exfalso; omega)) | refine wq_r rfl rfl rfl rfl rfl rfl ?_))
      trivial
    · have hst := fun (_ : True) => fin trivial 1 ⟨by omega, by omega, by omega, Or.inl ⟨rfl, c3, fun j hj => by omega⟩⟩
      repeat' (first | (refine Wp.sub (hst  ?_) ⟨rfl, rfl, rfl, trivial⟩ rfl) | (refine wf rfl ?_; first | refine wq_iadd ?_ | refine wq_isub ?_ | refine wq_imul ?_ | refine wq_iinc rfl ?_ | refine wq_goto ?_ | refine wq_k rfl ?_ | refine wq_b rfl rfl ?_ | refine wq_getf (by assumption) rfl ?_ | refine wq_alen (by assumption) rfl ?_ | fail | (refine wq_eq ⟨by omega, by omega⟩ ⟨by omega, by omega⟩ (fun _ => ?_) (fun _ => ?_) <;> try (exfalso; omega)) | (refine wq_ne ⟨by omega, by omega⟩ ⟨by omega, by omega⟩ (fun _ => ?_) (fun _ => ?_) <;> try (exfalso; omega)) | (refine wq_lt ⟨by omega, by omega⟩ ⟨by omega, by omega⟩ (fun _ => ?_) (fun _ => ?_) <;> try (exfalso; omega)) | (refine wq_ge ⟨by omega, by omega⟩ ⟨by omega, by omega⟩ (fun _ => ?_) (fun _ => ?_) <;> try (exfalso; omega)) | (refine wq_gt ⟨by omega, by omega⟩ ⟨by omega, by omega⟩ (fun _ => ?_) (fun _ => ?_) <;> try (exfalso; omega)) | (refine wq_le ⟨by omega, by omega⟩ ⟨by omega, by omega⟩ (fun _ => ?_) (fun _ => ?_) <;> try (exfalso; omega)) | (refine wq_ifeq ⟨by omega, by omega⟩ (fun _ => ?_) (fun _ => ?_) <;> try (exfalso; omega)) | (refine wq_ifne ⟨by omega, by omega⟩ (fun _ => ?_) (fun _ => ?_) <;> try (exfalso; omega)) | (refine wq_iflt ⟨by omega, by omega⟩ (fun _ => ?_) (fun _ => ?_) <;> try (exfalso; omega)) | (refine wq_ifge ⟨by omega, by omega⟩ (fun _ => ?_) (fun _ => ?_) <;> try (exfalso; omega)) | (refine wq_ifgt ⟨by omega, by omega⟩ (fun _ => ?_) (fun _ => ?_) <;> try (exfalso; omega)) | (refine wq_ifle ⟨by omega, by omega⟩ (fun _ => ?_) (fun _ => ?_) <;> try (exfalso; omega)) | refine wq_r rfl rfl rfl rfl rfl rfl ?_))
      trivial
  · have hf' : ¬ rdAns S.2.1 (rdRun S.2.1 (0, ([], []), []) 0) = -6 := hf
    rw [if_neg hf']
    refine wf rfl (wq_eq ⟨by omega, by omega⟩ ⟨by omega, by omega⟩ (fun c9 => absurd c9 hf) (fun _ => ?_))
    repeat' (refine wf rfl ?_; first | refine wq_iadd ?_ | refine wq_isub ?_ | refine wq_imul ?_ | refine wq_iinc rfl ?_ | refine wq_goto ?_ | refine wq_k rfl ?_ | refine wq_b rfl rfl ?_ | refine wq_getf (by assumption) rfl ?_ | refine wq_alen (by assumption) rfl ?_ | (refine wq_eq ⟨by omega, by omega⟩ ⟨by omega, by omega⟩ (fun _ => ?_) (fun _ => ?_) <;> try (exfalso; omega)) | (refine wq_ne ⟨by omega, by omega⟩ ⟨by omega, by omega⟩ (fun _ => ?_) (fun _ => ?_) <;> try (exfalso; omega)) | (refine wq_lt ⟨by omega, by omega⟩ ⟨by omega, by omega⟩ (fun _ => ?_) (fun _ => ?_) <;> try (exfalso; omega)) | (refine wq_ge ⟨by omega, by omega⟩ ⟨by omega, by omega⟩ (fun _ => ?_) (fun _ => ?_) <;> try (exfalso; omega)) | (refine wq_gt ⟨by omega, by omega⟩ ⟨by omega, by omega⟩ (fun _ => ?_) (fun _ => ?_) <;> try (exfalso; omega)) | (refine wq_le ⟨by omega, by omega⟩ ⟨by omega, by omega⟩ (fun _ => ?_) (fun _ => ?_) <;> try (exfalso; omega)) | (refine wq_ifeq ⟨by omega, by omega⟩ (fun _ => ?_) (fun _ => ?_) <;> try (exfalso; omega)) | (refine wq_ifne ⟨by omega, by omega⟩ (fun _ => ?_) (fun _ => ?_) <;> try (exfalso; omega)) | (refine wq_iflt ⟨by omega, by omega⟩ (fun _ => ?_) (fun _ => ?_) <;> try (exfalso; omega)) | (refine wq_ifge ⟨by omega, by omega⟩ (fun _ => ?_) (fun _ => ?_) <;> try (exfalso; omega)) | (refine wq_ifgt ⟨by omega, by omega⟩ (fun _ => ?_) (fun _ => ?_) <;> try (exfalso; omega)) | (refine wq_ifle ⟨by omega, by omega⟩ (fun _ => ?_) (fun _ => ?_) <;> try (exfalso; omega)) | refine wq_r rfl rfl rfl rfl rfl rfl ?_)
    exact ⟨rfl, f1.mono (fun q hq => by unfold inM; omega), ⟨si, re, sp, hO1⟩, a.fr f1 (by omega), b.fr f1 (by omega), c.fr f1 (by omega), d.fr f1 (by omega) (by omega), e.fr f1⟩
end MD19
