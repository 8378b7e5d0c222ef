section TLY3
variable {M : PM} {y : Nat} {fa su : Nat → Int} {f s : Int}
variable {g N : Nat} {p : Nat → Nat} {X : Nat → List Int} {mn : List Int} {lt dp us : Nat → Int} {W : Int}
abbrev talPost (M : PM) (y : Nat) (X : Nat → List Int) (N : Nat) (mn : List Int) (st : Int) (b : Nat → Int × Int) : Option Value → PM → Prop := fun v M' => Fr (inY y) M M' ∧ ∃ fa su f s, Ty M' y (tbl X (fa, su) N).1 (tbl X (fa, su) N).2 f s ∧ (∀ j, j < 8 → fa j = (b j).1 ∧ su j = (b j).2) ∧ v = some (.int (I (tly (tbl X (fa, su) N).1 (tbl X (fa, su) N).2 mn (1, st)).2))
theorem lp_mark (h : Gm M g N p X mn lt dp us W) (hX : WFX N X) (hm : WFm N mn) (hd : y + 2 < g ∨ g + 59 ≤ y) (n : Nat) : ∀ (k : Int) (M1 : PM), (0 ≤ k ∧ k ≤ 8 ∧ 8 - k < n ∧ Fr (inY y) M M1 ∧ ∃ fa su f s, Ty M1 y fa su f s ∧ ∀ j : Nat, (j : Int) < k → fa j = 31 ∧ su j = (j : Int) + 1) →
    Wp k_X7_markOfWord (2, [(0, .ref y), (1, .ref g), (2, .int (I k))], [], M1) (talPost M y X N mn 7 (fun j => (31, (j : Int) + 1))) := by
  have hN := h.le
  have hml := h.main.len
  induction n with
  | zero => intro k M1 hi; exfalso; omega
  | succ n ih =>
    intro k M1 hi
    obtain ⟨i1, i2, i3, i4, fa, su, f, s, i5, i6⟩ := hi
    obtain ⟨p1, p2, p3⟩ := id i5
    repeat (refine wf rfl ?_; first | refine wq_iadd ?_ | refine wq_isub ?_ | refine wq_imul ?_ | refine wq_iinc rfl ?_ | refine wq_goto ?_ | refine wq_k rfl ?_ | refine wq_b rfl rfl ?_ | refine wq_getf (by assumption) rfl ?_ | refine wq_alen (by assumption) rfl ?_)
    refine wf rfl (wq_ge ⟨by omega, by omega⟩ ⟨by omega, by omega⟩ (fun c2 => ?_) (fun c2 => ?_))
    · have h1 := h.fr i4 (fun z z1 z2 => by unfold inY; omega)
      repeat (refine wf rfl ?_; first | refine wq_iadd ?_ | refine wq_isub ?_ | refine wq_imul ?_ | refine wq_iinc rfl ?_ | refine wq_goto ?_ | refine wq_k rfl ?_ | refine wq_b rfl rfl ?_ | refine wq_getf (by assumption) rfl ?_ | refine wq_alen (by assumption) rfl ?_)
      refine wf rfl (wq_cv rfl rfl rfl p1 ((c_Tally_sumRules i5 h1 hX hd).mono ?_))
      rintro v M2 ⟨rfl, f2, f', s', ht2⟩
      have h2 := h1.fr f2 (fun z z1 z2 => by unfold inY; omega)
      have hg2 := h2.obj
      have hmr := c_Gr_mainRow h2
      obtain ⟨q1, q2, q3⟩ := id ht2
      repeat (refine wf rfl ?_; first | refine wq_iadd ?_ | refine wq_isub ?_ | refine wq_imul ?_ | refine wq_iinc rfl ?_ | refine wq_goto ?_ | refine wq_k rfl ?_ | refine wq_b rfl rfl ?_ | refine wq_getf (by assumption) rfl ?_ | refine wq_alen (by assumption) rfl ?_)
      refine wf rfl (wq_cv rfl rfl rfl hg2 (hmr.mono ?_))
      rintro v M2 ⟨rfl, rfl⟩
      repeat (refine wf rfl ?_; first | refine wq_iadd ?_ | refine wq_isub ?_ | refine wq_imul ?_ | refine wq_iinc rfl ?_ | refine wq_goto ?_ | refine wq_k rfl ?_ | refine wq_b rfl rfl ?_ | refine wq_getf (by assumption) rfl ?_ | refine wq_alen (by assumption) rfl ?_)
      refine wf rfl (wq_cv rfl rfl rfl q1 ((c_Tally_sumRow (st := 7) ht2 h2.main (hm.sb hN) (by omega)).mono ?_))
      rintro v M3 ⟨rfl, f3, ht3⟩
      obtain ⟨q4, q5, q6⟩ := id ht3
      repeat' (refine wf rfl ?_; first | refine wq_iadd ?_ | refine wq_isub ?_ | refine wq_imul ?_ | refine wq_iinc rfl ?_ | refine wq_goto ?_ | refine wq_k rfl ?_ | refine wq_b rfl rfl ?_ | refine wq_getf (by assumption) rfl ?_ | refine wq_alen (by assumption) rfl ?_ | (refine wq_eq ⟨by omega, by omega⟩ ⟨by omega, by omega⟩ (fun _ => ?_) (fun _ => ?_) <;> try (exfalso; omega)) | (refine wq_ne ⟨by omega, by omega⟩ ⟨by omega, by omega⟩ (fun _ => ?_) (fun _ => ?_) <;> try (exfalso; omega)) | (refine wq_lt ⟨by omega, by omega⟩ ⟨by omega, by omega⟩ (fun _ => ?_) (fun _ => ?_) <;> try (exfalso; omega)) | (refine wq_ge ⟨by omega, by omega⟩ ⟨by omega, by omega⟩ (fun _ => ?_) (fun _ => ?_) <;> try (exfalso; omega)) | (refine wq_gt ⟨by omega, by omega⟩ ⟨by omega, by omega⟩ (fun _ => ?_) (fun _ => ?_) <;> try (exfalso; omega)) | (refine wq_le ⟨by omega, by omega⟩ ⟨by omega, by omega⟩ (fun _ => ?_) (fun _ => ?_) <;> try (exfalso; omega)) | (refine wq_ifeq ⟨by omega, by omega⟩ (fun _ => ?_) (fun _ => ?_) <;> try (exfalso; omega)) | (refine wq_ifne ⟨by omega, by omega⟩ (fun _ => ?_) (fun _ => ?_) <;> try (exfalso; omega)) | (refine wq_iflt ⟨by omega, by omega⟩ (fun _ => ?_) (fun _ => ?_) <;> try (exfalso; omega)) | (refine wq_ifge ⟨by omega, by omega⟩ (fun _ => ?_) (fun _ => ?_) <;> try (exfalso; omega)) | (refine wq_ifgt ⟨by omega, by omega⟩ (fun _ => ?_) (fun _ => ?_) <;> try (exfalso; omega)) | (refine wq_ifle ⟨by omega, by omega⟩ (fun _ => ?_) (fun _ => ?_) <;> try (exfalso; omega)) | refine wq_r rfl rfl rfl rfl rfl rfl ?_)
      exact ⟨(i4.tr f2).tr (f3.mono (fun z hz => by unfold inY; omega)), fa, su, _, _, ht3, fun j hj => i6 j (by omega), rfl⟩
    · have e1 : ((k.toNat : Nat) : Int) = k := by omega
      repeat (refine wf rfl ?_; first | refine wq_iadd ?_ | refine wq_isub ?_ | refine wq_imul ?_ | refine wq_iinc rfl ?_ | refine wq_goto ?_ | refine wq_k rfl ?_ | refine wq_b rfl rfl ?_ | refine wq_getf (by assumption) rfl ?_ | refine wq_alen (by assumption) rfl ?_)
      refine wf rfl (wq_iast p2 rfl ⟨by omega, by omega⟩ (by omega) (by omega) (fun M3 e3 f3 => ?_))
      have q4 := f3.at (by omega) p1
      have q5 := f3.at (by omega) p3
      repeat (refine wf rfl ?_; first | refine wq_iadd ?_ | refine wq_isub ?_ | refine wq_imul ?_ | refine wq_iinc rfl ?_ | refine wq_goto ?_ | refine wq_k rfl ?_ | refine wq_b rfl rfl ?_ | refine wq_getf (by assumption) rfl ?_ | refine wq_alen (by assumption) rfl ?_)
      refine wf rfl (wq_iast q5 rfl ⟨by omega, by omega⟩ (by omega) (by omega) (fun M4 e4 f4 => ?_))
      have q6 := f4.at (by omega) q4
      have q7 := f4.at (by omega) e3
      repeat' (first | (refine Wp.sub (ih _ _ ?_) ⟨rfl, rfl, rfl, trivial⟩ rfl) | (refine wf rfl ?_; first | refine wq_iadd ?_ | refine wq_isub ?_ | refine wq_imul ?_ | refine wq_iinc rfl ?_ | refine wq_goto ?_ | refine wq_k rfl ?_ | refine wq_b rfl rfl ?_ | refine wq_getf (by assumption) rfl ?_ | refine wq_alen (by assumption) rfl ?_ | fail | (refine wq_eq ⟨by omega, by omega⟩ ⟨by omega, by omega⟩ (fun _ => ?_) (fun _ => ?_) <;> try (exfalso; omega)) | (refine wq_ne ⟨by omega, by omega⟩ ⟨by omega, by omega⟩ (fun _ => ?_) (fun _ => ?_) <;> try (exfalso; omega)) | (refine wq_lt ⟨by omega, by omega⟩ ⟨by omega, by omega⟩ (fun _ => ?_) (fun _ => ?_) <;> try (exfalso; omega)) | (refine wq_ge ⟨by omega, by omega⟩ ⟨by omega, by omega⟩ (fun _ => ?_) (fun _ => ?_) <;> try (exfalso; omega)) | (refine wq_gt ⟨by omega, by omega⟩ ⟨by omega, by omega⟩ (fun _ => ?_) (fun _ => ?_) <;> try (exfalso; omega)) | (refine wq_le ⟨by omega, by omega⟩ ⟨by omega, by omega⟩ (fun _ => ?_) (fun _ => ?_) <;> try (exfalso; omega)) | (refine wq_ifeq ⟨by omega, by omega⟩ (fun _ => ?_) (fun _ => ?_) <;> try (exfalso; omega)) | (refine wq_ifne ⟨by omega, by omega⟩ (fun _ => ?_) (fun _ => ?_) <;> try (exfalso; omega)) | (refine wq_iflt ⟨by omega, by omega⟩ (fun _ => ?_) (fun _ => ?_) <;> try (exfalso; omega)) | (refine wq_ifge ⟨by omega, by omega⟩ (fun _ => ?_) (fun _ => ?_) <;> try (exfalso; omega)) | (refine wq_ifgt ⟨by omega, by omega⟩ (fun _ => ?_) (fun _ => ?_) <;> try (exfalso; omega)) | (refine wq_ifle ⟨by omega, by omega⟩ (fun _ => ?_) (fun _ => ?_) <;> try (exfalso; omega)) | refine wq_r rfl rfl rfl rfl rfl rfl ?_))
      refine ⟨by omega, by omega, by omega, (i4.tr (f3.mono (fun z hz => by unfold inY; omega))).tr (f4.mono (fun z hz => by unfold inY; omega)), _, _, f, s, ⟨q6, q7, e4⟩, fun j hj => ?_⟩
      by_cases he : j = k.toNat
      · subst he
        rw [upz_at, upz_at, e1]
        exact ⟨rfl, rfl⟩
      · rw [upz_ne _ _ he, upz_ne _ _ he]
        exact i6 j (by omega)
theorem c_Tally_markOfWord (ht : Ty M y fa su f s) (h : Gm M g N p X mn lt dp us W) (hX : WFX N X) (hm : WFm N mn) (hd : y + 2 < g ∨ g + 59 ≤ y) : Wm 82 [.ref y, .ref g] M (talPost M y X N mn 7 (fun j => (31, (j : Int) + 1))) := by
  refine wm_in (lv := _) rfl rfl rfl ?_
  repeat' (first | (refine Wp.sub (lp_mark h hX hm hd 100 _ _ ?_) ⟨rfl, rfl, rfl, trivial⟩ rfl) | (refine wf rfl ?_; first | refine wq_iadd ?_ | refine wq_isub ?_ | refine wq_imul ?_ | refine wq_iinc rfl ?_ | refine wq_goto ?_ | refine wq_k rfl ?_ | refine wq_b rfl rfl ?_ | refine wq_getf (by assumption) rfl ?_ | refine wq_alen (by assumption) rfl ?_ | fail | (refine wq_eq ⟨by omega, by omega⟩ ⟨by omega, by omega⟩ (fun _ => ?_) (fun _ => ?_) <;> try (exfalso; omega)) | (refine wq_ne ⟨by omega, by omega⟩ ⟨by omega, by omega⟩ (fun _ => ?_) (fun _ => ?_) <;> try (exfalso; omega)) | (refine wq_lt ⟨by omega, by omega⟩ ⟨by omega, by omega⟩ (fun _ => ?_) (fun _ => ?_) <;> try (exfalso; omega)) | (refine wq_ge ⟨by omega, by omega⟩ ⟨by omega, by omega⟩ (fun _ => ?_) (fun _ => ?_) <;> try (exfalso; omega)) | (refine wq_gt ⟨by omega, by omega⟩ ⟨by omega, by omega⟩ (fun _ => ?_) (fun _ => ?_) <;> try (exfalso; omega)) | (refine wq_le ⟨by omega, by omega⟩ ⟨by omega, by omega⟩ (fun _ => ?_) (fun _ => ?_) <;> try (exfalso; omega)) | (refine wq_ifeq ⟨by omega, by omega⟩ (fun _ => ?_) (fun _ => ?_) <;> try (exfalso; omega)) | (refine wq_ifne ⟨by omega, by omega⟩ (fun _ => ?_) (fun _ => ?_) <;> try (exfalso; omega)) | (refine wq_iflt ⟨by omega, by omega⟩ (fun _ => ?_) (fun _ => ?_) <;> try (exfalso; omega)) | (refine wq_ifge ⟨by omega, by omega⟩ (fun _ => ?_) (fun _ => ?_) <;> try (exfalso; omega)) | (refine wq_ifgt ⟨by omega, by omega⟩ (fun _ => ?_) (fun _ => ?_) <;> try (exfalso; omega)) | (refine wq_ifle ⟨by omega, by omega⟩ (fun _ => ?_) (fun _ => ?_) <;> try (exfalso; omega)) | refine wq_r rfl rfl rfl rfl rfl rfl ?_))
  exact ⟨by omega, by omega, by omega, Fr.rf, fa, su, f, s, ht, fun j hj => by omega⟩
end TLY3
