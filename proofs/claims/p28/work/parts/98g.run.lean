/-! The law runs. -/
theorem CS.kee {P : Nat → Prop} {n s : Nat} {M M' : PM} {c : Nat} {S : ST} (h : CS M c S) (f : Kee P n s M M') (hP : ∀ q, c ≤ q → q < c + 612 → ¬ P q) : CS M' c S := by
  obtain ⟨a1, a2, a3, a4, a5, ⟨⟨ff, h1, h2⟩, ⟨g, h3, h4⟩, h5, h6⟩, ⟨b1, ru, b2⟩, ⟨⟨u8, f8, s8, t8, x8, y8⟩, ⟨fa, su, fg, sg, c2⟩, ⟨fl, rp, c3⟩, ⟨ro, po, o, c4⟩, ⟨ro', po', o', c5⟩⟩⟩ := h
  exact ⟨f.at (hP _ (by omega) (by omega)) a1, a2.kee f (fun q q1 q2 => hP _ (by omega) (by omega)), a3.kee f (fun q q1 q2 => hP _ (by omega) (by omega)), a4.kee f (hP _ (by omega) (by omega)) (hP _ (by omega) (by omega)), a5.kee f (fun q q1 q2 => hP _ (by omega) (by omega)), ⟨⟨ff, f.at (hP _ (by omega) (by omega)) h1, h2⟩, ⟨g, f.at (hP _ (by omega) (by omega)) h3, h4⟩, fun i hi => (h5 i hi).kee f (fun q q1 q2 => hP _ (by omega) (by omega)), fun i G hi hs => (h6 i G hi hs).kee f (fun q q1 q2 => hP _ (by omega) (by omega))⟩, ⟨f.at (hP _ (by omega) (by omega)) b1, ru, b2.kee f (hP _ (by omega) (by omega)) (hP _ (by omega) (by omega))⟩, ⟨u8, f8, s8, t8, f.at (hP _ (by omega) (by omega)) x8, f.at (hP _ (by omega) (by omega)) y8⟩, ⟨fa, su, fg, sg, f.at (hP _ (by omega) (by omega)) c2.1, f.at (hP _ (by omega) (by omega)) c2.2.1, f.at (hP _ (by omega) (by omega)) c2.2.2⟩, ⟨fl, rp, f.at (hP _ (by omega) (by omega)) c3⟩, ⟨ro, po, o, f.at (hP _ (by omega) (by omega)) c4.1, f.at (hP _ (by omega) (by omega)) c4.2.1, f.at (hP _ (by omega) (by omega)) c4.2.2⟩, ⟨ro', po', o', f.at (hP _ (by omega) (by omega)) c5.1, f.at (hP _ (by omega) (by omega)) c5.2.1, f.at (hP _ (by omega) (by omega)) c5.2.2⟩⟩
section LAW2
variable {L z : Nat} {f : Nat → Int}
set_option maxRecDepth 20000 in
theorem lp_law (hL : L ≤ 260) (hz : z ≤ 7302250 + L) (n : Nat) : ∀ (k : Int) (M : PM) (S : ST), (TX M L z f S (fl_S S) ∧ OKS S ∧ 0 ≤ k ∧ k ≤ 40 ∧ 40 - k < n) → Wp k_L_law (21, [(0, .ref 0), (1, .ref 1), (2, .ref 613), (3, .int (I 1)), (4, .int (I k))], [], M) (fun v M' => v = some (.int 1) ∧ M'.length ≤ 600001 ∧ szM M' ≤ 7302250 + L) := by
  induction n with
  | zero =>
    rintro k M S ⟨h, hK, i0, i1, i2⟩
    exfalso
    omega
  | succ n ih =>
    rintro k M S ⟨h, hK, i0, i1, i2⟩
    by_cases hk : k < 40
    · repeat (refine wf rfl ?_; first | refine wq_iadd ?_ | refine wq_isub ?_ | refine wq_imul ?_ | refine wq_iinc rfl ?_ | refine wq_goto ?_ | refine wq_k rfl ?_ | refine wq_b rfl rfl ?_ | refine wq_getf (by assumption) rfl ?_ | refine wq_alen (by assumption) rfl ?_)
      refine wf rfl (wq_ge ⟨by omega, by omega⟩ ⟨by omega, by omega⟩ (fun c9 => by exfalso; omega) (fun _ => ?_))
      repeat (refine wf rfl ?_; first | refine wq_iadd ?_ | refine wq_isub ?_ | refine wq_imul ?_ | refine wq_iinc rfl ?_ | refine wq_goto ?_ | refine wq_k rfl ?_ | refine wq_b rfl rfl ?_ | refine wq_getf (by assumption) rfl ?_ | refine wq_alen (by assumption) rfl ?_)
      refine wf rfl (wq_ifeq ⟨by omega, by omega⟩ (fun c9 => by exfalso; omega) (fun _ => ?_))
      repeat (refine wf rfl ?_; first | refine wq_iadd ?_ | refine wq_isub ?_ | refine wq_imul ?_ | refine wq_iinc rfl ?_ | refine wq_goto ?_ | refine wq_k rfl ?_ | refine wq_b rfl rfl ?_ | refine wq_getf (by assumption) rfl ?_ | refine wq_alen (by assumption) rfl ?_)
      refine wf rfl (wq_cs rfl rfl ((c_cell (M := M) (L := L) (f := f) h.1 (by omega) (k := k) (by omega)).mono ?_))
      rintro v M ⟨⟨x, rfl⟩, rfl⟩
      repeat (refine wf rfl ?_; first | refine wq_iadd ?_ | refine wq_isub ?_ | refine wq_imul ?_ | refine wq_iinc rfl ?_ | refine wq_goto ?_ | refine wq_k rfl ?_ | refine wq_b rfl rfl ?_ | refine wq_getf (by assumption) rfl ?_ | refine wq_alen (by assumption) rfl ?_)
      refine wf rfl (wq_cs rfl rfl ((c_cell (M := M) (L := L) (f := f) h.1 (by omega) (k := k + 1) (by omega)).mono ?_))
      rintro v M ⟨⟨y, rfl⟩, rfl⟩
      repeat (refine wf rfl ?_; first | refine wq_iadd ?_ | refine wq_isub ?_ | refine wq_imul ?_ | refine wq_iinc rfl ?_ | refine wq_goto ?_ | refine wq_k rfl ?_ | refine wq_b rfl rfl ?_ | refine wq_getf (by assumption) rfl ?_ | refine wq_alen (by assumption) rfl ?_)
      refine wf rfl (wq_cs rfl rfl ((c_isStep h hK).mono ?_))
      rintro v M2 ⟨rfl, S2, h2, hK2⟩
      refine wf rfl (wq_ifeq ⟨by omega, by omega⟩ (fun c9 => by exfalso; omega) (fun _ => ?_))
      have hst := fun (M3 : PM) (h3 : TX M3 L z f S2 (fl_S S2)) => ih (k + 1) M3 S2 ⟨h3, hK2, by omega, by omega, by omega⟩
      repeat (refine wf rfl ?_; first | refine wq_irem (by omega) ⟨by omega, by omega⟩ (by omega) ⟨by omega, by omega⟩ ?_ | refine wq_iadd ?_ | refine wq_isub ?_ | refine wq_imul ?_ | refine wq_iinc rfl ?_ | refine wq_goto ?_ | refine wq_k rfl ?_ | refine wq_b rfl rfl ?_ | refine wq_getf (by assumption) rfl ?_ | refine wq_alen (by assumption) rfl ?_)
      refine wf rfl (wq_ifgt ⟨by omega, by omega⟩ (fun c3 => ?_) (fun c3 => ?_))
      · have hx := fun (_ : True) => hst M2 h2
        repeat' (first | (refine Wp.sub (hx  ?_) ⟨rfl, rfl, rfl, rfl, rfl, trivial⟩ rfl) | (refine wf rfl ?_; first | refine wq_iadd ?_ | refine wq_isub ?_ | refine wq_imul ?_ | refine wq_iinc rfl ?_ | refine wq_goto ?_ | refine wq_k rfl ?_ | refine wq_b rfl rfl ?_ | refine wq_getf (by assumption) rfl ?_ | refine wq_alen (by assumption) rfl ?_ | fail | (refine wq_eq ⟨by omega, by omega⟩ ⟨by omega, by omega⟩ (fun _ => ?_) (fun _ => ?_) <;> try (exfalso; omega)) | (refine wq_ne ⟨by omega, by omega⟩ ⟨by omega, by omega⟩ (fun _ => ?_) (fun _ => ?_) <;> try (exfalso; omega)) | (refine wq_lt ⟨by omega, by omega⟩ ⟨by omega, by omega⟩ (fun _ => ?_) (fun _ => ?_) <;> try (exfalso; omega)) | (refine wq_ge ⟨by omega, by omega⟩ ⟨by omega, by omega⟩ (fun _ => ?_) (fun _ => ?_) <;> try (exfalso; omega)) | (refine wq_gt ⟨by omega, by omega⟩ ⟨by omega, by omega⟩ (fun _ => ?_) (fun _ => ?_) <;> try (exfalso; omega)) | (refine wq_le ⟨by omega, by omega⟩ ⟨by omega, by omega⟩ (fun _ => ?_) (fun _ => ?_) <;> try (exfalso; omega)) | (refine wq_ifeq ⟨by omega, by omega⟩ (fun _ => ?_) (fun _ => ?_) <;> try (exfalso; omega)) | (refine wq_ifne ⟨by omega, by omega⟩ (fun _ => ?_) (fun _ => ?_) <;> try (exfalso; omega)) | (refine wq_iflt ⟨by omega, by omega⟩ (fun _ => ?_) (fun _ => ?_) <;> try (exfalso; omega)) | (refine wq_ifge ⟨by omega, by omega⟩ (fun _ => ?_) (fun _ => ?_) <;> try (exfalso; omega)) | (refine wq_ifgt ⟨by omega, by omega⟩ (fun _ => ?_) (fun _ => ?_) <;> try (exfalso; omega)) | (refine wq_ifle ⟨by omega, by omega⟩ (fun _ => ?_) (fun _ => ?_) <;> try (exfalso; omega)) | refine wq_r rfl rfl rfl rfl rfl rfl ?_))
        trivial
      · repeat (refine wf rfl ?_; first | refine wq_iadd ?_ | refine wq_isub ?_ | refine wq_imul ?_ | refine wq_iinc rfl ?_ | refine wq_goto ?_ | refine wq_k rfl ?_ | refine wq_b rfl rfl ?_ | refine wq_getf (by assumption) rfl ?_ | refine wq_alen (by assumption) rfl ?_)
        refine wf rfl (wq_cs rfl rfl ((c_isWell h2 hK2).mono ?_))
        rintro v M3 ⟨rfl, h3⟩
        have hx := fun (_ : True) => hst M3 h3
        refine wf rfl (wq_ifeq ⟨by omega, by omega⟩ (fun c9 => by exfalso; omega) (fun _ => ?_))
        repeat' (first | (refine Wp.sub (hx  ?_) ⟨rfl, rfl, rfl, rfl, rfl, trivial⟩ rfl) | (refine wf rfl ?_; first | refine wq_iadd ?_ | refine wq_isub ?_ | refine wq_imul ?_ | refine wq_iinc rfl ?_ | refine wq_goto ?_ | refine wq_k rfl ?_ | refine wq_b rfl rfl ?_ | refine wq_getf (by assumption) rfl ?_ | refine wq_alen (by assumption) rfl ?_ | fail | (refine wq_eq ⟨by omega, by omega⟩ ⟨by omega, by omega⟩ (fun _ => ?_) (fun _ => ?_) <;> try (exfalso; omega)) | (refine wq_ne ⟨by omega, by omega⟩ ⟨by omega, by omega⟩ (fun _ => ?_) (fun _ => ?_) <;> try (exfalso; omega)) | (refine wq_lt ⟨by omega, by omega⟩ ⟨by omega, by omega⟩ (fun _ => ?_) (fun _ => ?_) <;> try (exfalso; omega)) | (refine wq_ge ⟨by omega, by omega⟩ ⟨by omega, by omega⟩ (fun _ => ?_) (fun _ => ?_) <;> try (exfalso; omega)) | (refine wq_gt ⟨by omega, by omega⟩ ⟨by omega, by omega⟩ (fun _ => ?_) (fun _ => ?_) <;> try (exfalso; omega)) | (refine wq_le ⟨by omega, by omega⟩ ⟨by omega, by omega⟩ (fun _ => ?_) (fun _ => ?_) <;> try (exfalso; omega)) | (refine wq_ifeq ⟨by omega, by omega⟩ (fun _ => ?_) (fun _ => ?_) <;> try (exfalso; omega)) | (refine wq_ifne ⟨by omega, by omega⟩ (fun _ => ?_) (fun _ => ?_) <;> try (exfalso; omega)) | (refine wq_iflt ⟨by omega, by omega⟩ (fun _ => ?_) (fun _ => ?_) <;> try (exfalso; omega)) | (refine wq_ifge ⟨by omega, by omega⟩ (fun _ => ?_) (fun _ => ?_) <;> try (exfalso; omega)) | (refine wq_ifgt ⟨by omega, by omega⟩ (fun _ => ?_) (fun _ => ?_) <;> try (exfalso; omega)) | (refine wq_ifle ⟨by omega, by omega⟩ (fun _ => ?_) (fun _ => ?_) <;> try (exfalso; omega)) | refine wq_r rfl rfl rfl rfl rfl rfl ?_))
        trivial
    · repeat (refine wf rfl ?_; first | refine wq_iadd ?_ | refine wq_isub ?_ | refine wq_imul ?_ | refine wq_iinc rfl ?_ | refine wq_goto ?_ | refine wq_k rfl ?_ | refine wq_b rfl rfl ?_ | refine wq_getf (by assumption) rfl ?_ | refine wq_alen (by assumption) rfl ?_)
      refine wf rfl (wq_ge ⟨by omega, by omega⟩ ⟨by omega, by omega⟩ (fun _ => ?_) (fun c9 => by exfalso; omega))
      repeat (refine wf rfl ?_; first | refine wq_iadd ?_ | refine wq_isub ?_ | refine wq_imul ?_ | refine wq_iinc rfl ?_ | refine wq_goto ?_ | refine wq_k rfl ?_ | refine wq_b rfl rfl ?_ | refine wq_getf (by assumption) rfl ?_ | refine wq_alen (by assumption) rfl ?_)
      refine wf rfl (wq_ifeq ⟨by omega, by omega⟩ (fun c9 => by exfalso; omega) (fun _ => ?_))
      repeat (refine wf rfl ?_; first | refine wq_iadd ?_ | refine wq_isub ?_ | refine wq_imul ?_ | refine wq_iinc rfl ?_ | refine wq_goto ?_ | refine wq_k rfl ?_ | refine wq_b rfl rfl ?_ | refine wq_getf (by assumption) rfl ?_ | refine wq_alen (by assumption) rfl ?_)
      refine wf rfl (wq_cs rfl rfl ((c_isWell h hK).mono ?_))
      rintro v M1 ⟨rfl, h1⟩
      refine wf rfl (wq_ifeq ⟨by omega, by omega⟩ (fun c9 => by exfalso; omega) (fun _ => ?_))
      repeat (refine wf rfl ?_; first | refine wq_iadd ?_ | refine wq_isub ?_ | refine wq_imul ?_ | refine wq_iinc rfl ?_ | refine wq_goto ?_ | refine wq_k rfl ?_ | refine wq_b rfl rfl ?_ | refine wq_getf (by assumption) rfl ?_ | refine wq_alen (by assumption) rfl ?_)
      refine wf rfl (wq_cs rfl rfl ((c_areAlike h1 hK).mono ?_))
      rintro v M2 ⟨rfl, h2⟩
      refine wf rfl (wq_ifeq ⟨by omega, by omega⟩ (fun c9 => by exfalso; omega) (fun _ => ?_))
      repeat' (refine wf rfl ?_; first | refine wq_iadd ?_ | refine wq_isub ?_ | refine wq_imul ?_ | refine wq_iinc rfl ?_ | refine wq_goto ?_ | refine wq_k rfl ?_ | refine wq_b rfl rfl ?_ | refine wq_getf (by assumption) rfl ?_ | refine wq_alen (by assumption) rfl ?_ | (refine wq_eq ⟨by omega, by omega⟩ ⟨by omega, by omega⟩ (fun _ => ?_) (fun _ => ?_) <;> try (exfalso; omega)) | (refine wq_ne ⟨by omega, by omega⟩ ⟨by omega, by omega⟩ (fun _ => ?_) (fun _ => ?_) <;> try (exfalso; omega)) | (refine wq_lt ⟨by omega, by omega⟩ ⟨by omega, by omega⟩ (fun _ => ?_) (fun _ => ?_) <;> try (exfalso; omega)) | (refine wq_ge ⟨by omega, by omega⟩ ⟨by omega, by omega⟩ (fun _ => ?_) (fun _ => ?_) <;> try (exfalso; omega)) | (refine wq_gt ⟨by omega, by omega⟩ ⟨by omega, by omega⟩ (fun _ => ?_) (fun _ => ?_) <;> try (exfalso; omega)) | (refine wq_le ⟨by omega, by omega⟩ ⟨by omega, by omega⟩ (fun _ => ?_) (fun _ => ?_) <;> try (exfalso; omega)) | (refine wq_ifeq ⟨by omega, by omega⟩ (fun _ => ?_) (fun _ => ?_) <;> try (exfalso; omega)) | (refine wq_ifne ⟨by omega, by omega⟩ (fun _ => ?_) (fun _ => ?_) <;> try (exfalso; omega)) | (refine wq_iflt ⟨by omega, by omega⟩ (fun _ => ?_) (fun _ => ?_) <;> try (exfalso; omega)) | (refine wq_ifge ⟨by omega, by omega⟩ (fun _ => ?_) (fun _ => ?_) <;> try (exfalso; omega)) | (refine wq_ifgt ⟨by omega, by omega⟩ (fun _ => ?_) (fun _ => ?_) <;> try (exfalso; omega)) | (refine wq_ifle ⟨by omega, by omega⟩ (fun _ => ?_) (fun _ => ?_) <;> try (exfalso; omega)) | refine wq_r rfl rfl rfl rfl rfl rfl ?_)
      have e1 := h2.2.2.2.1
      have e2 := h2.2.2.2.2
      exact ⟨rfl, by omega, by omega⟩
end LAW2
set_option maxRecDepth 20000 in
theorem law_wp (L : Nat) (hL : L ≤ 260) (f : Nat → Int) : Wp k_L_law (0, [(0, .ref 0)], [], [aJ L f]) (fun v M' => v = some (.int 1) ∧ M'.length ≤ 600001 ∧ szM M' ≤ 7302250 + L) := by
  have h0 : ([aJ L f] : PM)[0]? = some (aJ L f) := rfl
  have hl : ([aJ L f] : PM).length = 1 := rfl
  have hs : szM [aJ L f] = L := by
    show szC (aJ L f) + 0 = L
    rw [Nat.add_zero]
    rfl
  generalize ([aJ L f] : PM) = M at *
  repeat (refine wf rfl ?_; first | refine wq_new ?_ | refine wq_iadd ?_ | refine wq_isub ?_ | refine wq_imul ?_ | refine wq_iinc rfl ?_ | refine wq_goto ?_ | refine wq_k rfl ?_ | refine wq_b rfl rfl ?_ | refine wq_getf (by assumption) rfl ?_ | refine wq_alen (by assumption) rfl ?_)
  refine wf rfl (wq_ci rfl rfl ((c_PG_init (M := M ++ [.inr (9, nth [] dfl 9)]) (c := M.length) getL (by rw [List.length_append]; rfl)).mono ?_))
  rintro v M1 ⟨rfl, k1, r1⟩
  have k1' : Kee (fun _ => False) 612 60012 M M1 := (Kee.new (P := fun _ => False) k1).mono rfl (by decide) (fun q hq => hq)
  rw [hl] at r1
  rw [hl]
  have l1 : M1.length = 613 := by rw [k1'.1, hl]
  repeat (refine wf rfl ?_; first | refine wq_new ?_ | refine wq_iadd ?_ | refine wq_isub ?_ | refine wq_imul ?_ | refine wq_iinc rfl ?_ | refine wq_goto ?_ | refine wq_k rfl ?_ | refine wq_b rfl rfl ?_ | refine wq_getf (by assumption) rfl ?_ | refine wq_alen (by assumption) rfl ?_)
  refine wf rfl (wq_ci rfl rfl ((c_PG_init (M := M1 ++ [.inr (9, nth [] dfl 9)]) (c := M1.length) getL (by rw [List.length_append]; rfl)).mono ?_))
  rintro v M2 ⟨rfl, k2, r2⟩
  have k2' : Kee (fun _ => False) 612 60012 M1 M2 := (Kee.new (P := fun _ => False) k2).mono rfl (by decide) (fun q hq => hq)
  rw [l1] at r2
  rw [l1]
  have z1 := k1'.2.1
  have z2 := k2'.2.1
  have eS : fl_S S0 = S0 := rfl
  have hst := fun (_ : True) => lp_law (z := szM M2) (f := f) hL (by omega) 50 0 M2 S0 ⟨⟨k2'.at id (k1'.at id h0), r1.kee k2' (fun q q1 q2 => id), by rw [eS]; exact r2, by rw [k2'.1, l1], rfl⟩, OKS_S0, by omega, by omega, by omega⟩
  repeat' (first | (refine Wp.sub (hst  ?_) ⟨rfl, rfl, rfl, rfl, rfl, trivial⟩ rfl) | (refine wf rfl ?_; first | refine wq_iadd ?_ | refine wq_isub ?_ | refine wq_imul ?_ | refine wq_iinc rfl ?_ | refine wq_goto ?_ | refine wq_k rfl ?_ | refine wq_b rfl rfl ?_ | refine wq_getf (by assumption) rfl ?_ | refine wq_alen (by assumption) rfl ?_ | fail | (refine wq_eq ⟨by omega, by omega⟩ ⟨by omega, by omega⟩ (fun _ => ?_) (fun _ => ?_) <;> try (exfalso; omega)) | (refine wq_ne ⟨by omega, by omega⟩ ⟨by omega, by omega⟩ (fun _ => ?_) (fun _ => ?_) <;> try (exfalso; omega)) | (refine wq_lt ⟨by omega, by omega⟩ ⟨by omega, by omega⟩ (fun _ => ?_) (fun _ => ?_) <;> try (exfalso; omega)) | (refine wq_ge ⟨by omega, by omega⟩ ⟨by omega, by omega⟩ (fun _ => ?_) (fun _ => ?_) <;> try (exfalso; omega)) | (refine wq_gt ⟨by omega, by omega⟩ ⟨by omega, by omega⟩ (fun _ => ?_) (fun _ => ?_) <;> try (exfalso; omega)) | (refine wq_le ⟨by omega, by omega⟩ ⟨by omega, by omega⟩ (fun _ => ?_) (fun _ => ?_) <;> try (exfalso; omega)) | (refine wq_ifeq ⟨by omega, by omega⟩ (fun _ => ?_) (fun _ => ?_) <;> try (exfalso; omega)) | (refine wq_ifne ⟨by omega, by omega⟩ (fun _ => ?_) (fun _ => ?_) <;> try (exfalso; omega)) | (refine wq_iflt ⟨by omega, by omega⟩ (fun _ => ?_) (fun _ => ?_) <;> try (exfalso; omega)) | (refine wq_ifge ⟨by omega, by omega⟩ (fun _ => ?_) (fun _ => ?_) <;> try (exfalso; omega)) | (refine wq_ifgt ⟨by omega, by omega⟩ (fun _ => ?_) (fun _ => ?_) <;> try (exfalso; omega)) | (refine wq_ifle ⟨by omega, by omega⟩ (fun _ => ?_) (fun _ => ?_) <;> try (exfalso; omega)) | refine wq_r rfl rfl rfl rfl rfl rfl ?_))
  trivial
/-- THE LAW RUNS, and answers true -/
theorem law_runs (L : Nat) (hL : L ≤ 260) (xs : Nat → Int32) : ∃ (n : Nat) (M' : PM), run n (mm 132) (0, [(0, .ref 0)], [], [.inl (0, L, .inl xs)]) = some (some (.int 1), M') ∧ M'.length ≤ 600001 ∧ szM M' ≤ 7302250 + L := by
  have e : xs = fun k => I ((xs k).toInt) := funext fun k => (Int32.ofInt_toInt (xs k)).symm
  obtain ⟨n, v, M', h1, h2, h3⟩ := law_wp L hL (fun k => (xs k).toInt)
  subst h2
  refine ⟨n, M', ?_, h3⟩
  rw [e]
  exact h1
