/-! The law runs. -/
theorem CS.kee {P : Nat → Prop} {n s : Nat} {M M' : PM} {c : Nat} {S : ST} (h : CS M c S) (f : Kee P n s M M') (hP : ∀ q, c ≤ q → q < c + 612 → ¬ P q) : CS M' c S := by
  obtain ⟨a1, a2, a3, a4, a5, ⟨⟨ff, h1, h2⟩, ⟨g, h3, h4⟩, h5, h6⟩, ⟨b1, ru, b2⟩, ⟨⟨u8, f8, s8, t8, x8, y8⟩, ⟨fa, su, fg, sg, c2⟩, ⟨fl, rp, c3⟩, ⟨ro, po, o, c4⟩, ⟨ro', po', o', c5⟩⟩⟩ := h
  exact ⟨f.at (hP _ (by omega) (by omega)) a1, a2.kee f (fun q q1 q2 => hP _ (by omega) (by omega)), a3.kee f (fun q q1 q2 => hP _ (by omega) (by omega)), a4.kee f (hP _ (by omega) (by omega)) (hP _ (by omega) (by omega)), a5.kee f (fun q q1 q2 => hP _ (by omega) (by omega)), ⟨⟨ff, f.at (hP _ (by omega) (by omega)) h1, h2⟩, ⟨g, f.at (hP _ (by omega) (by omega)) h3, h4⟩, fun i hi => (h5 i hi).kee f (fun q q1 q2 => hP _ (by omega) (by omega)), fun i G hi hs => (h6 i G hi hs).kee f (fun q q1 q2 => hP _ (by omega) (by omega))⟩, ⟨f.at (hP _ (by omega) (by omega)) b1, ru, b2.kee f (hP _ (by omega) (by omega)) (hP _ (by omega) (by omega))⟩, ⟨u8, f8, s8, t8, f.at (hP _ (by omega) (by omega)) x8, f.at (hP _ (by omega) (by omega)) y8⟩, ⟨fa, su, fg, sg, f.at (hP _ (by omega) (by omega)) c2.1, f.at (hP _ (by omega) (by omega)) c2.2.1, f.at (hP _ (by omega) (by omega)) c2.2.2⟩, ⟨fl, rp, f.at (hP _ (by omega) (by omega)) c3⟩, ⟨ro, po, o, f.at (hP _ (by omega) (by omega)) c4.1, f.at (hP _ (by omega) (by omega)) c4.2.1, f.at (hP _ (by omega) (by omega)) c4.2.2⟩, ⟨ro', po', o', f.at (hP _ (by omega) (by omega)) c5.1, f.at (hP _ (by omega) (by omega)) c5.2.1, f.at (hP _ (by omega) (by omega)) c5.2.2⟩⟩
section LAW2
variable {L z : Nat} {f : Nat → Int}
set_option maxRecDepth 20000 in
theorem lp_law (hL : L ≤ 1536) (hf : ∀ k, inR (f k)) (hz : z ≤ 7302250 + L) (n : Nat) : ∀ (i : Int) (M : PM) (S : ST), LI M L z f S → 0 ≤ i → i ≤ L → (L : Int) - i < n → Wp k_L_law (18, [(0, .ref 0), (1, .ref 1), (2, .ref 613), (3, .int (I i))], [], M) (fun v M' => v = some (.int 1) ∧ M'.length ≤ 600001 ∧ szM M' ≤ 7302250 + L) := by
  induction n with
  | zero => intro i M S h i0 i1 i2; exfalso; omega
  | succ n ih =>
    intro i M S h i0 i1 i2
    obtain ⟨h1, h2, h3, h4, h5, h6⟩ := id h
    by_cases hi : i + 3 ≤ L
    · have hk : ∀ (M' : PM) (S' : ST), LI M' L z f S' → Wp k_L_law (724, [(0, .ref 0), (1, .ref 1), (2, .ref 613), (3, .int (I i))], [], M') (fun v M' => v = some (.int 1) ∧ M'.length ≤ 600001 ∧ szM M' ≤ 7302250 + L) := by
        intro M' S' h'
        have hst := fun (_ : True) => ih (i + 3) M' S' h' (by omega) (by omega) (by omega)
        repeat' (first | (refine Wp.sub (hst  ?_) ⟨rfl, rfl, rfl, rfl, trivial⟩ rfl) | (refine wf rfl ?_; first | refine wq_iadd ?_ | refine wq_isub ?_ | refine wq_imul ?_ | refine wq_iinc rfl ?_ | refine wq_goto ?_ | refine wq_k rfl ?_ | refine wq_b rfl rfl ?_ | refine wq_getf (by assumption) rfl ?_ | refine wq_alen (by assumption) rfl ?_ | fail | (refine wq_eq ⟨by omega, by omega⟩ ⟨by omega, by omega⟩ (fun _ => ?_) (fun _ => ?_) <;> try (exfalso; omega)) | (refine wq_ne ⟨by omega, by omega⟩ ⟨by omega, by omega⟩ (fun _ => ?_) (fun _ => ?_) <;> try (exfalso; omega)) | (refine wq_lt ⟨by omega, by omega⟩ ⟨by omega, by omega⟩ (fun _ => ?_) (fun _ => ?_) <;> try (exfalso; omega)) | (refine wq_ge ⟨by omega, by omega⟩ ⟨by omega, by omega⟩ (fun _ => ?_) (fun _ => ?_) <;> try (exfalso; omega)) | (refine wq_gt ⟨by omega, by omega⟩ ⟨by omega, by omega⟩ (fun _ => ?_) (fun _ => ?_) <;> try (exfalso; omega)) | (refine wq_le ⟨by omega, by omega⟩ ⟨by omega, by omega⟩ (fun _ => ?_) (fun _ => ?_) <;> try (exfalso; omega)) | (refine wq_ifeq ⟨by omega, by omega⟩ (fun _ => ?_) (fun _ => ?_) <;> try (exfalso; omega)) | (refine wq_ifne ⟨by omega, by omega⟩ (fun _ => ?_) (fun _ => ?_) <;> try (exfalso; omega)) | (refine wq_iflt ⟨by omega, by omega⟩ (fun _ => ?_) (fun _ => ?_) <;> try (exfalso; omega)) | (refine wq_ifge ⟨by omega, by omega⟩ (fun _ => ?_) (fun _ => ?_) <;> try (exfalso; omega)) | (refine wq_ifgt ⟨by omega, by omega⟩ (fun _ => ?_) (fun _ => ?_) <;> try (exfalso; omega)) | (refine wq_ifle ⟨by omega, by omega⟩ (fun _ => ?_) (fun _ => ?_) <;> try (exfalso; omega)) | refine wq_r rfl rfl rfl rfl rfl rfl ?_))
        trivial
      have hi' : 0 ≤ i ∧ i + 3 ≤ L := ⟨i0, hi⟩
      repeat (refine wf rfl ?_; first | refine wq_iadd ?_ | refine wq_isub ?_ | refine wq_imul ?_ | refine wq_iinc rfl ?_ | refine wq_goto ?_ | refine wq_k rfl ?_ | refine wq_b rfl rfl ?_ | refine wq_getf (by assumption) rfl ?_ | refine wq_alen (by assumption) rfl ?_)
      refine wf rfl (wq_gt ⟨by omega, by omega⟩ ⟨by omega, by omega⟩ (fun c9 => by exfalso; omega) (fun _ => ?_))
      repeat (refine wf rfl ?_; first | refine wq_iadd ?_ | refine wq_isub ?_ | refine wq_imul ?_ | refine wq_iinc rfl ?_ | refine wq_goto ?_ | refine wq_k rfl ?_ | refine wq_b rfl rfl ?_ | refine wq_getf (by assumption) rfl ?_ | refine wq_alen (by assumption) rfl ?_)
      refine wf rfl (wq_iald h1 ⟨by omega, by omega⟩ (by omega) (by omega) ?_)
      refine wf rfl (wq_k rfl ?_)
      refine wf rfl (wq_and31 (fun w w0 w1 => ?_))
      have hw : w = 0 ∨ w = 1 ∨ w = 2 ∨ w = 3 ∨ w = 4 ∨ w = 5 ∨ w = 6 ∨ w = 7 ∨ w = 8 ∨ w = 9 ∨ w = 10 ∨ w = 11 ∨ w = 12 ∨ w = 13 ∨ w = 14 ∨ w = 15 ∨ w = 16 ∨ w = 17 ∨ w = 18 ∨ w = 19 ∨ w = 20 ∨ w = 21 ∨ w = 22 ∨ w = 23 ∨ w = 24 ∨ 25 ≤ w := by omega
      rcases hw with rfl | rfl | rfl | rfl | rfl | rfl | rfl | rfl | rfl | rfl | rfl | rfl | rfl | rfl | rfl | rfl | rfl | rfl | rfl | rfl | rfl | rfl | rfl | rfl | rfl | hw
      · refine wf rfl (wq_s (pc' := 148) (sk' := []) rfl rfl rfl rfl (by rfl) ?_)
        exact law_tell hL hf hi' h hk
      · refine wf rfl (wq_s (pc' := 161) (sk' := []) rfl rfl rfl rfl (by rfl) ?_)
        exact law_fold hL hf hi' h hk
      · refine wf rfl (wq_s (pc' := 184) (sk' := []) rfl rfl rfl rfl (by rfl) ?_)
        exact law_unroll hL hf hi' h hk
      · refine wf rfl (wq_s (pc' := 207) (sk' := []) rfl rfl rfl rfl (by rfl) ?_)
        exact law_prune hL hf hi' h hk
      · refine wf rfl (wq_s (pc' := 220) (sk' := []) rfl rfl rfl rfl (by rfl) ?_)
        exact law_edit hL hf hi' h hk
      · refine wf rfl (wq_s (pc' := 253) (sk' := []) rfl rfl rfl rfl (by rfl) ?_)
        exact law_insert hL hf hi' h hk
      · refine wf rfl (wq_s (pc' := 286) (sk' := []) rfl rfl rfl rfl (by rfl) ?_)
        exact law_delete hL hf hi' h hk
      · refine wf rfl (wq_s (pc' := 309) (sk' := []) rfl rfl rfl rfl (by rfl) ?_)
        exact law_letter hL hf hi' h hk
      · refine wf rfl (wq_s (pc' := 332) (sk' := []) rfl rfl rfl rfl (by rfl) ?_)
        exact law_symbol hL hf hi' h hk
      · refine wf rfl (wq_s (pc' := 365) (sk' := []) rfl rfl rfl rfl (by rfl) ?_)
        exact law_ofRule hL hf hi' h hk
      · refine wf rfl (wq_s (pc' := 398) (sk' := []) rfl rfl rfl rfl (by rfl) ?_)
        exact law_count hL hf hi' h hk
      · refine wf rfl (wq_s (pc' := 421) (sk' := []) rfl rfl rfl rfl (by rfl) ?_)
        exact law_pair hL hf hi' h hk
      · refine wf rfl (wq_s (pc' := 454) (sk' := []) rfl rfl rfl rfl (by rfl) ?_)
        exact law_best hL hf hi' h hk
      · refine wf rfl (wq_s (pc' := 477) (sk' := []) rfl rfl rfl rfl (by rfl) ?_)
        exact law_ratio hL hf hi' h hk
      · refine wf rfl (wq_s (pc' := 491) (sk' := []) rfl rfl rfl rfl (by rfl) ?_)
        exact law_share hL hf hi' h hk
      · refine wf rfl (wq_s (pc' := 514) (sk' := []) rfl rfl rfl rfl (by rfl) ?_)
        exact law_mark hL hf hi' h hk
      · refine wf rfl (wq_s (pc' := 527) (sk' := []) rfl rfl rfl rfl (by rfl) ?_)
        exact law_couldBe hL hf hi' h hk
      · refine wf rfl (wq_s (pc' := 540) (sk' := []) rfl rfl rfl rfl (by rfl) ?_)
        exact law_unlike hL hf hi' h hk
      · refine wf rfl (wq_s (pc' := 563) (sk' := []) rfl rfl rfl rfl (by rfl) ?_)
        exact law_opens hL hf hi' h hk
      · refine wf rfl (wq_s (pc' := 586) (sk' := []) rfl rfl rfl rfl (by rfl) ?_)
        exact law_put hL hf hi' h hk
      · refine wf rfl (wq_s (pc' := 639) (sk' := []) rfl rfl rfl rfl (by rfl) ?_)
        exact law_wipe hL hf hi' h hk
      · refine wf rfl (wq_s (pc' := 652) (sk' := []) rfl rfl rfl rfl (by rfl) ?_)
        exact law_fault hL hf hi' h hk
      · refine wf rfl (wq_s (pc' := 665) (sk' := []) rfl rfl rfl rfl (by rfl) ?_)
        exact law_undo hL hf hi' h hk
      · refine wf rfl (wq_s (pc' := 678) (sk' := []) rfl rfl rfl rfl (by rfl) ?_)
        exact law_save hL hf hi' h hk
      · refine wf rfl (wq_s (pc' := 701) (sk' := []) rfl rfl rfl rfl (by rfl) ?_)
        exact law_restore hL hf hi' h hk
      · refine wf rfl (wq_tsd (pc' := 724) ⟨by omega, by omega⟩ (by omega) (by rfl) ?_)
        exact hk M S h
    · repeat (refine wf rfl ?_; first | refine wq_iadd ?_ | refine wq_isub ?_ | refine wq_imul ?_ | refine wq_iinc rfl ?_ | refine wq_goto ?_ | refine wq_k rfl ?_ | refine wq_b rfl rfl ?_ | refine wq_getf (by assumption) rfl ?_ | refine wq_alen (by assumption) rfl ?_)
      refine wf rfl (wq_gt ⟨by omega, by omega⟩ ⟨by omega, by omega⟩ (fun _ => ?_) (fun c9 => by exfalso; omega))
      repeat' (refine wf rfl ?_; first | refine wq_iadd ?_ | refine wq_isub ?_ | refine wq_imul ?_ | refine wq_iinc rfl ?_ | refine wq_goto ?_ | refine wq_k rfl ?_ | refine wq_b rfl rfl ?_ | refine wq_getf (by assumption) rfl ?_ | refine wq_alen (by assumption) rfl ?_ | (refine wq_eq ⟨by omega, by omega⟩ ⟨by omega, by omega⟩ (fun _ => ?_) (fun _ => ?_) <;> try (exfalso; omega)) | (refine wq_ne ⟨by omega, by omega⟩ ⟨by omega, by omega⟩ (fun _ => ?_) (fun _ => ?_) <;> try (exfalso; omega)) | (refine wq_lt ⟨by omega, by omega⟩ ⟨by omega, by omega⟩ (fun _ => ?_) (fun _ => ?_) <;> try (exfalso; omega)) | (refine wq_ge ⟨by omega, by omega⟩ ⟨by omega, by omega⟩ (fun _ => ?_) (fun _ => ?_) <;> try (exfalso; omega)) | (refine wq_gt ⟨by omega, by omega⟩ ⟨by omega, by omega⟩ (fun _ => ?_) (fun _ => ?_) <;> try (exfalso; omega)) | (refine wq_le ⟨by omega, by omega⟩ ⟨by omega, by omega⟩ (fun _ => ?_) (fun _ => ?_) <;> try (exfalso; omega)) | (refine wq_ifeq ⟨by omega, by omega⟩ (fun _ => ?_) (fun _ => ?_) <;> try (exfalso; omega)) | (refine wq_ifne ⟨by omega, by omega⟩ (fun _ => ?_) (fun _ => ?_) <;> try (exfalso; omega)) | (refine wq_iflt ⟨by omega, by omega⟩ (fun _ => ?_) (fun _ => ?_) <;> try (exfalso; omega)) | (refine wq_ifge ⟨by omega, by omega⟩ (fun _ => ?_) (fun _ => ?_) <;> try (exfalso; omega)) | (refine wq_ifgt ⟨by omega, by omega⟩ (fun _ => ?_) (fun _ => ?_) <;> try (exfalso; omega)) | (refine wq_ifle ⟨by omega, by omega⟩ (fun _ => ?_) (fun _ => ?_) <;> try (exfalso; omega)) | refine wq_r rfl rfl rfl rfl rfl rfl ?_)
      exact ⟨rfl, by omega, by omega⟩
end LAW2
set_option maxRecDepth 20000 in
theorem law_wp (L : Nat) (hL : L ≤ 1536) (f : Nat → Int) (hf : ∀ k, inR (f k)) : Wp k_L_law (0, [(0, .ref 0)], [], [aJ L f]) (fun v M' => v = some (.int 1) ∧ M'.length ≤ 600001 ∧ szM M' ≤ 7302250 + L) := by
  have h0 : ([aJ L f] : PM)[0]? = some (aJ L f) := rfl
  have hl : ([aJ L f] : PM).length = 1 := rfl
  have hs : szM [aJ L f] = L := by
    show szC (aJ L f) + 0 = L
    rw [Nat.add_zero]
    rfl
  generalize ([aJ L f] : PM) = M at *
  repeat (refine wf rfl ?_; first | refine wq_new ?_ | refine wq_iadd ?_ | refine wq_isub ?_ | refine wq_imul ?_ | refine wq_iinc rfl ?_ | refine wq_goto ?_ | refine wq_k rfl ?_ | refine wq_b rfl rfl ?_ | refine wq_getf (by assumption) rfl ?_ | refine wq_alen (by assumption) rfl ?_)
  refine wf rfl (wq_ci rfl rfl ((c_PG_init (M := M ++ [.inr (9, nth [] dfl 9)]) (c := M.length) getL (by rw [List.length_append]; rfl)).mono ?_))
  rintro v M1 ⟨rfl, k1, r1⟩
  have k1' : Kee (fun _ => False) 612 60012 M M1 := (Kee.new (P := fun _ => False) k1).mono rfl (by decide) (fun q hq => hq)
  rw [hl] at r1
  rw [hl]
  have l1 : M1.length = 613 := by rw [k1'.1, hl]
  repeat (refine wf rfl ?_; first | refine wq_new ?_ | refine wq_iadd ?_ | refine wq_isub ?_ | refine wq_imul ?_ | refine wq_iinc rfl ?_ | refine wq_goto ?_ | refine wq_k rfl ?_ | refine wq_b rfl rfl ?_ | refine wq_getf (by assumption) rfl ?_ | refine wq_alen (by assumption) rfl ?_)
  refine wf rfl (wq_ci rfl rfl ((c_Md_init (M := M1 ++ [.inr (10, nth [] dfl 10)]) (m := M1.length) getL (by rw [List.length_append]; rfl)).mono ?_))
  rintro v M2 ⟨rfl, k2, r2⟩
  have k2' : Kee (fun _ => False) 15 60019 M1 M2 := (Kee.new (P := fun _ => False) k2).mono rfl (by decide) (fun q hq => hq)
  rw [l1] at r2
  rw [l1]
  have z1 := k1'.2.1
  have z2 := k2'.2.1
  have hst := fun (_ : True) => lp_law (z := szM M2) (f := f) hL hf (by omega) (L + 1) 0 M2 S0 ⟨k2'.at id (k1'.at id h0), r1.kee k2' (fun q q1 q2 => id), r2, OKS_S0, by rw [k2'.1, l1], rfl⟩ (by omega) (by omega) (by omega)
  repeat' (first | (refine Wp.sub (hst  ?_) ⟨rfl, rfl, rfl, rfl, trivial⟩ rfl) | (refine wf rfl ?_; first | refine wq_iadd ?_ | refine wq_isub ?_ | refine wq_imul ?_ | refine wq_iinc rfl ?_ | refine wq_goto ?_ | refine wq_k rfl ?_ | refine wq_b rfl rfl ?_ | refine wq_getf (by assumption) rfl ?_ | refine wq_alen (by assumption) rfl ?_ | fail | (refine wq_eq ⟨by omega, by omega⟩ ⟨by omega, by omega⟩ (fun _ => ?_) (fun _ => ?_) <;> try (exfalso; omega)) | (refine wq_ne ⟨by omega, by omega⟩ ⟨by omega, by omega⟩ (fun _ => ?_) (fun _ => ?_) <;> try (exfalso; omega)) | (refine wq_lt ⟨by omega, by omega⟩ ⟨by omega, by omega⟩ (fun _ => ?_) (fun _ => ?_) <;> try (exfalso; omega)) | (refine wq_ge ⟨by omega, by omega⟩ ⟨by omega, by omega⟩ (fun _ => ?_) (fun _ => ?_) <;> try (exfalso; omega)) | (refine wq_gt ⟨by omega, by omega⟩ ⟨by omega, by omega⟩ (fun _ => ?_) (fun _ => ?_) <;> try (exfalso; omega)) | (refine wq_le ⟨by omega, by omega⟩ ⟨by omega, by omega⟩ (fun _ => ?_) (fun _ => ?_) <;> try (exfalso; omega)) | (refine wq_ifeq ⟨by omega, by omega⟩ (fun _ => ?_) (fun _ => ?_) <;> try (exfalso; omega)) | (refine wq_ifne ⟨by omega, by omega⟩ (fun _ => ?_) (fun _ => ?_) <;> try (exfalso; omega)) | (refine wq_iflt ⟨by omega, by omega⟩ (fun _ => ?_) (fun _ => ?_) <;> try (exfalso; omega)) | (refine wq_ifge ⟨by omega, by omega⟩ (fun _ => ?_) (fun _ => ?_) <;> try (exfalso; omega)) | (refine wq_ifgt ⟨by omega, by omega⟩ (fun _ => ?_) (fun _ => ?_) <;> try (exfalso; omega)) | (refine wq_ifle ⟨by omega, by omega⟩ (fun _ => ?_) (fun _ => ?_) <;> try (exfalso; omega)) | refine wq_r rfl rfl rfl rfl rfl rfl ?_))
  trivial
/-- THE LAW RUNS, and answers true -/
theorem law_runs (L : Nat) (hL : L ≤ 1536) (xs : Nat → Int32) : ∃ (n : Nat) (M' : PM), run n (mm 192) (0, [(0, .ref 0)], [], [.inl (0, L, .inl xs)]) = some (some (.int 1), M') ∧ M'.length ≤ 600001 ∧ szM M' ≤ 7302250 + L := by
  have e : xs = fun k => I ((xs k).toInt) := funext fun k => (Int32.ofInt_toInt (xs k)).symm
  obtain ⟨n, v, M', h1, h2, h3⟩ := law_wp L hL (fun k => (xs k).toInt) (fun k => ⟨Int32.le_toInt (xs k), Int32.toInt_lt (xs k)⟩)
  subst h2
  refine ⟨n, M', ?_, h3⟩
  rw [e]
  exact h1
