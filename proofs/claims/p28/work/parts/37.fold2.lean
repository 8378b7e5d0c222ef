/-- a grammar of the lists G, its measures unknown -/
def GL (M : PM) (g : Nat) (G : GS) : Prop := ∃ p X lt dp us W, Gm M g G.1.length p X G.2 lt dp us W ∧ (∀ k, k < G.1.length → X k = xof G.1 k) ∧ WFG G
theorem GM.gl {M : PM} {g : Nat} {G : GS} (h : GM M g G) : GL M g G := by
  obtain ⟨p, X, lt, dp, us, W, h1, h2, h3, h4⟩ := h
  exact ⟨p, X, lt, dp, us, W, h1, h3, h4⟩
theorem GL.fr {P : Nat → Prop} {M M' : PM} {g : Nat} {G : GS} (h : GL M g G) (f : Fr P M M') (hP : ∀ q, inG g q → ¬ P q) : GL M' g G := by
  obtain ⟨p, X, lt, dp, us, W, h1, h2, h3⟩ := h
  exact ⟨p, X, lt, dp, us, W, h1.fr f (fun q q1 q2 => hP q ⟨q1, q2⟩), h2, h3⟩
def PzE (M : PM) (q : Nat) : Prop := ∃ u bf bs bt, Pz M q u bf bs bt
theorem PzE.fr {P : Nat → Prop} {M M' : PM} {q : Nat} (h : PzE M q) (f : Fr P M M') (h1 : ¬ P q) (h2 : ¬ P (q + 1)) : PzE M' q := by
  obtain ⟨u, bf, bs, bt, h3⟩ := h
  exact ⟨u, bf, bs, bt, h3.fr f h1 h2⟩
abbrev foldPost (M : PM) (g q : Nat) (k : Int) (R : GS × Nat) : Option Value → PM → Prop := fun v M' => v = some (.int (I (k + (R.2 : Int)))) ∧ Fr (fun z => inG g z ∨ z = q ∨ z = q + 1) M M' ∧ GM M' g R.1 ∧ PzE M' q
theorem foldPost_s {M : PM} {g q : Nat} {k : Int} (R : GS × Nat) : foldPost M g q k (R.1, R.2 + 1) = foldPost M g q (k + 1) R := by
  unfold foldPost
  dsimp only
  rw [show k + ((R.2 + 1 : Nat) : Int) = k + 1 + (R.2 : Int) by omega]
section FO2
variable {M : PM} {g q : Nat} {t : Int}
theorem lp_foldE {M1 : PM} {G : GS} {R : GS × Nat} {k : Int} (hd : q + 1 < g ∨ g + 59 ≤ q) (hG : GL M1 g G) (hf : Fr (fun z => inG g z ∨ z = q ∨ z = q + 1) M M1) (hz : PzE M1 q) (hR : R = (G, 0)) :
    Wp k_X0_foldUpTo (93, [(0, .ref g), (1, .int (I t)), (2, .ref q), (3, .int (I k))], [], M1) (foldPost M g q k R) := by
  subst hR
  obtain ⟨p, X, lt, dp, us, W, h1, h2, h3⟩ := hG
  have hX : WFX G.1.length X := fun k hk s hs => h3.1 k hk s (by rw [← h2 k hk]; exact hs)
  have hme := c_Gr_measure h1 hX h3.2.1
  have hg1 := h1.obj
  repeat (refine wf rfl ?_; first | refine wq_iadd ?_ | refine wq_isub ?_ | refine wq_imul ?_ | refine wq_iinc rfl ?_ | refine wq_goto ?_ | refine wq_k rfl ?_ | refine wq_b rfl rfl ?_ | refine wq_getf (by assumption) rfl ?_ | refine wq_alen (by assumption) rfl ?_)
  refine wf rfl (wq_cv rfl rfl rfl hg1 (hme.mono ?_))
  rintro v M2 ⟨rfl, f2, lt', dp', us', W', h4, h5⟩
  repeat' (refine wf rfl ?_; first | refine wq_iadd ?_ | refine wq_isub ?_ | refine wq_imul ?_ | refine wq_iinc rfl ?_ | refine wq_goto ?_ | refine wq_k rfl ?_ | refine wq_b rfl rfl ?_ | refine wq_getf (by assumption) rfl ?_ | refine wq_alen (by assumption) rfl ?_ | (refine wq_eq ⟨by omega, by omega⟩ ⟨by omega, by omega⟩ (fun _ => ?_) (fun _ => ?_) <;> try (exfalso; omega)) | (refine wq_ne ⟨by omega, by omega⟩ ⟨by omega, by omega⟩ (fun _ => ?_) (fun _ => ?_) <;> try (exfalso; omega)) | (refine wq_lt ⟨by omega, by omega⟩ ⟨by omega, by omega⟩ (fun _ => ?_) (fun _ => ?_) <;> try (exfalso; omega)) | (refine wq_ge ⟨by omega, by omega⟩ ⟨by omega, by omega⟩ (fun _ => ?_) (fun _ => ?_) <;> try (exfalso; omega)) | (refine wq_gt ⟨by omega, by omega⟩ ⟨by omega, by omega⟩ (fun _ => ?_) (fun _ => ?_) <;> try (exfalso; omega)) | (refine wq_le ⟨by omega, by omega⟩ ⟨by omega, by omega⟩ (fun _ => ?_) (fun _ => ?_) <;> try (exfalso; omega)) | (refine wq_ifeq ⟨by omega, by omega⟩ (fun _ => ?_) (fun _ => ?_) <;> try (exfalso; omega)) | (refine wq_ifne ⟨by omega, by omega⟩ (fun _ => ?_) (fun _ => ?_) <;> try (exfalso; omega)) | (refine wq_iflt ⟨by omega, by omega⟩ (fun _ => ?_) (fun _ => ?_) <;> try (exfalso; omega)) | (refine wq_ifge ⟨by omega, by omega⟩ (fun _ => ?_) (fun _ => ?_) <;> try (exfalso; omega)) | (refine wq_ifgt ⟨by omega, by omega⟩ (fun _ => ?_) (fun _ => ?_) <;> try (exfalso; omega)) | (refine wq_ifle ⟨by omega, by omega⟩ (fun _ => ?_) (fun _ => ?_) <;> try (exfalso; omega)) | refine wq_r rfl rfl rfl rfl rfl rfl ?_)
  refine ⟨by simp, hf.tr (f2.mono (fun z hz => by unfold inG; omega)), ⟨p, X, lt', dp', us', W', h4, h5, h2, h3⟩, hz.fr f2 (by omega) (by omega)⟩
theorem foldN_0 {m : Nat} {G : GS} (h : m = 0 ∨ foldB G = false) : foldN m G = (G, 0) := by
  cases m with
  | zero => rw [foldN]
  | succ m =>
    rw [foldN, if_neg]
    rcases h with h | h
    · omega
    · rw [h]; simp
theorem lp_foldU (hd : q + 1 < g ∨ g + 59 ≤ q) (ht : inR t) (n : Nat) : ∀ (k : Int) (G : GS) (M1 : PM), (0 ≤ k ∧ (k = 0 ∨ k ≤ t) ∧ t - k < n ∧ GL M1 g G ∧ Fr (fun z => inG g z ∨ z = q ∨ z = q + 1) M M1 ∧ PzE M1 q) →
    Wp k_X0_foldUpTo (2, [(0, .ref g), (1, .int (I t)), (2, .ref q), (3, .int (I k))], [], M1) (foldPost M g q k (foldN (t - k).toNat G)) := by
  obtain ⟨t1, t2⟩ := id ht
  have hdg : ∀ z, inG g z → ¬ (z = q ∨ z = q + 1) := fun z hz => by unfold inG at hz; omega
  induction n with
  | zero =>
    rintro k G M1 ⟨i1, i2, i3, i4, i5, i6⟩
    repeat (refine wf rfl ?_; first | refine wq_iadd ?_ | refine wq_isub ?_ | refine wq_imul ?_ | refine wq_iinc rfl ?_ | refine wq_goto ?_ | refine wq_k rfl ?_ | refine wq_b rfl rfl ?_ | refine wq_getf (by assumption) rfl ?_ | refine wq_alen (by assumption) rfl ?_)
    refine wf rfl (wq_ge ⟨by omega, by omega⟩ ⟨by omega, by omega⟩ (fun c1 => ?_) (fun c1 => by exfalso; omega))
    exact lp_foldE hd i4 i5 i6 (foldN_0 (Or.inl (by omega)))
  | succ n ih =>
    rintro k G M1 ⟨i1, i2, i3, i4, i5, i6⟩
    obtain ⟨p, X, lt, dp, us, W, h1, h2, h3⟩ := id i4
    obtain ⟨u, bf, bs, bt, hz⟩ := id i6
    have hg1 := h1.obj
    have hN := h1.le
    have hsb : SB G.2 := h3.2.1.sb hN
    have hml := h1.main.len
    repeat (refine wf rfl ?_; first | refine wq_iadd ?_ | refine wq_isub ?_ | refine wq_imul ?_ | refine wq_iinc rfl ?_ | refine wq_goto ?_ | refine wq_k rfl ?_ | refine wq_b rfl rfl ?_ | refine wq_getf (by assumption) rfl ?_ | refine wq_alen (by assumption) rfl ?_)
    refine wf rfl (wq_ge ⟨by omega, by omega⟩ ⟨by omega, by omega⟩ (fun c1 => ?_) (fun c1 => ?_))
    · exact lp_foldE hd i4 i5 i6 (foldN_0 (Or.inl (by omega)))
    · repeat (refine wf rfl ?_; first | refine wq_iadd ?_ | refine wq_isub ?_ | refine wq_imul ?_ | refine wq_iinc rfl ?_ | refine wq_goto ?_ | refine wq_k rfl ?_ | refine wq_b rfl rfl ?_ | refine wq_getf (by assumption) rfl ?_ | refine wq_alen (by assumption) rfl ?_)
      refine wf rfl (wq_ge ⟨by omega, by omega⟩ ⟨by omega, by omega⟩ (fun c2 => ?_) (fun c2 => ?_))
      · exact lp_foldE hd i4 i5 i6 (foldN_0 (Or.inr (by
          unfold foldB
          rw [Bool.and_eq_false_iff]
          exact Or.inl (decide_eq_false (by omega)))))
      · have hfb := c_Pairs_findBest hz h1.main hsb (by omega)
        have hzz := bst_z (xs := G.2) (f := bf) (s := bs) (f' := 0) (s' := 0) (G.2.length - 1)
        have hbb := bst_bd (xs := G.2) (f := bf) (s := bs) (G.2.length - 1)
        have hz1 : (bstAll G.2 bf bs).2.2 = (bstAll G.2 0 0).2.2 := hzz.1
        have hz2 : 0 < (bstAll G.2 bf bs).2.2 → bstAll G.2 bf bs = bstAll G.2 0 0 := hzz.2
        have hb2 : 0 ≤ (bstAll G.2 bf bs).2.2 ∧ (bstAll G.2 bf bs).2.2 ≤ G.2.length := hbb
        repeat (refine wf rfl ?_; first | refine wq_iadd ?_ | refine wq_isub ?_ | refine wq_imul ?_ | refine wq_iinc rfl ?_ | refine wq_goto ?_ | refine wq_k rfl ?_ | refine wq_b rfl rfl ?_ | refine wq_getf (by assumption) rfl ?_ | refine wq_alen (by assumption) rfl ?_)
        refine wf rfl (wq_cv rfl rfl rfl hz.1 (hfb.mono ?_))
        rintro v M2 ⟨rfl, f2, u2, z2⟩
        have i4' : GL M2 g G := i4.fr f2 hdg
        have i5' := i5.tr (f2.mono (fun z hz => Or.inr hz))
        have i6' : PzE M2 q := ⟨_, _, _, _, z2⟩
        have fin : ¬ 1 < (bstAll G.2 bf bs).2.2 → foldN (t - k).toNat G = (G, 0) := fun hh => foldN_0 (Or.inr (by
          unfold foldB
          rw [Bool.and_eq_false_iff]
          exact Or.inr (decide_eq_false (by omega))))
        by_cases hb0 : 0 < (bstAll G.2 bf bs).2.2
        · rw [if_pos hb0]
          have eB := hz2 hb0
          refine wf rfl (wq_ifeq ⟨by omega, by omega⟩ (fun c3 => by exfalso; omega) (fun c3 => ?_))
          repeat (refine wf rfl ?_; first | refine wq_iadd ?_ | refine wq_isub ?_ | refine wq_imul ?_ | refine wq_iinc rfl ?_ | refine wq_goto ?_ | refine wq_k rfl ?_ | refine wq_b rfl rfl ?_ | refine wq_getf (by assumption) rfl ?_ | refine wq_alen (by assumption) rfl ?_)
          refine wf rfl (wq_cv rfl rfl rfl z2.1 ((c_Pairs_bestTimes z2).mono ?_))
          rintro v M2 ⟨rfl, rfl⟩
          repeat (refine wf rfl ?_; first | refine wq_iadd ?_ | refine wq_isub ?_ | refine wq_imul ?_ | refine wq_iinc rfl ?_ | refine wq_goto ?_ | refine wq_k rfl ?_ | refine wq_b rfl rfl ?_ | refine wq_getf (by assumption) rfl ?_ | refine wq_alen (by assumption) rfl ?_)
          refine wf rfl (wq_le ⟨by omega, by omega⟩ ⟨by omega, by omega⟩ (fun c4 => ?_) (fun c4 => ?_))
          · exact lp_foldE hd i4' i5' i6' (fin (by omega))
          · rw [eB] at z2 c4 hb2
            have hB : foldB G = true := by
              unfold foldB
              rw [Bool.and_eq_true, decide_eq_true_eq, decide_eq_true_eq]
              exact ⟨by omega, c4⟩
            obtain ⟨m1, m2⟩ := bstAll_mem (xs := G.2) (f := 0) (s := 0) (by omega)
            have b1 := hsb _ m1
            have b2 := hsb _ m2
            have h4 := h1.fr f2 (fun z q1 q2 => hdg z ⟨q1, q2⟩)
            have hg4 := h4.obj
            have hNN : G.1.length < 26 := by omega
            obtain ⟨jj, hjj, ejj⟩ := h4.pos hNN
            repeat (refine wf rfl ?_; first | refine wq_iadd ?_ | refine wq_isub ?_ | refine wq_imul ?_ | refine wq_iinc rfl ?_ | refine wq_goto ?_ | refine wq_k rfl ?_ | refine wq_b rfl rfl ?_ | refine wq_getf (by assumption) rfl ?_ | refine wq_alen (by assumption) rfl ?_)
            refine wf rfl (wq_cv rfl rfl rfl hg4 ((c_Gr_addRule h4 hNN).mono ?_))
            rintro v M3 ⟨rfl, f3, h5⟩
            have z3 := z2.fr f3 (by unfold inG; omega) (by unfold inG; omega)
            have hr3 := h5.row hNN
            rw [updF_at] at hr3
            obtain ⟨gr, r1, -, -, -⟩ := id hr3
            repeat (refine wf rfl ?_; first | refine wq_iadd ?_ | refine wq_isub ?_ | refine wq_imul ?_ | refine wq_iinc rfl ?_ | refine wq_goto ?_ | refine wq_k rfl ?_ | refine wq_b rfl rfl ?_ | refine wq_getf (by assumption) rfl ?_ | refine wq_alen (by assumption) rfl ?_)
            refine wf rfl (wq_cv rfl rfl rfl z3.1 ((c_Pairs_bestFirst z3).mono ?_))
            rintro v M3 ⟨rfl, rfl⟩
            refine wf rfl (wq_cv rfl rfl rfl r1 ((c_Row_add hr3).mono ?_))
            rintro v M4 (⟨a1, rfl, hr4, f4⟩ | ⟨a1, -, -⟩)
            rotate_left
            · exact absurd a1 (by simp)
            have h6 := h5.newRow hNN f4 hr4
            have z4 := z3.fr f4 (by omega) (by omega)
            obtain ⟨gr4, r4, -, -, -⟩ := id hr4
            repeat (refine wf rfl ?_; first | refine wq_iadd ?_ | refine wq_isub ?_ | refine wq_imul ?_ | refine wq_iinc rfl ?_ | refine wq_goto ?_ | refine wq_k rfl ?_ | refine wq_b rfl rfl ?_ | refine wq_getf (by assumption) rfl ?_ | refine wq_alen (by assumption) rfl ?_)
            refine wf rfl (wq_cv rfl rfl rfl z4.1 ((c_Pairs_bestSecond z4).mono ?_))
            rintro v M4 ⟨rfl, rfl⟩
            refine wf rfl (wq_cv rfl rfl rfl r4 ((c_Row_add hr4).mono ?_))
            rintro v M5 (⟨a2, rfl, hr5, f5⟩ | ⟨a2, -, -⟩)
            rotate_left
            · exact absurd a2 (by simp)
            have h7 := h6.newRow hNN f5 hr5
            have z5 := z4.fr f5 (by omega) (by omega)
            have hg7 := h7.obj
            have hm7 := h7.main
            obtain ⟨gr5, r5, -, -, -⟩ := id hm7
            repeat (refine wf rfl ?_; first | refine wq_iadd ?_ | refine wq_isub ?_ | refine wq_imul ?_ | refine wq_iinc rfl ?_ | refine wq_goto ?_ | refine wq_k rfl ?_ | refine wq_b rfl rfl ?_ | refine wq_getf (by assumption) rfl ?_ | refine wq_alen (by assumption) rfl ?_)
            refine wf rfl (wq_cv rfl rfl rfl z5.1 ((c_Pairs_bestFirst z5).mono ?_))
            rintro v M5 ⟨rfl, rfl⟩
            repeat (refine wf rfl ?_; first | refine wq_iadd ?_ | refine wq_isub ?_ | refine wq_imul ?_ | refine wq_iinc rfl ?_ | refine wq_goto ?_ | refine wq_k rfl ?_ | refine wq_b rfl rfl ?_ | refine wq_getf (by assumption) rfl ?_ | refine wq_alen (by assumption) rfl ?_)
            refine wf rfl (wq_cv rfl rfl rfl z5.1 ((c_Pairs_bestSecond z5).mono ?_))
            rintro v M5 ⟨rfl, rfl⟩
            repeat (refine wf rfl ?_; first | refine wq_iadd ?_ | refine wq_isub ?_ | refine wq_imul ?_ | refine wq_iinc rfl ?_ | refine wq_goto ?_ | refine wq_k rfl ?_ | refine wq_b rfl rfl ?_ | refine wq_getf (by assumption) rfl ?_ | refine wq_alen (by assumption) rfl ?_)
            refine wf rfl (wq_cv rfl rfl rfl r5 ((c_Row_foldPair (c := 8 + (G.1.length : Int)) ⟨by omega, by omega⟩ ⟨by omega, by omega⟩ (by omega) hsb hm7).mono ?_))
            rintro v M6 ⟨rfl, hr6, f6⟩
            have h8 := h7.newMain f6 hr6
            have z6 := z5.fr f6 (by omega) (by omega)
            have ff := ((((i5'.tr (f3.mono (fun z hz => Or.inl hz))).tr (f4.mono (fun z hz => Or.inl (by unfold inG; omega)))).tr (f5.mono (fun z hz => Or.inl (by unfold inG; omega)))).tr (f6.mono (fun z hz => Or.inl (by unfold inG; omega))))
            have hGL : GL M6 g (foldG G) := by
              refine ⟨p, _, lt, dp, us, W, by rw [foldG_len]; exact h8, ?_, h3.fold hB⟩
              rw [foldG_len]
              intro j hj
              by_cases he : j < G.1.length
              · rw [updF_ne _ _ (by omega), updF_ne _ _ (by omega), updF_ne _ _ (by omega), h2 j he]
                unfold foldG
                rw [xof_app1 he]
              · have e : j = G.1.length := by omega
                subst e
                rw [updF_at]
                unfold foldG
                rw [xof_app2]
                rfl
            have hstep := fun (_ : True) => ih (k + 1) (foldG G) M6 ⟨by omega, by omega, by omega, hGL, ff, ⟨_, _, _, _, z6⟩⟩
            rw [show foldN (t - k).toNat G = ((foldN (t - (k + 1)).toNat (foldG G)).1, (foldN (t - (k + 1)).toNat (foldG G)).2 + 1) by
              rw [show (t - k).toNat = (t - (k + 1)).toNat + 1 by omega, foldN, if_pos hB], foldPost_s]
            repeat' (first | (refine Wp.sub (hstep  ?_) ⟨rfl, rfl, rfl, rfl, trivial⟩ rfl) | (refine wf rfl ?_; first | refine wq_iadd ?_ | refine wq_isub ?_ | refine wq_imul ?_ | refine wq_iinc rfl ?_ | refine wq_goto ?_ | refine wq_k rfl ?_ | refine wq_b rfl rfl ?_ | refine wq_getf (by assumption) rfl ?_ | refine wq_alen (by assumption) rfl ?_ | fail | (refine wq_eq ⟨by omega, by omega⟩ ⟨by omega, by omega⟩ (fun _ => ?_) (fun _ => ?_) <;> try (exfalso; omega)) | (refine wq_ne ⟨by omega, by omega⟩ ⟨by omega, by omega⟩ (fun _ => ?_) (fun _ => ?_) <;> try (exfalso; omega)) | (refine wq_lt ⟨by omega, by omega⟩ ⟨by omega, by omega⟩ (fun _ => ?_) (fun _ => ?_) <;> try (exfalso; omega)) | (refine wq_ge ⟨by omega, by omega⟩ ⟨by omega, by omega⟩ (fun _ => ?_) (fun _ => ?_) <;> try (exfalso; omega)) | (refine wq_gt ⟨by omega, by omega⟩ ⟨by omega, by omega⟩ (fun _ => ?_) (fun _ => ?_) <;> try (exfalso; omega)) | (refine wq_le ⟨by omega, by omega⟩ ⟨by omega, by omega⟩ (fun _ => ?_) (fun _ => ?_) <;> try (exfalso; omega)) | (refine wq_ifeq ⟨by omega, by omega⟩ (fun _ => ?_) (fun _ => ?_) <;> try (exfalso; omega)) | (refine wq_ifne ⟨by omega, by omega⟩ (fun _ => ?_) (fun _ => ?_) <;> try (exfalso; omega)) | (refine wq_iflt ⟨by omega, by omega⟩ (fun _ => ?_) (fun _ => ?_) <;> try (exfalso; omega)) | (refine wq_ifge ⟨by omega, by omega⟩ (fun _ => ?_) (fun _ => ?_) <;> try (exfalso; omega)) | (refine wq_ifgt ⟨by omega, by omega⟩ (fun _ => ?_) (fun _ => ?_) <;> try (exfalso; omega)) | (refine wq_ifle ⟨by omega, by omega⟩ (fun _ => ?_) (fun _ => ?_) <;> try (exfalso; omega)) | refine wq_r rfl rfl rfl rfl rfl rfl ?_))
            trivial
        · rw [if_neg hb0]
          refine wf rfl (wq_ifeq ⟨by omega, by omega⟩ (fun c3 => ?_) (fun c3 => absurd rfl c3))
          exact lp_foldE hd i4' i5' i6' (fin (by omega))
theorem c_Gr_foldUpTo {G : GS} (h : GM M g G) (hz : PzE M q) (hd : q + 1 < g ∨ g + 59 ≤ q) (ht : inR t) : Wm 32 [.ref g, .int (I t), .ref q] M (foldPost M g q 0 (foldN t.toNat G)) := by
  have hstep := fun (_ : True) => lp_foldU (M := M) hd ht (t.toNat + 1) 0 G M ⟨by omega, by omega, by omega, h.gl, Fr.rf, hz⟩
  rw [show t - 0 = t by omega] at hstep
  refine wm_in (lv := _) rfl rfl rfl ?_
  repeat' (first | (refine Wp.sub (hstep  ?_) ⟨rfl, rfl, rfl, rfl, trivial⟩ rfl) | (refine wf rfl ?_; first | refine wq_iadd ?_ | refine wq_isub ?_ | refine wq_imul ?_ | refine wq_iinc rfl ?_ | refine wq_goto ?_ | refine wq_k rfl ?_ | refine wq_b rfl rfl ?_ | refine wq_getf (by assumption) rfl ?_ | refine wq_alen (by assumption) rfl ?_ | fail | (refine wq_eq ⟨by omega, by omega⟩ ⟨by omega, by omega⟩ (fun _ => ?_) (fun _ => ?_) <;> try (exfalso; omega)) | (refine wq_ne ⟨by omega, by omega⟩ ⟨by omega, by omega⟩ (fun _ => ?_) (fun _ => ?_) <;> try (exfalso; omega)) | (refine wq_lt ⟨by omega, by omega⟩ ⟨by omega, by omega⟩ (fun _ => ?_) (fun _ => ?_) <;> try (exfalso; omega)) | (refine wq_ge ⟨by omega, by omega⟩ ⟨by omega, by omega⟩ (fun _ => ?_) (fun _ => ?_) <;> try (exfalso; omega)) | (refine wq_gt ⟨by omega, by omega⟩ ⟨by omega, by omega⟩ (fun _ => ?_) (fun _ => ?_) <;> try (exfalso; omega)) | (refine wq_le ⟨by omega, by omega⟩ ⟨by omega, by omega⟩ (fun _ => ?_) (fun _ => ?_) <;> try (exfalso; omega)) | (refine wq_ifeq ⟨by omega, by omega⟩ (fun _ => ?_) (fun _ => ?_) <;> try (exfalso; omega)) | (refine wq_ifne ⟨by omega, by omega⟩ (fun _ => ?_) (fun _ => ?_) <;> try (exfalso; omega)) | (refine wq_iflt ⟨by omega, by omega⟩ (fun _ => ?_) (fun _ => ?_) <;> try (exfalso; omega)) | (refine wq_ifge ⟨by omega, by omega⟩ (fun _ => ?_) (fun _ => ?_) <;> try (exfalso; omega)) | (refine wq_ifgt ⟨by omega, by omega⟩ (fun _ => ?_) (fun _ => ?_) <;> try (exfalso; omega)) | (refine wq_ifle ⟨by omega, by omega⟩ (fun _ => ?_) (fun _ => ?_) <;> try (exfalso; omega)) | refine wq_r rfl rfl rfl rfl rfl rfl ?_))
  trivial
end FO2
