/-! Opening, on lists; the class' grammar by its lists. -/
theorem opnF_some {f : Int → Int} {N : Nat} {X : Nat → List Int} (hf : ∀ s, 0 ≤ f s) (hX : WFX N X) (hle : ∀ j, j < N → f (8 + (j : Int)) ≤ sumL f (X j)) {q : Int} (hq : 0 ≤ q) : ∀ (n : Nat) (mn mn2 : List Int) (z : Int), WFm N mn → q < sumL f mn → opnF N X f q n mn = some (mn2, z) → WFm N mn2 ∧ 0 ≤ z ∧ z < mn2.length ∧ rat mn2 z < 8 ∧ ((∀ j, j < N → f (8 + (j : Int)) = sumL f (X j)) → sumL f mn2 = sumL f mn)
  | 0, mn, mn2, z, _, _, h => by rw [opnF] at h; cases h
  | n + 1, mn, mn2, z, hm, hs, h => by
    rw [opnF] at h
    have hpl := posL_lt hf mn q hq hs
    have hpb := posL_bd f mn q
    have hx := hm _ (rat_mem hpb.1 hpl.1)
    by_cases hc : 8 ≤ rat mn (posL f mn q) ∧ rat mn (posL f mn q) < 8 + N
    · rw [if_pos hc] at h
      have hj : (rat mn (posL f mn q) - 8).toNat < N := by omega
      have ej : 8 + (((rat mn (posL f mn q) - 8).toNat : Nat) : Int) = rat mn (posL f mn q) := by omega
      have hlj := hle _ hj
      rw [ej] at hlj
      split at h
      · have hpo := posL_open hf hq hs hlj
        have hm2 : WFm N (mn.take (posL f mn q).toNat ++ (X (rat mn (posL f mn q) - 8).toNat ++ mn.drop ((posL f mn q).toNat + 1))) := by
          intro s hs
          rcases List.mem_append.mp hs with hs | hs
          · exact hm s (List.mem_of_mem_take hs)
          · rcases List.mem_append.mp hs with hs | hs
            · have := hX _ hj s hs
              omega
            · exact hm s (List.mem_of_mem_drop hs)
        obtain ⟨w1, w2, w3, w4, w5⟩ := opnF_some hf hX hle hq n _ mn2 z hm2 hpo.1 h
        refine ⟨w1, w2, w3, w4, fun he => ?_⟩
        rw [w5 he, sumL_app, sumL_app, ← he _ hj, ej]
        have hd := drop_at (xs := mn) hpb.1 hpl.1
        have ht : sumL f mn = sumL f (mn.take (posL f mn q).toNat) + sumL f (mn.drop (posL f mn q).toNat) := by rw [← sumL_app, List.take_append_drop]
        rw [ht, hd, sumL, show (posL f mn q + 1).toNat = (posL f mn q).toNat + 1 by omega]
      · cases h
    · rw [if_neg hc] at h
      cases h
      exact ⟨hm, hpb.1, hpl.1, by omega, fun _ => rfl⟩
theorem lyG_le {G : GS} (hW : WFG G) {j : Nat} (hj : j < G.1.length) : lyG G (8 + (j : Int)) ≤ sumL (lyG G) (xof G.1 j) := by
  rw [lyG_rule (by omega) (by omega), show (8 + (j : Int) - 8).toNat = j by omega, ltG_fix hW hj]
  omega
theorem opn_some {G : GS} (hW : WFG G) {q : Int} (hq : 0 ≤ q ∧ q < wlG G) {mn2 : List Int} {z : Int} (h : opn G q = some (mn2, z)) : WFG (G.1, mn2) ∧ 0 ≤ z ∧ z < mn2.length ∧ rat mn2 z < 8 ∧ (OKG G → sumL (lyG G) mn2 = sumL (lyG G) G.2) := by
  have hw : wlG G = min (sumL (lyG G) G.2) 10000 := rfl
  obtain ⟨w1, w2, w3, w4, w5⟩ := opnF_some (fun s => (lyG_bd hW s).1) hW.1 (fun j hj => lyG_le hW hj) hq.1 27 G.2 mn2 z hW.2.1 (by omega) h
  refine ⟨⟨hW.1, w1, hW.2.2⟩, w2, w3, w4, fun hK => w5 (fun j hj => ?_)⟩
  rw [lyG_rule (by omega) (by omega), show (8 + (j : Int) - 8).toNat = j by omega, hK.lt hj]
section GLS
variable {M : PM} {g : Nat} {G : GS}
theorem GL.at (h : GL M g G) : ∃ p X lt dp us W, Gm M g G.1.length p X G.2 lt dp us W ∧ (∀ k, k < G.1.length → X k = xof G.1 k) ∧ WFX G.1.length X ∧ WFG G := by
  obtain ⟨p, X, lt, dp, us, W, h1, h2, h3⟩ := h
  exact ⟨p, X, lt, dp, us, W, h1, h2, fun k hk s hs => h3.1 k hk s (by rw [← h2 k hk]; exact hs), h3⟩
theorem c_GL_mainSymbol {k : Int} (hk : inR k) (h : GL M g G) : Wm 10 [.ref g, .int (I k)] M (fun v M' => v = some (.int (I (rat G.2 k))) ∧ M' = M) := by
  obtain ⟨p, X, lt, dp, us, W, h1, -⟩ := h.at
  exact c_Gr_mainSymbol hk h1
theorem c_GL_set {k s : Int} (hk : inR k) (hs : 0 ≤ s ∧ s < 8) (h : GL M g G) : Wm 28 [.ref g, .int (I k), .int (I s)] M (fun v M' => v = none ∧ Fr (inG g) M M' ∧ GM M' g (G.1, rset G.2 k s)) := by
  obtain ⟨p, X, lt, dp, us, W, h1, h2, h3, h4⟩ := h.at
  refine (c_Gr_setInMain h1 h3 h4.2.1 hk hs).mono ?_
  rintro v M' ⟨rfl, f, w, lt', dp', us', W', q1, q2⟩
  exact ⟨rfl, f, GM.of q1 q2 h2 ⟨h4.1, w, h4.2.2⟩⟩
theorem c_GL_take {k : Int} (hk : 0 ≤ k ∧ k < G.2.length) (h : GL M g G) : Wm 30 [.ref g, .int (I k)] M (fun v M' => v = none ∧ Fr (inG g) M M' ∧ GM M' g (G.1, G.2.take k.toNat ++ G.2.drop (k.toNat + 1))) := by
  obtain ⟨p, X, lt, dp, us, W, h1, h2, h3, h4⟩ := h.at
  refine (c_Gr_takeFromMain h1 h3 h4.2.1 hk).mono ?_
  rintro v M' ⟨rfl, f, w, lt', dp', us', W', q1, q2⟩
  exact ⟨rfl, f, GM.of q1 q2 h2 ⟨h4.1, w, h4.2.2⟩⟩
theorem c_GL_put {k s : Int} (hk : 0 ≤ k ∧ k ≤ G.2.length) (hs : 0 ≤ s ∧ s < 8) (h : GL M g G) : Wm 29 [.ref g, .int (I k), .int (I s)] M (fun v M' => Fr (inG g) M M' ∧ ((G.2.length = 80 ∧ v = some (.int (I 0)) ∧ GE M' g) ∨ (G.2.length < 80 ∧ v = some (.int (I 1)) ∧ GM M' g (G.1, G.2.take k.toNat ++ s :: G.2.drop k.toNat)))) := by
  obtain ⟨p, X, lt, dp, us, W, h1, h2, h3, h4⟩ := h.at
  refine (c_Gr_putIntoMain h1 h3 h4.2.1 hk hs).mono ?_
  rintro v M' ⟨f, ⟨w1, rfl, lt', dp', us', W', q1, -⟩ | ⟨w1, rfl, w, lt', dp', us', W', q1, q2⟩⟩
  · exact ⟨f, Or.inl ⟨w1, rfl, ⟨_, _, _, _, _, _, _, _, q1⟩⟩⟩
  · exact ⟨f, Or.inr ⟨w1, rfl, GM.of q1 q2 h2 ⟨h4.1, w, h4.2.2⟩⟩⟩
theorem c_GM_open {q : Int} (hq : inR q) (h : GM M g G) : Wm 27 [.ref g, .int (I q)] M (fun v M' => Fr (inG g) M M' ∧ ((∃ mn2 z, opn G q = some (mn2, z) ∧ v = some (.int (I z)) ∧ 0 ≤ z ∧ z ≤ mn2.length ∧ GL M' g (G.1, mn2)) ∨ (opn G q = none ∧ v = some (.int (I (-4))) ∧ GE M' g))) := by
  obtain ⟨p, X, lt, dp, us, h1, h2, h3, h4, h5⟩ := h.gv
  have hX : WFX G.1.length X := fun k hk s hs => h3.1 k hk s (by rw [← h2 k hk]; exact hs)
  refine (c_Gr_openTo h1 hX h3.2.1 (fun k hk => by rw [h2 k hk]; exact h3.2.2 k hk) (fun j hj => by rw [(h4 j hj).1]; exact ltG_bd h3 j hj) hq).mono ?_
  have eo : opnF G.1.length X (lsy G.1.length lt) q 27 G.2 = opn G q := by
    rw [h5]
    exact opnF_congr h2 q 27 G.2
  rw [eo]
  rintro v M' ⟨f, ⟨mn2, z, w1, rfl, w2, w3, w4, w5⟩ | ⟨w1, rfl, mn2, w4, w5⟩⟩
  · exact ⟨f, Or.inl ⟨mn2, z, w1, rfl, w2, w3, ⟨p, X, lt, dp, us, _, w4, h2, ⟨h3.1, w5, h3.2.2⟩⟩⟩⟩
  · exact ⟨f, Or.inr ⟨w1, rfl, ⟨_, _, _, _, _, _, _, _, w4⟩⟩⟩
theorem c_GM_tooMuch (h : GM M g G) : Wm 19 [.ref g] M (fun v M' => v = some (.int (I (if tooB G = true then 1 else 0))) ∧ M' = M) := by
  obtain ⟨p, X, lt, dp, us, h1, h2, h3, h4, h5⟩ := h.gv
  have hwb := wlG_bd h3
  refine (c_Gr_tellsTooMuch h1 (fun j hj => by rw [(h4 j hj).1]; exact ltG_bd h3 j hj) ⟨by omega, by omega⟩).mono ?_
  rintro v M' ⟨⟨rfl, w1, w2⟩ | ⟨rfl, w1⟩, rfl⟩
  · refine ⟨?_, rfl⟩
    rw [if_neg]
    intro z
    rcases tooB_iff.mp z with z | ⟨j, z1, z2⟩
    · omega
    · have := w2 j z1
      rw [(h4 j z1).1] at this
      omega
  · refine ⟨?_, rfl⟩
    rw [if_pos]
    refine tooB_iff.mpr ?_
    rcases w1 with w1 | ⟨j, z1, z2⟩
    · exact Or.inl w1
    · rw [(h4 j z1).1] at z2
      exact Or.inr ⟨j, z1, z2⟩
theorem c_GM_wordLetters (h : GM M g G) : Wm 11 [.ref g] M (fun v M' => v = some (.int (I (wlG G))) ∧ M' = M) := by
  obtain ⟨p, X, lt, dp, us, h1, -⟩ := h.gv
  exact c_Gr_wordLetters h1
theorem c_GM_ruleCount (h : GM M g G) : Wm 3 [.ref g] M (fun v M' => v = some (.int (I (G.1.length : Nat))) ∧ M' = M) := by
  obtain ⟨p, X, lt, dp, us, h1, -⟩ := h.gv
  exact c_Gr_ruleCount h1
theorem c_GM_hasPlace {k : Int} (hk : inR k) (h : GM M g G) : Wm 7 [.ref g, .int (I k)] M (fun v M' => v = some (.int (I (if 0 ≤ k ∧ k < wlG G then 1 else 0))) ∧ M' = M) := by
  obtain ⟨p, X, lt, dp, us, h1, h2, h3, -⟩ := h.gv
  have hwb := wlG_bd h3
  exact c_Gr_hasPlace hk ⟨by omega, by omega⟩ h1
theorem c_GM_hasRule {k : Int} (hk : inR k) (h : GM M g G) : Wm 4 [.ref g, .int (I k)] M (fun v M' => v = some (.int (I (if 0 ≤ k ∧ k < G.1.length then 1 else 0))) ∧ M' = M) := by
  obtain ⟨p, X, lt, dp, us, h1, -⟩ := h.gv
  exact c_Gr_hasRule hk h1
theorem c_GM_hasSymbol {k : Int} (hk : inR k) (h : GM M g G) : Wm 5 [.ref g, .int (I k)] M (fun v M' => v = some (.int (I (if 0 ≤ k ∧ k < 8 + G.1.length then 1 else 0))) ∧ M' = M) := by
  obtain ⟨p, X, lt, dp, us, h1, -⟩ := h.gv
  exact c_Gr_hasSymbol hk h1
theorem c_GM_canUnroll {r : Nat} (hr : r < G.1.length) (h : GM M g G) : Wm 33 [.ref g, .int (I r)] M (fun v M' => v = some (.int (I (if canB G r = true then 1 else 0))) ∧ M' = M) := by
  obtain ⟨p, X, lt, dp, us, h1, h2, h3, -⟩ := h.gv
  have hX : WFX G.1.length X := fun k hk s hs => h3.1 k hk s (by rw [← h2 k hk]; exact hs)
  refine (c_Gr_canUnroll h1 hX h3.2.1 hr).mono ?_
  rintro v M' ⟨⟨w1, rfl⟩ | ⟨w1, rfl⟩, rfl⟩
  · rw [if_pos (canB_iff.mpr ((canU_congr hr h2).mp w1))]
    exact ⟨rfl, rfl⟩
  · rw [if_neg (fun z => w1 ((canU_congr hr h2).mpr (canB_iff.mp z)))]
    exact ⟨rfl, rfl⟩
theorem c_GM_usesOf {r : Nat} (hr : r < G.1.length) (h : GM M g G) : Wm 14 [.ref g, .int (I r)] M (fun v M' => v = some (.int (I (usT G r))) ∧ M' = M) := by
  obtain ⟨p, X, lt, dp, us, h1, h2, h3, h4, -⟩ := h.gv
  have hN := h1.le
  refine (c_Gr_usesOf (k := (r : Int)) ⟨by omega, by omega⟩ h1).mono ?_
  rintro v M' ⟨rfl, rfl⟩
  rw [if_pos (by omega), show ((r : Int)).toNat = r by omega, (h4 r hr).2.2]
  exact ⟨rfl, rfl⟩
theorem c_GM_totalSize (h : GM M g G) : Wm 16 [.ref g] M (fun v M' => v = some (.int (I (szG G))) ∧ M' = M) := by
  obtain ⟨p, X, lt, dp, us, h1, h2, -⟩ := h.gv
  refine (c_Gr_totalSize h1).mono ?_
  rintro v M' ⟨rfl, rfl⟩
  have e : ∀ k : Nat, k ≤ G.1.length → smN (fun j => ((X j).length : Int)) k = smN (fun j => ((xof G.1 j).length : Int)) k := by
    intro k
    induction k with
    | zero => intro _; rfl
    | succ k ih => intro hk; rw [smN, smN, ih (by omega), h2 k (by omega)]
  rw [e _ (Nat.le_refl _)]
  exact ⟨rfl, rfl⟩
end GLS
