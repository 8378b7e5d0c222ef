/-! What folding, unrolling and pruning do to the numbers. -/
theorem foldN_le : ∀ (n : Nat) (G : GS), (foldN n G).2 ≤ n
  | 0, _ => Nat.le_refl 0
  | n + 1, G => by
    rw [foldN]
    split
    · have := foldN_le n (foldG G)
      dsimp only
      omega
    · exact Nat.zero_le _
theorem foldN_len : ∀ (n : Nat) (G : GS), (foldN n G).1.1.length = G.1.length + (foldN n G).2
  | 0, _ => rfl
  | n + 1, G => by
    rw [foldN]
    split
    · have := foldN_len n (foldG G)
      rw [foldG_len] at this
      dsimp only
      omega
    · rfl
theorem foldN_pos {n : Nat} {G : GS} (hn : 1 ≤ n) (h : foldB G = true) : 1 ≤ (foldN n G).2 := by
  obtain ⟨m, rfl⟩ : ∃ m, n = m + 1 := ⟨n - 1, by omega⟩
  rw [foldN, if_pos h]
  dsimp only
  omega
theorem fold2_cnt (f s c : Int) : ∀ (n : Nat) (xs : List Int), xs.length ≤ n → (fold2 f s c xs).length + cnt2 f s xs = xs.length
  | 0, [], _ => by simp [fold2, cnt2]
  | 0, y :: r, h => by simp at h
  | n + 1, [], _ => by simp [fold2, cnt2]
  | n + 1, [y], _ => by simp [fold2, cnt2]
  | n + 1, y :: z :: r, h => by
    rw [List.length_cons, List.length_cons] at h
    have h1 := fold2_cnt f s c n r (by omega)
    have h2 := fold2_cnt f s c n (z :: r) (by rw [List.length_cons]; omega)
    rw [List.length_cons] at h2
    rw [fold2, cnt2]
    split
    · rw [List.length_cons, List.length_cons, List.length_cons]
      omega
    · rw [List.length_cons, List.length_cons, List.length_cons]
      omega
theorem szG_fold {G : GS} (hb : foldB G = true) : szG (foldG G) ≤ szG G := by
  have hb0 := foldB_iff.mp hb
  have hc := bst_is (xs := G.2) (f := 0) (s := 0) (G.2.length - 1) (by show 0 < (bstAll G.2 0 0).2.2; omega)
  have hc : (cnt2 (bstAll G.2 0 0).1 (bstAll G.2 0 0).2.1 G.2 : Int) = (bstAll G.2 0 0).2.2 := hc
  have hl := fold2_cnt (bstAll G.2 0 0).1 (bstAll G.2 0 0).2.1 (8 + (G.1.length : Int)) G.2.length G.2 (Nat.le_refl _)
  unfold szG
  rw [foldG_len, smN, fl_smN (g := fun j => ((xof G.1 j).length : Int)) (fun j hj => by rw [show xof (foldG G).1 j = xof G.1 j from xof_app1 hj]), show xof (foldG G).1 G.1.length = [(bstAll G.2 0 0).1, (bstAll G.2 0 0).2.1] from xof_app2, show (foldG G).2 = fold2 (bstAll G.2 0 0).1 (bstAll G.2 0 0).2.1 (8 + (G.1.length : Int)) G.2 from rfl]
  show ((fold2 _ _ _ _).length : Int) + (_ + 2) ≤ _
  omega
theorem szG_foldN : ∀ (n : Nat) (G : GS), szG (foldN n G).1 ≤ szG G
  | 0, _ => Int.le_refl _
  | n + 1, G => by
    rw [foldN]
    by_cases hB : foldB G = true
    · rw [if_pos hB]
      have h1 := szG_foldN n (foldG G)
      have h2 := szG_fold hB
      dsimp only
      omega
    · rw [if_neg hB]
      exact Int.le_refl _
theorem cntE_zero {s : Int} : ∀ {xs : List Int}, (∀ x ∈ xs, x < s) → cntE s xs = 0
  | [], _ => rfl
  | x :: r, h => by
    rw [cntE, if_neg (by have := h x List.mem_cons_self; omega), cntE_zero (fun y hy => h y (List.mem_cons_of_mem _ hy))]
theorem usS_none {G : GS} (hW : WFG G) {r : Nat} : ∀ (k : Nat), k ≤ r + 1 → k ≤ G.1.length → usS (xof G.1) r k = 0
  | 0, _, _ => rfl
  | k + 1, h, h' => by
    rw [usS, usS_none hW k (by omega) (by omega), cntE_zero (fun x hx => by have := (hW.1 k (by omega) x hx).2; omega)]
    rfl
theorem usS_nn (X : Nat → List Int) (r : Nat) : ∀ k, 0 ≤ usS X r k
  | 0 => Int.le_refl 0
  | k + 1 => by
    have := usS_nn X r k
    rw [usS]
    omega
theorem usT_nn (G : GS) (r : Nat) : 0 ≤ usT G r := by
  have := usS_nn (xof G.1) r G.1.length
  unfold usT
  omega
theorem szU {G : GS} (hW : WFG G) {r : Nat} (hr : r < G.1.length) : ∀ (d : Nat), r + d + 1 ≤ G.1.length → smN (fun j => ((xof (unrG G r).1 j).length : Int)) (r + d) = smN (fun j => ((xof G.1 j).length : Int)) (r + d + 1) - ((xof G.1 r).length : Int) + usS (xof G.1) r (r + d + 1) * (((xof G.1 r).length : Int) - 1)
  | 0, h => by
    rw [Nat.add_zero, smN, usS_none hW (r + 1) (Nat.le_refl _) (by omega), Int.zero_mul, fl_smN (g := fun j => ((xof G.1 j).length : Int)) (fun j hj => by rw [xof_unr hr (by omega), if_pos hj])]
    omega
  | d + 1, h => by
    have ih := szU hW hr d (by omega)
    rw [show r + (d + 1) = r + d + 1 by omega, smN, smN, usS, Int.add_mul, ih, xof_unr hr (by omega), if_neg (by omega)]
    have hu := unr_length (8 + (r : Int)) (xof G.1 r) (xof G.1 (r + d + 1))
    omega
theorem szG_unr {G : GS} (hW : WFG G) {r : Nat} (hr : r < G.1.length) : szG (unrG G r) = szG G - ((xof G.1 r).length : Int) + usT G r * (((xof G.1 r).length : Int) - 1) := by
  have h1 := szU hW hr (G.1.length - 1 - r) (by omega)
  have h2 := unr_length (8 + (r : Int)) (xof G.1 r) G.2
  rw [show r + (G.1.length - 1 - r) = G.1.length - 1 by omega, show G.1.length - 1 + 1 = G.1.length by omega] at h1
  unfold szG usT
  rw [unrG_len hr, h1, Int.add_mul, show (unrG G r).2 = unr (8 + (r : Int)) (xof G.1 r) G.2 from rfl]
  omega
theorem nextP_use {G : GS} {r : Nat} (h : nextP G = some r) : usT G r < 2 := by
  unfold nextP at h
  rw [List.find?_range_eq_some] at h
  obtain ⟨h1, h2, h3⟩ := h
  unfold seldB at h1
  rw [Bool.and_eq_true, decide_eq_true_eq] at h1
  exact h1.1
theorem prune_len : ∀ (n : Nat) (G : GS), (prune n G).1.1.length + (prune n G).2 = G.1.length
  | 0, _ => rfl
  | n + 1, G => by
    rw [prune]
    cases e : nextP G with
    | none => rfl
    | some r =>
      have hr := (nextP_some e).1
      have := prune_len n (unrG G r)
      rw [unrG_len hr] at this
      dsimp only
      omega
theorem szG_prune : ∀ (n : Nat) (G : GS), WFG G → szG (prune n G).1 ≤ szG G
  | 0, _, _ => Int.le_refl _
  | n + 1, G, hW => by
    rw [prune]
    cases e : nextP G with
    | none => exact Int.le_refl _
    | some r =>
      have hr := (nextP_some e).1
      have h1 := szG_prune n _ (hW.unr hr)
      have h2 := szG_unr hW hr
      have h3 := usT_nn G r
      have h4 := nextP_use e
      have h5 := hW.2.2 r hr
      dsimp only
      rcases (show usT G r = 0 ∨ usT G r = 1 by omega) with q | q
      · rw [q, Int.zero_mul] at h2
        omega
      · rw [q, Int.one_mul] at h2
        omega
theorem could_le {G : GS} (hW : WFG G) : spCould G ≤ szG G := by
  have h1 := szG_prune 26 _ (foldN_wf 26 G hW)
  have h2 := szG_foldN 26 G
  unfold spCould
  omega
/-! What the calls do, as they are seen. -/
theorem same_wl {G H : GS} (hG : OKG G) (hH : OKG H) (h : (wordG H).length = (wordG G).length) : wlG H = wlG G := by
  rw [← word_len hG, ← word_len hH, h]
theorem best_fold {G : GS} : (spBest 2 G < 2 ∨ G.1.length = 26) → G.1.length ≤ 26 → foldB G = false := by
  intro h h26
  rw [← Bool.not_eq_true]
  intro hb
  have hb0 := foldB_iff.mp hb
  rcases h with h | h
  · unfold spBest at h
    rw [if_pos (by omega)] at h
    by_cases hl : G.2.length < 2
    · rw [bstA_none hl] at hb0
      omega
    · rw [if_neg hl, if_neg (by omega), if_neg (by omega)] at h
      omega
  · omega
theorem best_nofold {G : GS} (h : ¬ (spBest 2 G < 2 ∨ G.1.length = 26)) (h26 : G.1.length ≤ 26) : foldB G = true := by
  refine foldB_iff.mpr ⟨by omega, ?_⟩
  unfold spBest at h
  rw [if_pos (by omega)] at h
  by_cases hl : G.2.length < 2
  · rw [if_pos hl] at h
    omega
  · rw [if_neg hl, if_neg (by omega), if_neg (by omega)] at h
    omega
theorem fold_fact {S : ST} {t : Int} (h : OKS S) (h26 : S.1.1.length ≤ 26) (ht : 1 ≤ t ∧ t ≤ 26) : wordG (spFold t S).2.1 = wordG S.1 ∧ ((spBest 2 S.1 < 2 ∨ S.1.1.length = 26) → (spFold t S).1 = -5) ∧ (¬ (spBest 2 S.1 < 2 ∨ S.1.1.length = 26) → 1 ≤ (spFold t S).1 ∧ (spFold t S).1 ≤ t ∧ ((spFold t S).2.1.1.length : Int) = S.1.1.length + (spFold t S).1 ∧ szG (spFold t S).2.1 ≤ szG S.1) := by
  unfold spFold
  rw [if_pos ht]
  have hle := foldN_le t.toNat S.1
  have hln := foldN_len t.toNat S.1
  have hsz := szG_foldN t.toNat S.1
  refine ⟨?_, fun hc => ?_, fun hc => ?_⟩
  · split
    · rfl
    · exact word_foldN _ _ h.1.1
  · rw [foldN_0 (Or.inr (best_fold hc h26)), if_pos rfl]
  · have hp := foldN_pos (n := t.toNat) (by omega) (best_nofold hc h26)
    rw [if_neg (by omega)]
    refine ⟨by omega, by dsimp only; omega, ?_, hsz⟩
    show (((foldN t.toNat S.1).1.1.length : Nat) : Int) = _
    rw [hln]
    dsimp only
    omega
theorem unroll_fact {S : ST} {r : Int} (h : OKS S) (h0 : 0 ≤ r) : wordG (spUnroll r S).2.1 = wordG S.1 ∧ (r = S.1.1.length → (spUnroll r S).1 = -1) ∧ (r < S.1.1.length → ((spUnroll r S).1 = -4 ∧ (spUnroll r S).2 = S) ∨ ((spUnroll r S).1 = usT S.1 r.toNat ∧ ((spUnroll r S).2.1.1.length : Int) = S.1.1.length - 1 ∧ szG (spUnroll r S).2.1 = szG S.1 - ((xof S.1.1 r.toNat).length : Int) + usT S.1 r.toNat * (((xof S.1.1 r.toNat).length : Int) - 1))) := by
  unfold spUnroll
  refine ⟨?_, fun e => by rw [if_neg (by omega)], fun e => ?_⟩
  · split
    · split
      · exact word_unr h.1.1 (by omega)
      · rfl
    · rfl
  · rw [if_pos ⟨h0, e⟩]
    split
    · right
      refine ⟨rfl, ?_, szG_unr h.1.1 (by omega)⟩
      show (((unrG S.1 r.toNat).1.length : Nat) : Int) = _
      rw [unrG_len (by omega)]
      omega
    · exact Or.inl ⟨rfl, rfl⟩
theorem prune_fact {S : ST} (h : OKS S) : wordG (spPrune S).2.1 = wordG S.1 ∧ 0 ≤ (spPrune S).1 ∧ ((spPrune S).2.1.1.length : Int) = S.1.1.length - (spPrune S).1 := by
  have hl := prune_len 26 S.1
  refine ⟨word_prune _ _ h.1.1, Int.natCast_nonneg _, ?_⟩
  show (((prune 26 S.1).1.1.length : Nat) : Int) = S.1.1.length - (((prune 26 S.1).2 : Nat) : Int)
  omega
theorem szG_mn {R : List (List Int)} {mn mn' : List Int} (h : mn.length = mn'.length) : szG (R, mn) = szG (R, mn') := by
  show (mn.length : Int) + _ = (mn'.length : Int) + _
  rw [h]
theorem edit_fact {S : ST} {p l : Int} (h : OKS S) (hp : 0 ≤ p ∧ p ≤ wlG S.1) (hl : 0 ≤ l ∧ l < 8) (hW : WFG (spEdit p l S).2.1) :
    (p = wlG S.1 → (spEdit p l S).1 = -1) ∧ (p < wlG S.1 → (spEdit p l S).1 = -4 ∨ ((spEdit p l S).1 = spLetter p S.1 ∧ spLetter p (spEdit p l S).2.1 = l ∧ spOpens p (spEdit p l S).2.1 = 0 ∧ wlG (spEdit p l S).2.1 = wlG S.1 ∧ (spEdit p l S).2.1.1.length = S.1.1.length ∧ (0 < spOpens p S.1 ∨ szG (spEdit p l S).2.1 = szG S.1))) := by
  have hK := (OKS_edit h hW).1
  refine ⟨fun e => by unfold spEdit; rw [if_neg (by omega)], fun hlt => ?_⟩
  have hpw : 0 ≤ p ∧ p < wlG S.1 := ⟨hp.1, hlt⟩
  unfold spEdit at hK ⊢
  rw [if_pos hpw, if_pos hl] at hK ⊢
  cases e : opn S.1 p with
  | none => exact Or.inl rfl
  | some z =>
    right
    rw [e] at hK
    obtain ⟨mn2, z⟩ := z
    obtain ⟨b1, b2, b3, b4, b5, b6, b7, b8, b9⟩ := opn_word h.1 hpw e
    have hK : OKG (S.1.1, rset mn2 z l) := hK
    show rat mn2 z = spLetter p S.1 ∧ spLetter p (S.1.1, rset mn2 z l) = l ∧ spOpens p (S.1.1, rset mn2 z l) = 0 ∧ wlG (S.1.1, rset mn2 z l) = wlG S.1 ∧ S.1.1.length = S.1.1.length ∧ (0 < spOpens p S.1 ∨ szG (S.1.1, rset mn2 z l) = szG S.1)
    have er := rset_split (xs := mn2) (l := l) b2 b3
    have ew : wordG (S.1.1, rset mn2 z l) = (mn2.take z.toNat).flatMap (wd S.1) ++ l :: (mn2.drop (z.toNat + 1)).flatMap (wd S.1) := word_of hl.2 rfl er
    have ewl : wlG (S.1.1, rset mn2 z l) = wlG S.1 := same_wl h.1 hK (by rw [ew, b8]; simp)
    have e1 : spLetter p S.1 = rat mn2 z := by
      rw [letter_word h.1 hpw.1 hpw.2, b8, rat_appr (by omega), show p - (((mn2.take z.toNat).flatMap (wd S.1)).length : Int) = 0 by omega]
      rfl
    have e2 : spLetter p (S.1.1, rset mn2 z l) = l := by
      rw [letter_word hK hpw.1 (by omega), ew, rat_appr (by omega), show p - (((mn2.take z.toNat).flatMap (wd S.1)).length : Int) = 0 by omega]
      rfl
    have hly : lyG (S.1.1, rset mn2 z l) = lyG S.1 := rfl
    have e3 : posL (lyG S.1) (rset mn2 z l) p = z := by
      rw [er]
      have := posL_at (f := lyG S.1) (fun s => (lyG_bd h.1.1 s).1) (a := mn2.take z.toNat) (b := mn2.drop (z.toNat + 1)) (x := l) (by rw [lyG_letter hl.2]; omega)
      rw [b7] at this
      rw [this, List.length_take]
      omega
    have e4 : rat (rset mn2 z l) z = l := by
      rw [er, rat_appr (by rw [List.length_take]; omega), List.length_take, show z - ((min z.toNat mn2.length : Nat) : Int) = 0 by omega]
      rfl
    refine ⟨e1.symm, e2, ?_, ewl, rfl, ?_⟩
    · unfold spOpens
      rw [if_pos (by omega)]
      exact fol_zero (by rw [hly, show ((S.1.1, rset mn2 z l) : GS).2 = rset mn2 z l from rfl, e3, e4]; exact hl.2)
    · by_cases ho : 0 < spOpens p S.1
      · exact Or.inl ho
      · right
        unfold spOpens at ho
        rw [if_pos hpw] at ho
        have h8 := fol_pos (f := lyG S.1) (X := xof S.1.1) (q := p) (by omega) (fun s hs => (h.1.1.2.1 s hs).2)
        have em : mn2 = S.1.2 := by
          unfold opn at e
          rw [opnF, if_neg (by omega)] at e
          cases e
          rfl
        rw [show S.1 = (S.1.1, S.1.2) from rfl]
        refine szG_mn ?_
        rw [er, em]
        rw [em] at b3
        simp
        omega
theorem spot_word {G : GS} (h : OKG G) {p : Int} (hp : 0 ≤ p ∧ p ≤ wlG G) {z : List Int × Int} (e : spotI G p = some z) : wordG G = (z.1.take z.2.toNat).flatMap (wd G) ++ (z.1.drop z.2.toNat).flatMap (wd G) ∧ (((z.1.take z.2.toNat).flatMap (wd G)).length : Int) = p := by
  have hwl := h.wl
  unfold spotI at e
  by_cases hb : sumL (lyG G) (G.2.take (posL (lyG G) G.2 p).toNat) = p
  · rw [if_pos hb] at e
    cases e
    refine ⟨?_, ?_⟩
    · dsimp only
      rw [← List.flatMap_append, List.take_append_drop, word_flat]
    · dsimp only
      rw [wd_len h (fun s hs => (h.1.2.1 s (List.mem_of_mem_take hs)).2), hb]
  · rw [if_neg hb] at e
    have hlt : p < wlG G := by
      rcases Int.lt_or_le p (wlG G) with w | w
      · exact w
      · exfalso
        apply hb
        have hpb := posL_bd (lyG G) G.2 p
        have e9 := posL_ge (fun s => (lyG_bd h.1 s).1) G.2 p (by omega)
        rw [e9, List.take_of_length_le (by omega)]
        omega
    obtain ⟨mn2, z⟩ := z
    obtain ⟨b1, b2, b3, b4, b5, b6, b7, b8, b9⟩ := opn_word h ⟨hp.1, hlt⟩ e
    refine ⟨?_, b9⟩
    dsimp only
    rw [b8, drop_at b2 b3, List.flatMap_cons, wd_letter b5, show (z + 1).toNat = z.toNat + 1 by omega]
    rfl
theorem insert_fact {S : ST} {p l : Int} (h : OKS S) (hp : 0 ≤ p ∧ p ≤ wlG S.1) (hl : 0 ≤ l ∧ l < 8) (hW : WFG (spInsert p l S).2.1) :
    (spInsert p l S).1 = -4 ∨ ((spInsert p l S).1 = wlG S.1 + 1 ∧ spLetter p (spInsert p l S).2.1 = l ∧ spLetter (wlG S.1) (spInsert p l S).2.1 = if p = wlG S.1 then l else spLetter (wlG S.1 - 1) S.1) := by
  have hK := (OKS_insert h hW).1
  unfold spInsert at hK ⊢
  rw [if_pos hp, if_pos hl] at hK ⊢
  cases e : spotI S.1 p with
  | none => exact Or.inl rfl
  | some z =>
    rw [e] at hK
    dsimp only at hK ⊢
    by_cases h9 : wlG S.1 = 9999 ∨ z.1.length = 80
    · rw [if_pos h9]
      exact Or.inl rfl
    · right
      rw [if_neg h9] at hK ⊢
      obtain ⟨c1, c2⟩ := spot_word h.1 hp e
      have hK : OKG (S.1.1, z.1.take z.2.toNat ++ l :: z.1.drop z.2.toNat) := hK
      show wlG S.1 + 1 = wlG S.1 + 1 ∧ spLetter p (S.1.1, z.1.take z.2.toNat ++ l :: z.1.drop z.2.toNat) = l ∧ spLetter (wlG S.1) (S.1.1, z.1.take z.2.toNat ++ l :: z.1.drop z.2.toNat) = if p = wlG S.1 then l else spLetter (wlG S.1 - 1) S.1
      have ew : wordG (S.1.1, z.1.take z.2.toNat ++ l :: z.1.drop z.2.toNat) = (z.1.take z.2.toNat).flatMap (wd S.1) ++ l :: (z.1.drop z.2.toNat).flatMap (wd S.1) := word_of hl.2 rfl rfl
      generalize (z.1.take z.2.toNat).flatMap (wd S.1) = A at *
      generalize (z.1.drop z.2.toNat).flatMap (wd S.1) = B at *
      have w1 := word_len h.1
      have w2 := word_len hK
      rw [c1, List.length_append] at w1
      rw [ew, List.length_append, List.length_cons] at w2
      refine ⟨rfl, ?_, ?_⟩
      · rw [letter_word hK hp.1 (by omega), ew, rat_appr (by omega), show p - (A.length : Int) = 0 by omega]
        rfl
      · rw [letter_word hK (by omega) (by omega), ew, rat_appr (by omega)]
        by_cases q : p = wlG S.1
        · rw [if_pos q, show wlG S.1 - (A.length : Int) = 0 by omega]
          rfl
        · rw [if_neg q, letter_word h.1 (by omega) (by omega), c1, rat_appr (by omega), show wlG S.1 - (A.length : Int) = 1 + (wlG S.1 - 1 - (A.length : Int)) by omega, rat_cons (by omega)]
theorem delete_fact {S : ST} {p : Int} (h : OKS S) (hp : 0 ≤ p ∧ p ≤ wlG S.1) (hW : WFG (spDelete p S).2.1) :
    (p = wlG S.1 → (spDelete p S).1 = -1) ∧ (p < wlG S.1 → (spDelete p S).1 = -4 ∨ ((spDelete p S).1 = spLetter p S.1 ∧ wlG (spDelete p S).2.1 = wlG S.1 - 1 ∧ spLetter p (spDelete p S).2.1 = spLetter (p + 1) S.1)) := by
  have hK := (OKS_delete h hW).1
  refine ⟨fun e => by unfold spDelete; rw [if_neg (by omega)], fun hlt => ?_⟩
  have hpw : 0 ≤ p ∧ p < wlG S.1 := ⟨hp.1, hlt⟩
  unfold spDelete at hK ⊢
  rw [if_pos hpw] at hK ⊢
  cases e : opn S.1 p with
  | none => exact Or.inl rfl
  | some z =>
    right
    rw [e] at hK
    obtain ⟨mn2, z⟩ := z
    obtain ⟨b1, b2, b3, b4, b5, b6, b7, b8, b9⟩ := opn_word h.1 hpw e
    have hK : OKG (S.1.1, mn2.take z.toNat ++ mn2.drop (z.toNat + 1)) := hK
    show rat mn2 z = spLetter p S.1 ∧ wlG (S.1.1, mn2.take z.toNat ++ mn2.drop (z.toNat + 1)) = wlG S.1 - 1 ∧ spLetter p (S.1.1, mn2.take z.toNat ++ mn2.drop (z.toNat + 1)) = spLetter (p + 1) S.1
    have ew : wordG (S.1.1, mn2.take z.toNat ++ mn2.drop (z.toNat + 1)) = (mn2.take z.toNat).flatMap (wd S.1) ++ (mn2.drop (z.toNat + 1)).flatMap (wd S.1) := by
      rw [word_flat, List.flatMap_append]
      rfl
    generalize (mn2.take z.toNat).flatMap (wd S.1) = A at *
    generalize (mn2.drop (z.toNat + 1)).flatMap (wd S.1) = B at *
    have w1 := word_len h.1
    have w2 := word_len hK
    rw [b8, List.length_append, List.length_cons] at w1
    rw [ew, List.length_append] at w2
    refine ⟨?_, by omega, ?_⟩
    · rw [letter_word h.1 hpw.1 hpw.2, b8, rat_appr (by omega), show p - (A.length : Int) = 0 by omega]
      rfl
    · by_cases q : p + 1 < wlG S.1
      · rw [letter_word hK hp.1 (by omega), letter_word h.1 (by omega) q, ew, b8, rat_appr (by omega), rat_appr (by omega), show p + 1 - (A.length : Int) = 1 + (p - (A.length : Int)) by omega, rat_cons (by omega)]
      · rw [letter_out (by omega), letter_out (by omega)]
