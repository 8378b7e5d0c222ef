/-! What calls answer when letters are turned round. -/
theorem fl_push (hist : List GS) (G : GS) : push (hist.map fl_G) (fl_G G) = (push hist G).map fl_G := by
  unfold push
  rw [List.length_map, List.map_append]
  split
  · rw [List.map_tail]
    rfl
  · rfl
theorem fl_acc (S : ST) (G : GS) : accS (fl_S S) (fl_G G) = fl_S (accS S G) := by
  unfold accS fl_S
  dsimp only
  rw [fl_push]
theorem fl_fold (t : Int) (S : ST) : spFold t (fl_S S) = ((spFold t S).1, fl_S (spFold t S).2) := by
  unfold spFold
  rw [show (fl_S S).1 = fl_G S.1 from rfl, fl_foldN]
  dsimp only
  split
  · split
    · rfl
    · rw [fl_acc]
  · rfl
theorem fl_unroll (r : Int) (S : ST) : spUnroll r (fl_S S) = ((spUnroll r S).1, fl_S (spUnroll r S).2) := by
  unfold spUnroll
  rw [show (fl_S S).1 = fl_G S.1 from rfl, fl_Gl, fl_canB, fl_usT, fl_unrG]
  split
  · split
    · rw [fl_acc]
    · rfl
  · rfl
theorem fl_spPrune (S : ST) : spPrune (fl_S S) = ((spPrune S).1, fl_S (spPrune S).2) := by
  unfold spPrune
  rw [show (fl_S S).1 = fl_G S.1 from rfl, fl_prune, fl_acc]
theorem fl_edit (p l : Int) (S : ST) : spEdit p (fl_s l) (fl_S S) = (fl_s (spEdit p l S).1, fl_S (spEdit p l S).2) := by
  unfold spEdit
  rw [show (fl_S S).1 = fl_G S.1 from rfl, fl_wlG, fl_opn]
  by_cases h : 0 ≤ p ∧ p < wlG S.1
  · rw [if_pos h, if_pos h]
    by_cases h2 : 0 ≤ l ∧ l < 8
    · rw [if_pos h2, if_pos ((fl_bd (by omega)).mpr h2)]
      cases opn S.1 p with
      | none => rfl
      | some z =>
        show (rat (fl_x z.1) z.2, accS (fl_S S) ((fl_G S.1).1, rset (fl_x z.1) z.2 (fl_s l))) = (fl_s (rat z.1 z.2), fl_S (accS S (S.1.1, rset z.1 z.2 l)))
        rw [fl_rat, fl_rset, ← fl_acc]
        rfl
    · rw [if_neg h2, if_neg (fun z => h2 ((fl_bd (by omega)).mp z))]
      rfl
  · rw [if_neg h, if_neg h]
    rfl
theorem fl_delete (p : Int) (S : ST) : spDelete p (fl_S S) = (fl_s (spDelete p S).1, fl_S (spDelete p S).2) := by
  unfold spDelete
  rw [show (fl_S S).1 = fl_G S.1 from rfl, fl_wlG, fl_opn]
  by_cases h : 0 ≤ p ∧ p < wlG S.1
  · rw [if_pos h, if_pos h]
    cases opn S.1 p with
    | none => rfl
    | some z =>
      show (rat (fl_x z.1) z.2, accS (fl_S S) ((fl_G S.1).1, (fl_x z.1).take z.2.toNat ++ (fl_x z.1).drop (z.2.toNat + 1))) = (fl_s (rat z.1 z.2), fl_S (accS S (S.1.1, z.1.take z.2.toNat ++ z.1.drop (z.2.toNat + 1))))
      rw [fl_rat, ← fl_take, ← fl_drop, ← fl_app, ← fl_acc]
      rfl
  · rw [if_neg h, if_neg h]
    rfl
theorem fl_insert (p l : Int) (S : ST) : spInsert p (fl_s l) (fl_S S) = ((spInsert p l S).1, fl_S (spInsert p l S).2) := by
  unfold spInsert
  rw [show (fl_S S).1 = fl_G S.1 from rfl, fl_wlG, fl_spotI]
  by_cases h : 0 ≤ p ∧ p ≤ wlG S.1
  · rw [if_pos h, if_pos h]
    by_cases h2 : 0 ≤ l ∧ l < 8
    · rw [if_pos h2, if_pos ((fl_bd (by omega)).mpr h2)]
      cases spotI S.1 p with
      | none => rfl
      | some z =>
        show (if wlG S.1 = 9999 ∨ (fl_x z.1).length = 80 then ((-4 : Int), fl_S S) else (wlG S.1 + 1, accS (fl_S S) ((fl_G S.1).1, (fl_x z.1).take z.2.toNat ++ fl_s l :: (fl_x z.1).drop z.2.toNat))) = ((if wlG S.1 = 9999 ∨ z.1.length = 80 then ((-4 : Int), S) else (wlG S.1 + 1, accS S (S.1.1, z.1.take z.2.toNat ++ l :: z.1.drop z.2.toNat))).1, fl_S (if wlG S.1 = 9999 ∨ z.1.length = 80 then ((-4 : Int), S) else (wlG S.1 + 1, accS S (S.1.1, z.1.take z.2.toNat ++ l :: z.1.drop z.2.toNat))).2)
        rw [fl_len]
        split
        · rfl
        · rw [← fl_take, ← fl_drop, ← fl_cons, ← fl_app, ← fl_acc]
          rfl
    · rw [if_neg h2, if_neg (fun z => h2 ((fl_bd (by omega)).mp z))]
  · rw [if_neg h, if_neg h]
theorem fl_undo (S : ST) : spUndo (fl_S S) = ((spUndo S).1, fl_S (spUndo S).2) := by
  unfold spUndo
  rw [show (fl_S S).2.2.1 = S.2.2.1.map fl_G from rfl, List.getLast?_map]
  cases S.2.2.1.getLast? with
  | none => rfl
  | some G =>
    show (((S.2.2.1.map fl_G).length : Int) - 1, (fl_G G, S.2.1.map fl_c, (S.2.2.1.map fl_G).dropLast, (fl_S S).2.2.2)) = ((S.2.2.1.length : Int) - 1, fl_S (G, S.2.1, S.2.2.1.dropLast, S.2.2.2))
    rw [List.length_map, ← List.map_dropLast]
    rfl
theorem fl_save (i : Int) (S : ST) : spSave i (fl_S S) = ((spSave i S).1, fl_S (spSave i S).2) := by
  unfold spSave
  rw [show (fl_S S).1 = fl_G S.1 from rfl, fl_Gl]
  split
  · show ((S.1.1.length : Int), (fl_G S.1, S.2.1.map fl_c, S.2.2.1.map fl_G, fun j => if j = i.toNat then some (fl_G S.1) else (S.2.2.2 j).map fl_G)) = ((S.1.1.length : Int), (fl_G S.1, S.2.1.map fl_c, S.2.2.1.map fl_G, fun j => (if j = i.toNat then some S.1 else S.2.2.2 j).map fl_G))
    congr 4
    funext j
    split <;> rfl
  · rfl
theorem fl_restore (i : Int) (S : ST) : spRestore i (fl_S S) = ((spRestore i S).1, fl_S (spRestore i S).2) := by
  unfold spRestore
  split
  · rw [show (fl_S S).2.2.2 i.toNat = (S.2.2.2 i.toNat).map fl_G from rfl]
    cases S.2.2.2 i.toNat with
    | none => rfl
    | some G =>
      show (((fl_G G).1.length : Int), accS (fl_S S) (fl_G G)) = ((G.1.length : Int), fl_S (accS S G))
      rw [fl_Gl, fl_acc]
  · rfl
theorem fl_unlike (i : Int) (S : ST) : spUnlike i (fl_S S) = spUnlike i S := by
  unfold spUnlike
  split
  · rw [show (fl_S S).2.2.2 i.toNat = (S.2.2.2 i.toNat).map fl_G from rfl]
    cases S.2.2.2 i.toNat with
    | none => rfl
    | some G =>
      show dif 0 (wordG (fl_G S.1)) (wordG (fl_G G)) = dif 0 (wordG S.1) (wordG G)
      rw [fl_word, fl_word, fl_dif]
  · rfl
theorem fl_mxN {f g : Nat → Int} : ∀ {N : Nat}, (∀ j, j < N → f j = g j) → mxN f N = mxN g N
  | 0, _ => rfl
  | n + 1, h => by rw [mxN, mxN, fl_mxN (fun j hj => h j (by omega)), h n (by omega)]
theorem fl_count (w : Int) (S : ST) : spCount w (fl_S S) = spCount w S := by
  unfold spCount
  rw [show (fl_S S).1 = fl_G S.1 from rfl, fl_wlG, fl_Gl, fl_szG, fl_dpG, show (fl_G S.1).2 = fl_x S.1.2 from rfl, fl_len, show (fl_S S).2.1 = S.2.1.map fl_c from rfl, List.length_map, show (fl_S S).2.2.1 = S.2.2.1.map fl_G from rfl, List.length_map, fl_smN (fun j _ => by rw [fl_usT])]
theorem fl_ofRule (r w : Int) (G : GS) : spOfRule r w (fl_G G) = spOfRule r w G := by
  unfold spOfRule
  rw [fl_Gl, fl_Gx, fl_len, fl_ltG, fl_usT, fl_dpG]
theorem fl_row (G : GS) (r : Int) : spRow (fl_G G) r = fl_x (spRow G r) := by
  unfold spRow
  rw [fl_Gl, fl_Gx]
  split <;> rfl
theorem fl_symbol (r p : Int) (G : GS) : spSymbol r p (fl_G G) = fl_s (spSymbol r p G) := by
  unfold spSymbol
  rw [fl_Gl, fl_row, fl_len, fl_rat]
  split
  · rfl
  · split <;> rfl
theorem fl_letter (p : Int) (G : GS) : spLetter p (fl_G G) = fl_s (spLetter p G) := by
  unfold spLetter
  rw [fl_wlG, fl_lyG, fl_Gl, show xof (fl_G G).1 = fun i => fl_x (xof G.1 i) from funext (fl_Gx G), show (fl_G G).2 = fl_x G.2 from rfl, fl_fol (fl_lyI G)]
  split <;> rfl
theorem fl_opens (p : Int) (G : GS) : spOpens p (fl_G G) = spOpens p G := by
  unfold spOpens
  rw [fl_wlG, fl_lyG, fl_Gl, show xof (fl_G G).1 = fun i => fl_x (xof G.1 i) from funext (fl_Gx G), show (fl_G G).2 = fl_x G.2 from rfl, fl_fol (fl_lyI G)]
theorem fl_could (G : GS) : spCould (fl_G G) = spCould G := by
  unfold spCould
  rw [fl_foldN, fl_prune, fl_szG]
theorem fl_ratio (G : GS) : spRatio (fl_G G) = spRatio G := by
  unfold spRatio
  rw [fl_wlG, fl_szG]
theorem fl_share {k : Int} (h : 0 ≤ k ∧ k < 8) (G : GS) : spShare (7 - k) (fl_G G) = spShare k G := by
  unfold spShare
  have e := fl_cntE k (wordG G)
  rw [fl_low h.1 (by omega)] at e
  rw [fl_word, fl_wlG, e, if_pos h, if_pos (by omega)]
/-! how often pairs come -/
theorem cnt2_pos {f s : Int} : ∀ (n : Nat) (xs : List Int) (p : Nat), xs.length ≤ n → p + 1 < xs.length → rat xs p = f → rat xs (p + 1 : Nat) = s → 1 ≤ cnt2 f s xs
  | 0, xs, p, h, h1, _, _ => by omega
  | n + 1, [], p, _, h1, _, _ => by simp at h1
  | n + 1, [x], p, _, h1, _, _ => by simp at h1
  | n + 1, x :: y :: r, p, h, h1, e1, e2 => by
    rw [cnt2]
    split
    · omega
    · rename_i hc
      cases p with
      | zero => exact absurd ⟨e1, e2⟩ hc
      | succ p =>
        rw [List.length_cons] at h h1
        refine cnt2_pos n (y :: r) p (by omega) (by omega) ?_ ?_
        · rw [← e1, show (((p + 1 : Nat)) : Int) = 1 + (p : Int) by omega, rat_cons (by omega)]
        · rw [← e2, show (((p + 1 + 1 : Nat)) : Int) = 1 + ((p + 1 : Nat) : Int) by omega, rat_cons (by omega)]
theorem bst_most {xs : List Int} {z : Int × Int × Int} : ∀ (n j : Nat), j < n → (cnt2 (rat xs j) (rat xs (j + 1 : Nat)) xs : Int) ≤ (bst xs z n).2.2
  | 0, j, h => absurd h (Nat.not_lt_zero j)
  | n + 1, j, h => by
    rw [bst]
    by_cases he : j = n
    · subst he
      split
      · exact Int.le_refl _
      · omega
    · have ih := bst_most (xs := xs) (z := z) n j (by omega)
      split
      · dsimp only
        omega
      · exact ih
theorem bst_is {xs : List Int} {f s : Int} : ∀ n : Nat, 0 < (bst xs (f, s, 0) n).2.2 → (cnt2 (bst xs (f, s, 0) n).1 (bst xs (f, s, 0) n).2.1 xs : Int) = (bst xs (f, s, 0) n).2.2
  | 0, h => by
    rw [bst] at h
    exact absurd h (Int.lt_irrefl 0)
  | n + 1, h => by
    rw [bst] at h ⊢
    split
    · rfl
    · rename_i hc
      rw [if_neg hc] at h
      exact bst_is n h
theorem bstA_most {xs : List Int} {j : Nat} (h : j + 1 < xs.length) : 1 ≤ (cnt2 (rat xs j) (rat xs (j + 1 : Nat)) xs : Int) ∧ (cnt2 (rat xs j) (rat xs (j + 1 : Nat)) xs : Int) ≤ (bstAll xs 0 0).2.2 := by
  have h1 := cnt2_pos _ xs j (Nat.le_refl _) h rfl rfl
  exact ⟨by omega, bst_most (xs.length - 1) j (by omega)⟩
theorem bstA_pos {xs : List Int} (h : 2 ≤ xs.length) : 0 < (bstAll xs 0 0).2.2 := by
  have := bstA_most (xs := xs) (j := 0) (by omega)
  omega
theorem bstA_none {xs : List Int} (h : xs.length < 2) : (bstAll xs 0 0).2.2 = 0 := by
  unfold bstAll
  rw [show xs.length - 1 = 0 by omega, bst]
theorem fl_best {w : Int} (h : w = 0 ∨ w = 1) (G : GS) : spBest w (fl_G G) = fl_s (spBest w G) := by
  unfold spBest
  rw [show (fl_G G).2 = fl_x G.2 from rfl, fl_len]
  by_cases hl : G.2.length < 2
  · rcases h with rfl | rfl
    · rw [if_pos (by omega), if_pos hl, if_pos (by omega), if_pos hl]; rfl
    · rw [if_pos (by omega), if_pos hl, if_pos (by omega), if_pos hl]; rfl
  · have hb := (fl_bstA G.2).2 (bstA_pos (by omega))
    rw [hb]
    rcases h with rfl | rfl
    · rw [if_pos (by omega), if_neg hl, if_pos rfl, if_pos (by omega), if_neg hl, if_pos rfl]
      rfl
    · rw [if_pos (by omega), if_neg hl, if_neg (by omega), if_pos rfl, if_pos (by omega), if_neg hl, if_neg (by omega), if_pos rfl]
      rfl
theorem fl_best2 (G : GS) : spBest 2 (fl_G G) = spBest 2 G := by
  unfold spBest
  rw [show (fl_G G).2 = fl_x G.2 from rfl, fl_len, (fl_bstA G.2).1]
  rfl
theorem fl_OKS {S : ST} (h : OKS S) : OKS (fl_S S) := by
  obtain ⟨h1, h2, h3, h4⟩ := h
  refine ⟨fl_OKG h1, fun x hx => ?_, fun G hG => ?_, fun i G hi e => ?_⟩
  · obtain ⟨c, q1, q2⟩ := List.mem_map.mp hx
    have := h2 c q1
    rw [← q2]
    unfold fl_c
    split <;> omega
  · obtain ⟨H, q1, q2⟩ := List.mem_map.mp hG
    rw [← q2]
    exact fl_OKG (h3 H q1)
  · have e : (S.2.2.2 i).map fl_G = some G := e
    cases hs : S.2.2.2 i with
    | none => rw [hs] at e; cases e
    | some H =>
      rw [hs] at e
      cases e
      exact fl_OKG (h4 i H hi hs)
