/-! Letters turned round: h for a, g for b and so on; what a grammar's numbers make of it. -/
def fl_s (s : Int) : Int := if s < 0 ∨ 7 < s then s else 7 - s
def fl_x (xs : List Int) : List Int := xs.map fl_s
def fl_G (G : GS) : GS := (G.1.map fl_x, fl_x G.2)
/-- a letter's code turned round -/
def fl_c (c : Int) : Int := if 97 ≤ c ∧ c ≤ 104 then 201 - c else c
def fl_S (S : ST) : ST := (fl_G S.1, S.2.1.map fl_c, S.2.2.1.map fl_G, fun j => (S.2.2.2 j).map fl_G)
theorem fl_fl (s : Int) : fl_s (fl_s s) = s := by
  by_cases h : s < 0 ∨ 7 < s
  · have e : fl_s s = s := if_pos h
    rw [e, e]
  · have e : fl_s s = 7 - s := if_neg h
    rw [e]
    show (if 7 - s < 0 ∨ 7 < 7 - s then 7 - s else 7 - (7 - s)) = s
    rw [if_neg (by omega)]
    omega
theorem fl_inj {s t : Int} : fl_s s = fl_s t ↔ s = t := ⟨fun h => by rw [← fl_fl s, h, fl_fl], fun h => by rw [h]⟩
theorem fl_hi {s : Int} (h : 7 < s) : fl_s s = s := if_pos (Or.inr h)
theorem fl_neg {s : Int} (h : s < 0) : fl_s s = s := if_pos (Or.inl h)
theorem fl_low {s : Int} (h : 0 ≤ s) (h1 : s ≤ 7) : fl_s s = 7 - s := if_neg (by omega)
theorem fl_ge (s c : Int) (h : 8 ≤ c) : c ≤ fl_s s ↔ c ≤ s := by
  unfold fl_s
  split <;> omega
theorem fl_eqr (s c : Int) (h : 8 ≤ c) : fl_s s = c ↔ s = c := by
  unfold fl_s
  split <;> omega
theorem fl_eqn (s c : Int) (h : c < 0) : fl_s s = c ↔ s = c := by
  unfold fl_s
  split <;> omega
theorem fl_bd {s b : Int} (h : 8 ≤ b) : (0 ≤ fl_s s ∧ fl_s s < b) ↔ (0 ≤ s ∧ s < b) := by
  unfold fl_s
  split <;> omega
theorem fl_inR {s : Int} (h : inR s) : inR (fl_s s) := by
  obtain ⟨h1, h2⟩ := h
  unfold fl_s
  split
  · exact ⟨h1, h2⟩
  · exact ⟨by omega, by omega⟩
theorem fl_len (xs : List Int) : (fl_x xs).length = xs.length := by simp [fl_x]
theorem fl_app (xs ys : List Int) : fl_x (xs ++ ys) = fl_x xs ++ fl_x ys := by simp [fl_x]
theorem fl_cons (x : Int) (r : List Int) : fl_x (x :: r) = fl_s x :: fl_x r := rfl
theorem fl_take (xs : List Int) (n : Nat) : fl_x (xs.take n) = (fl_x xs).take n := by simp [fl_x, List.map_take]
theorem fl_drop (xs : List Int) (n : Nat) : fl_x (xs.drop n) = (fl_x xs).drop n := by simp [fl_x, List.map_drop]
theorem fl_xx (xs : List Int) : fl_x (fl_x xs) = xs := by
  induction xs with
  | nil => rfl
  | cons x r ih => rw [fl_cons, fl_cons, fl_fl, ih]
theorem fl_xof (R : List (List Int)) (k : Nat) : xof (R.map fl_x) k = fl_x (xof R k) := by
  unfold xof
  rw [List.getD_eq_getElem?_getD, List.getD_eq_getElem?_getD, List.getElem?_map]
  cases R[k]? <;> rfl
theorem fl_Gl (G : GS) : (fl_G G).1.length = G.1.length := by simp [fl_G]
theorem fl_Gx (G : GS) (k : Nat) : xof (fl_G G).1 k = fl_x (xof G.1 k) := fl_xof G.1 k
theorem fl_rat (xs : List Int) (p : Int) : rat (fl_x xs) p = fl_s (rat xs p) := by
  unfold rat fl_x
  split
  · rfl
  · rw [List.getD_eq_getElem?_getD, List.getD_eq_getElem?_getD, List.getElem?_map]
    cases xs[p.toNat]? <;> rfl
theorem fl_rset (xs : List Int) (p s : Int) : rset (fl_x xs) p (fl_s s) = fl_x (rset xs p s) := by
  unfold rset fl_x
  split
  · rfl
  · rw [List.map_set]
theorem fl_cntE (s : Int) : ∀ xs : List Int, cntE (fl_s s) (fl_x xs) = cntE s xs
  | [] => rfl
  | x :: r => by
    rw [fl_cons, cntE, cntE, fl_cntE s r]
    congr 1
    by_cases h : x = s
    · rw [if_pos h, if_pos (by rw [h])]
    · rw [if_neg h, if_neg (fun z => h (fl_inj.mp z))]
theorem fl_cntR {s : Int} (h : 8 ≤ s) (xs : List Int) : cntE s (fl_x xs) = cntE s xs := by
  have := fl_cntE s xs
  rwa [fl_hi (by omega)] at this
theorem fl_usS (X : Nat → List Int) (j : Nat) : ∀ k, usS (fun i => fl_x (X i)) j k = usS X j k
  | 0 => rfl
  | k + 1 => by rw [usS, usS, fl_usS X j k, fl_cntR (by omega)]
theorem fl_usT (G : GS) (j : Nat) : usT (fl_G G) j = usT G j := by
  unfold usT
  rw [fl_Gl, show xof (fl_G G).1 = fun i => fl_x (xof G.1 i) from funext (fl_Gx G), fl_usS, show (fl_G G).2 = fl_x G.2 from rfl, fl_cntR (by omega)]
theorem fl_sumL {f : Int → Int} (hf : ∀ s, f (fl_s s) = f s) : ∀ xs : List Int, sumL f (fl_x xs) = sumL f xs
  | [] => rfl
  | x :: r => by rw [fl_cons, sumL, sumL, hf, fl_sumL hf r]
theorem fl_lsy (N : Nat) (a : Nat → Int) (s : Int) : lsy N a (fl_s s) = lsy N a s := by
  by_cases h : 8 ≤ s
  · rw [fl_hi (by omega)]
  · unfold lsy
    rw [if_neg (by have := fl_ge s 8 (Int.le_refl 8); omega), if_neg (by omega)]
theorem fl_dsy (N : Nat) (a : Nat → Int) (s : Int) : dsy N a (fl_s s) = dsy N a s := by
  by_cases h : 8 ≤ s
  · rw [fl_hi (by omega)]
  · unfold dsy
    rw [if_neg (by have := fl_ge s 8 (Int.le_refl 8); omega), if_neg (by omega)]
theorem fl_mxD {f : Int → Int} (hf : ∀ s, f (fl_s s) = f s) : ∀ xs : List Int, mxD f (fl_x xs) = mxD f xs
  | [] => rfl
  | x :: r => by rw [fl_cons, mxD, mxD, hf, fl_mxD hf r]
theorem fl_fLt (G : GS) : fLt (fl_G G) = fLt G := funext fun j => funext fun a => by
  unfold fLt
  rw [fl_Gx, fl_sumL (fl_lsy j a)]
theorem fl_fDp (G : GS) : fDp (fl_G G) = fDp G := funext fun j => funext fun a => by
  unfold fDp
  rw [fl_Gx, fl_mxD (fl_dsy j a)]
theorem fl_ltG (G : GS) : ltG (fl_G G) = ltG G := by
  unfold ltG
  rw [fl_fLt, fl_Gl]
theorem fl_dpG (G : GS) : dpG (fl_G G) = dpG G := by
  unfold dpG
  rw [fl_fDp, fl_Gl]
theorem fl_lyG (G : GS) : lyG (fl_G G) = lyG G := by
  unfold lyG
  rw [fl_ltG, fl_Gl]
theorem fl_lyI (G : GS) (s : Int) : lyG G (fl_s s) = lyG G s := fl_lsy _ _ s
theorem fl_wlG (G : GS) : wlG (fl_G G) = wlG G := by
  unfold wlG
  rw [fl_lyG, show (fl_G G).2 = fl_x G.2 from rfl, fl_sumL (fl_lyI G)]
theorem fl_smN {f g : Nat → Int} : ∀ {N : Nat}, (∀ j, j < N → f j = g j) → smN f N = smN g N
  | 0, _ => rfl
  | n + 1, h => by rw [smN, smN, fl_smN (fun j hj => h j (by omega)), h n (by omega)]
theorem fl_szG (G : GS) : szG (fl_G G) = szG G := by
  unfold szG
  rw [fl_Gl, show (fl_G G).2 = fl_x G.2 from rfl, fl_len, fl_smN (fun j _ => by rw [fl_Gx, fl_len])]
theorem fl_tooB (G : GS) : tooB (fl_G G) = tooB G := by
  unfold tooB
  rw [fl_wlG, fl_Gl, fl_ltG]
theorem fl_mem {xs : List Int} {s : Int} : s ∈ fl_x xs ↔ fl_s s ∈ xs := by
  unfold fl_x
  rw [List.mem_map]
  constructor
  · rintro ⟨a, h1, h2⟩
    rw [← h2, fl_fl]
    exact h1
  · intro h
    exact ⟨_, h, fl_fl s⟩
theorem fl_WFG {G : GS} (h : WFG G) : WFG (fl_G G) := by
  obtain ⟨h1, h2, h3⟩ := h
  refine ⟨fun k hk s hs => ?_, fun s hs => ?_, fun k hk => ?_⟩
  · rw [fl_Gl] at hk
    rw [fl_Gx] at hs
    exact (fl_bd (by omega)).mp (h1 k hk _ (fl_mem.mp hs))
  · rw [fl_Gl]
    exact (fl_bd (by omega)).mp (h2 _ (fl_mem.mp hs))
  · rw [fl_Gl] at hk
    rw [fl_Gx, fl_len]
    exact h3 k hk
theorem fl_OKG {G : GS} (h : OKG G) : OKG (fl_G G) := by
  obtain ⟨h1, h2, h3⟩ := h
  refine ⟨fl_WFG h1, by rw [fl_wlG]; exact h2, fun j hj => ?_⟩
  rw [fl_Gl] at hj
  rw [fl_ltG]
  exact h3 j hj
/-! places -/
theorem fl_posL {f : Int → Int} (hf : ∀ s, f (fl_s s) = f s) : ∀ (xs : List Int) (q : Int), posL f (fl_x xs) q = posL f xs q
  | [], _ => rfl
  | x :: r, q => by rw [fl_cons, posL, posL, hf, fl_posL hf r]
def fl_z (z : List Int × Int) : List Int × Int := (fl_x z.1, z.2)
theorem fl_opnF {N : Nat} {X : Nat → List Int} {f : Int → Int} (hf : ∀ s, f (fl_s s) = f s) (q : Int) : ∀ (n : Nat) (mn : List Int), opnF N (fun i => fl_x (X i)) f q n (fl_x mn) = (opnF N X f q n mn).map fl_z
  | 0, _ => rfl
  | n + 1, mn => by
    rw [opnF, opnF, fl_posL hf, fl_rat]
    by_cases h : 8 ≤ rat mn (posL f mn q) ∧ rat mn (posL f mn q) < 8 + N
    · rw [fl_hi (by omega), if_pos h, if_pos h, fl_len, fl_len]
      split
      · rw [← fl_opnF hf q n, fl_app, fl_app, fl_take, fl_drop]
      · rfl
    · rw [if_neg h, if_neg]
      · rfl
      · intro z
        apply h
        have h1 := fl_ge (rat mn (posL f mn q)) 8 (Int.le_refl 8)
        have h2 := h1.mp z.1
        rw [fl_hi (by omega)] at z
        exact z
theorem fl_opn (G : GS) (p : Int) : opn (fl_G G) p = (opn G p).map fl_z := by
  unfold opn
  rw [fl_Gl, fl_lyG, show xof (fl_G G).1 = fun i => fl_x (xof G.1 i) from funext (fl_Gx G)]
  exact fl_opnF (fl_lyI G) p 27 G.2
theorem fl_spotI (G : GS) (p : Int) : spotI (fl_G G) p = (spotI G p).map fl_z := by
  unfold spotI
  rw [fl_lyG, show (fl_G G).2 = fl_x G.2 from rfl, fl_posL (fl_lyI G), ← fl_take, fl_sumL (fl_lyI G), fl_opn]
  split <;> rfl
theorem fl_fol {X : Nat → List Int} {f : Int → Int} (hf : ∀ s, f (fl_s s) = f s) : ∀ (n : Nat) (xs : List Int) (q : Int), fol f (fun i => fl_x (X i)) n (fl_x xs) q = (fl_s (fol f X n xs q).1, (fol f X n xs q).2)
  | 0, xs, q => by rw [fol, fol, fl_posL hf, fl_rat]
  | n + 1, xs, q => by
    rw [fol, fol, fl_posL hf, fl_rat, ← fl_take, fl_sumL hf]
    by_cases h : 8 ≤ rat xs (posL f xs q)
    · rw [fl_hi (by omega), if_pos h, if_pos h, fl_fol hf n]
    · rw [if_neg h, if_neg]
      intro z
      exact h ((fl_ge _ 8 (Int.le_refl 8)).mp z)
/-! rules that are unrolled -/
theorem fl_fitB {s : Int} (h : 8 ≤ s) (a xs : List Int) : fitB s (fl_x a) (fl_x xs) = fitB s a xs := by
  unfold fitB
  rw [fl_len, fl_len, fl_cntR h]
theorem fl_canB (G : GS) (r : Nat) : canB (fl_G G) r = canB G r := by
  unfold canB
  rw [fl_Gl, fl_Gx, show (fl_G G).2 = fl_x G.2 from rfl, fl_fitB (by omega)]
  congr 2
  funext k
  rw [fl_Gx, fl_fitB (by omega)]
theorem fl_seldB (G : GS) : seldB (fl_G G) = seldB G := funext fun r => by
  unfold seldB
  rw [fl_usT, fl_canB]
theorem fl_nextP (G : GS) : nextP (fl_G G) = nextP G := by
  unfold nextP
  rw [fl_Gl, fl_seldB]
theorem fl_unr1 {s : Int} (h : 8 ≤ s) (a : List Int) (x : Int) : unr1 s (fl_x a) (fl_s x) = fl_x (unr1 s a x) := by
  unfold unr1
  by_cases h1 : x = s
  · rw [if_pos h1, if_pos (by rw [h1, fl_hi (by omega)])]
  · rw [if_neg h1, if_neg (fun z => h1 ((fl_eqr x s h).mp z))]
    by_cases h2 : s < x
    · rw [if_pos h2, fl_hi (by omega), if_pos h2, fl_cons, fl_hi (by omega)]
      rfl
    · rw [if_neg h2, if_neg]
      · rfl
      · intro z
        have := (fl_ge x (s + 1) (by omega)).mp (by omega)
        omega
theorem fl_unr {s : Int} (h : 8 ≤ s) (a : List Int) : ∀ xs : List Int, unr s (fl_x a) (fl_x xs) = fl_x (unr s a xs)
  | [] => rfl
  | x :: r => by
    show (fl_s x :: fl_x r).flatMap (unr1 s (fl_x a)) = fl_x ((x :: r).flatMap (unr1 s a))
    rw [List.flatMap_cons, List.flatMap_cons, fl_app, fl_unr1 h]
    congr 1
    exact fl_unr h a r
theorem fl_unrG (G : GS) (r : Nat) : unrG (fl_G G) r = fl_G (unrG G r) := by
  unfold unrG
  rw [fl_Gx]
  show (_, _) = (_, _)
  congr 1
  · show (G.1.map fl_x).take r ++ ((G.1.map fl_x).drop (r + 1)).map _ = (G.1.take r ++ (G.1.drop (r + 1)).map _).map fl_x
    rw [List.map_append, List.map_take, ← List.map_drop, List.map_map, List.map_map]
    congr 2
    funext xs
    exact fl_unr (by omega) _ xs
  · exact fl_unr (by omega) _ G.2
theorem fl_prune : ∀ (n : Nat) (G : GS), prune n (fl_G G) = (fl_G (prune n G).1, (prune n G).2)
  | 0, _ => rfl
  | n + 1, G => by
    rw [prune, prune, fl_nextP]
    cases nextP G with
    | none => rfl
    | some r =>
      dsimp only
      rw [fl_unrG, fl_prune n]
/-! pairs -/
theorem fl_cnt2 (f s : Int) : ∀ (n : Nat) (xs : List Int), xs.length ≤ n → cnt2 (fl_s f) (fl_s s) (fl_x xs) = cnt2 f s xs
  | 0, [], _ => rfl
  | 0, x :: r, h => by simp at h
  | n + 1, [], _ => rfl
  | n + 1, [x], _ => rfl
  | n + 1, x :: y :: r, h => by
    rw [List.length_cons, List.length_cons] at h
    have h1 := fl_cnt2 f s n r (by omega)
    have h2 := fl_cnt2 f s n (y :: r) (by rw [List.length_cons]; omega)
    rw [fl_cons, fl_cons, cnt2, cnt2]
    by_cases hc : x = f ∧ y = s
    · rw [if_pos hc, if_pos ⟨fl_inj.mpr hc.1, fl_inj.mpr hc.2⟩, h1]
    · rw [if_neg hc, if_neg (fun z => hc ⟨fl_inj.mp z.1, fl_inj.mp z.2⟩), ← fl_cons, h2]
theorem fl_fold2 {c : Int} (hc : 8 ≤ c) (f s : Int) : ∀ (n : Nat) (xs : List Int), xs.length ≤ n → fold2 (fl_s f) (fl_s s) c (fl_x xs) = fl_x (fold2 f s c xs)
  | 0, [], _ => by simp [fold2, fl_x]
  | 0, x :: r, h => by simp at h
  | n + 1, [], _ => by simp [fold2, fl_x]
  | n + 1, [x], _ => by simp [fold2, fl_x]
  | n + 1, x :: y :: r, h => by
    rw [List.length_cons, List.length_cons] at h
    have h1 := fl_fold2 hc f s n r (by omega)
    have h2 := fl_fold2 hc f s n (y :: r) (by rw [List.length_cons]; omega)
    rw [fl_cons, fl_cons, fold2, fold2]
    by_cases hq : x = f ∧ y = s
    · rw [if_pos hq, if_pos ⟨fl_inj.mpr hq.1, fl_inj.mpr hq.2⟩, h1, fl_cons, fl_hi (by omega)]
    · rw [if_neg hq, if_neg (fun z => hq ⟨fl_inj.mp z.1, fl_inj.mp z.2⟩), ← fl_cons, h2, fl_cons]
def fl_t (z : Int × Int × Int) : Int × Int × Int := (fl_s z.1, fl_s z.2.1, z.2.2)
theorem fl_bst (xs : List Int) (z : Int × Int × Int) : ∀ n, bst (fl_x xs) (fl_t z) n = fl_t (bst xs z n)
  | 0 => rfl
  | n + 1 => by
    rw [bst, bst, fl_bst xs z n, fl_rat, fl_rat, fl_cnt2 _ _ _ xs (Nat.le_refl _), show (fl_t (bst xs z n)).2.2 = (bst xs z n).2.2 from rfl]
    split <;> rfl
theorem fl_bstA (xs : List Int) : (bstAll (fl_x xs) 0 0).2.2 = (bstAll xs 0 0).2.2 ∧ (0 < (bstAll xs 0 0).2.2 → bstAll (fl_x xs) 0 0 = fl_t (bstAll xs 0 0)) := by
  unfold bstAll
  rw [fl_len]
  have h := fl_bst xs (0, 0, 0) (xs.length - 1)
  have e : fl_t (0, 0, 0) = (7, 7, 0) := rfl
  rw [e] at h
  have k := bst_z (xs := fl_x xs) (f := 7) (s := 7) (f' := 0) (s' := 0) (xs.length - 1)
  rw [h] at k
  refine ⟨k.1.symm, fun hp => (k.2 hp).symm⟩
theorem fl_foldB (G : GS) : foldB (fl_G G) = foldB G := by
  unfold foldB
  rw [fl_Gl, show (fl_G G).2 = fl_x G.2 from rfl, (fl_bstA G.2).1]
theorem foldB_iff {G : GS} : foldB G = true ↔ G.1.length < 26 ∧ 1 < (bstAll G.2 0 0).2.2 := by
  unfold foldB
  rw [Bool.and_eq_true, decide_eq_true_eq, decide_eq_true_eq]
theorem fl_foldG {G : GS} (h : foldB G = true) : foldG (fl_G G) = fl_G (foldG G) := by
  have hb := (fl_bstA G.2).2 (by have := foldB_iff.mp h; omega)
  unfold foldG
  rw [fl_Gl, show (fl_G G).2 = fl_x G.2 from rfl, hb]
  show (_, _) = (_, _)
  congr 1
  · show G.1.map fl_x ++ _ = (G.1 ++ _).map fl_x
    rw [List.map_append]
    rfl
  · exact fl_fold2 (by omega) _ _ _ _ (Nat.le_refl _)
theorem fl_foldN : ∀ (n : Nat) (G : GS), foldN n (fl_G G) = (fl_G (foldN n G).1, (foldN n G).2)
  | 0, _ => rfl
  | n + 1, G => by
    rw [foldN, foldN, fl_foldB]
    by_cases h : foldB G = true
    · rw [if_pos h, if_pos h, fl_foldG h, fl_foldN n]
    · rw [if_neg h, if_neg h]
/-! words -/
theorem fl_telF (X : Nat → List Int) (n : Nat) (s : Int) : telF (fun i => fl_x (X i)) n (fl_s s) = fl_x (telF X n s) := by
  unfold telF
  by_cases h : s = 8 + (n : Int)
  · rw [if_pos h, if_pos (by rw [h, fl_hi (by omega)])]
  · rw [if_neg h, if_neg (fun z => h ((fl_eqr s _ (by omega)).mp z))]
    rfl
theorem fl_flat (X : Nat → List Int) (n : Nat) : ∀ xs : List Int, (fl_x xs).flatMap (telF (fun i => fl_x (X i)) n) = fl_x (xs.flatMap (telF X n))
  | [] => rfl
  | x :: r => by rw [fl_cons, List.flatMap_cons, List.flatMap_cons, fl_app, fl_telF, fl_flat X n r]
theorem fl_tel (X : Nat → List Int) : ∀ (n : Nat) (xs : List Int), tel (fun i => fl_x (X i)) n (fl_x xs) = fl_x (tel X n xs)
  | 0, _ => rfl
  | n + 1, xs => by rw [tel, tel, fl_flat, fl_tel X n]
theorem fl_word (G : GS) : wordG (fl_G G) = fl_x (wordG G) := by
  unfold wordG
  rw [fl_Gl, show xof (fl_G G).1 = fun i => fl_x (xof G.1 i) from funext (fl_Gx G)]
  exact fl_tel _ _ _
theorem fl_dif : ∀ (xs ys : List Int) (k : Int), dif k (fl_x xs) (fl_x ys) = dif k xs ys
  | [], [], _ => rfl
  | [], _ :: _, _ => rfl
  | _ :: _, [], _ => rfl
  | x :: r, y :: s, k => by
    rw [fl_cons, fl_cons, dif, dif, fl_dif r s]
    by_cases h : x = y
    · rw [if_pos h, if_pos (fl_inj.mpr h)]
    · rw [if_neg h, if_neg (fun z => h (fl_inj.mp z))]
