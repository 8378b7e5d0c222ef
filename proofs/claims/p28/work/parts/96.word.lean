/-! What a symbol tells; folding and unrolling leave the word as it was. -/
def wd (G : GS) (s : Int) : List Int := tel (xof G.1) G.1.length [s]
theorem tel_flat (X : Nat → List Int) (n : Nat) : ∀ xs : List Int, tel X n xs = xs.flatMap (fun s => tel X n [s])
  | [] => tel_nil X n
  | x :: r => by rw [tel_cons, List.flatMap_cons, tel_flat X n r]
theorem word_flat (G : GS) : wordG G = G.2.flatMap (wd G) := tel_flat _ _ _
theorem wd_mn (R : List (List Int)) (mn mn' : List Int) : wd (R, mn) = wd (R, mn') := rfl
theorem wd_letter {G : GS} {s : Int} (h : s < 8) : wd G s = [s] := tel_letter h _
theorem flat_cong {V W : Int → List Int} : ∀ {xs : List Int}, (∀ s ∈ xs, V s = W s) → xs.flatMap V = xs.flatMap W
  | [], _ => rfl
  | x :: r, h => by rw [List.flatMap_cons, List.flatMap_cons, h x List.mem_cons_self, flat_cong (fun s hs => h s (List.mem_cons_of_mem _ hs))]
theorem wd_rule {G : GS} (hW : WFG G) {j : Nat} (hj : j < G.1.length) : wd G (8 + (j : Int)) = (xof G.1 j).flatMap (wd G) := by
  unfold wd
  rw [tel_rule hj, ← tel_flat, tel_low (fun s hs => (hW.1 j hj s hs).2) G.1.length (by omega)]
theorem wd_rule' {G : GS} (hW : WFG G) {s : Int} (h : 8 ≤ s) (h1 : s < 8 + (G.1.length : Int)) : wd G s = (xof G.1 (s - 8).toNat).flatMap (wd G) := by
  have e := wd_rule hW (j := (s - 8).toNat) (by omega)
  rwa [show 8 + (((s - 8).toNat : Nat) : Int) = s by omega] at e
/-- the words of symbols are told by their two rows -/
theorem wd_uniq {G : GS} (hW : WFG G) {V : Int → List Int} (h0 : ∀ s, s < 8 → V s = [s]) (h1 : ∀ j, j < G.1.length → V (8 + (j : Int)) = (xof G.1 j).flatMap V) : ∀ (k : Nat), ∀ s : Int, s < 8 + (k : Int) → s < 8 + (G.1.length : Int) → wd G s = V s
  | 0, s, h, _ => by rw [wd_letter (by omega), h0 s (by omega)]
  | k + 1, s, h, h' => by
    by_cases q : s < 8 + (k : Int)
    · exact wd_uniq hW h0 h1 k s q h'
    · have e : s = 8 + (k : Int) := by omega
      subst e
      have hk : k < G.1.length := by omega
      rw [wd_rule hW hk, h1 k hk]
      exact flat_cong (fun x hx => wd_uniq hW h0 h1 k x (hW.1 k hk x hx).2 (by have := (hW.1 k hk x hx).2; omega))
def vUn (G : GS) (r : Nat) (s : Int) : List Int := if s < 8 + (r : Int) then wd G s else wd G (s + 1)
theorem vUn_lt {G : GS} {r : Nat} {s : Int} (h : s < 8 + (r : Int)) : vUn G r s = wd G s := if_pos h
theorem vUn_ge {G : GS} {r : Nat} {s : Int} (h : ¬ s < 8 + (r : Int)) : vUn G r s = wd G (s + 1) := if_neg h
theorem vUn_unr {G : GS} (hW : WFG G) {r : Nat} (hr : r < G.1.length) : ∀ xs : List Int, (unr (8 + (r : Int)) (xof G.1 r) xs).flatMap (vUn G r) = xs.flatMap (wd G)
  | [] => rfl
  | x :: t => by
    rw [show unr (8 + (r : Int)) (xof G.1 r) (x :: t) = unr1 (8 + (r : Int)) (xof G.1 r) x ++ unr (8 + (r : Int)) (xof G.1 r) t from List.flatMap_cons, List.flatMap_append, vUn_unr hW hr t, List.flatMap_cons]
    congr 1
    unfold unr1
    by_cases q : x = 8 + (r : Int)
    · rw [if_pos q, q, wd_rule hW hr]
      exact flat_cong (fun s hs => vUn_lt (hW.1 r hr s hs).2)
    · rw [if_neg q]
      by_cases q2 : 8 + (r : Int) < x
      · rw [if_pos q2, List.flatMap_cons, List.flatMap_nil, List.append_nil, vUn_ge (by omega), show x - 1 + 1 = x by omega]
      · rw [if_neg q2, List.flatMap_cons, List.flatMap_nil, List.append_nil, vUn_lt (by omega)]
theorem word_unr {G : GS} (hW : WFG G) {r : Nat} (hr : r < G.1.length) : wordG (unrG G r) = wordG G := by
  have hW' := hW.unr hr
  have hl := unrG_len (G := G) hr
  have e : ∀ s : Int, s < 8 + ((unrG G r).1.length : Int) → wd (unrG G r) s = vUn G r s := by
    intro s hs
    refine wd_uniq hW' (fun s hs => ?_) (fun j hj => ?_) _ s hs hs
    · rw [vUn_lt (by omega), wd_letter hs]
    · rw [hl] at hj
      rw [xof_unr hr (by omega)]
      by_cases q : j < r
      · rw [if_pos q, vUn_lt (by omega), wd_rule hW (by omega)]
        exact (flat_cong (fun s hs => vUn_lt (by have := (hW.1 j (by omega) s hs).2; omega))).symm
      · rw [if_neg q, vUn_ge (by omega), vUn_unr hW hr, show 8 + (j : Int) + 1 = 8 + ((j + 1 : Nat) : Int) by omega, wd_rule hW (by omega)]
  rw [word_flat, word_flat, flat_cong (fun s hs => e s (hW'.2.1 s hs).2)]
  exact vUn_unr hW hr G.2
theorem word_prune : ∀ (n : Nat) (G : GS), WFG G → wordG (prune n G).1 = wordG G
  | 0, G, _ => rfl
  | n + 1, G, h => by
    rw [prune]
    cases e : nextP G with
    | none => rfl
    | some r =>
      have hr := (nextP_some e).1
      dsimp only
      rw [word_prune n _ (h.unr hr), word_unr h hr]
def vFo (G : GS) (a b : Int) (s : Int) : List Int := if s = 8 + (G.1.length : Int) then wd G a ++ wd G b else wd G s
theorem flat_fold2 {V : Int → List Int} {a b c : Int} (h : V c = V a ++ V b) : ∀ (n : Nat) (xs : List Int), xs.length ≤ n → (fold2 a b c xs).flatMap V = xs.flatMap V
  | 0, [], _ => by simp [fold2]
  | 0, y :: r, q => by simp at q
  | n + 1, [], _ => by simp [fold2]
  | n + 1, [y], _ => by simp [fold2]
  | n + 1, y :: z :: r, q => by
    rw [List.length_cons, List.length_cons] at q
    have h1 := flat_fold2 h n r (by omega)
    have h2 := flat_fold2 h n (z :: r) (by rw [List.length_cons]; omega)
    rw [fold2]
    split
    · rename_i hc
      rw [List.flatMap_cons, List.flatMap_cons, List.flatMap_cons, h1, h, hc.1, hc.2, List.append_assoc]
    · rw [List.flatMap_cons, h2, List.flatMap_cons, List.flatMap_cons, List.flatMap_cons]
theorem word_fold {G : GS} (hW : WFG G) (hb : foldB G = true) : wordG (foldG G) = wordG G := by
  have hW' := hW.fold hb
  have hl := foldG_len G
  have hb0 := foldB_iff.mp hb
  have hm := bstAll_mem (xs := G.2) (f := 0) (s := 0) (by omega)
  have b1 := hW.2.1 _ hm.1
  have b2 := hW.2.1 _ hm.2
  have x1 : ∀ j, j < G.1.length → xof (foldG G).1 j = xof G.1 j := fun j hj => xof_app1 hj
  have x2 : xof (foldG G).1 G.1.length = [(bstAll G.2 0 0).1, (bstAll G.2 0 0).2.1] := xof_app2
  have x3 : (foldG G).2 = fold2 (bstAll G.2 0 0).1 (bstAll G.2 0 0).2.1 (8 + (G.1.length : Int)) G.2 := rfl
  generalize (bstAll G.2 0 0).1 = a at *
  generalize (bstAll G.2 0 0).2.1 = b at *
  have v1 : ∀ s : Int, s < 8 + (G.1.length : Int) → vFo G a b s = wd G s := fun s hs => if_neg (by omega)
  have v2 : vFo G a b (8 + (G.1.length : Int)) = wd G a ++ wd G b := if_pos rfl
  have e : ∀ s : Int, s < 8 + ((foldG G).1.length : Int) → wd (foldG G) s = vFo G a b s := by
    intro s hs
    refine wd_uniq hW' (fun s hs => ?_) (fun j hj => ?_) _ s hs hs
    · rw [v1 s (by omega), wd_letter hs]
    · rw [hl] at hj
      by_cases q : j < G.1.length
      · rw [v1 _ (by omega), x1 j q, wd_rule hW q]
        exact (flat_cong (fun s hs => v1 s (by have := (hW.1 j q s hs).2; omega))).symm
      · have ej : j = G.1.length := by omega
        subst ej
        rw [v2, x2, List.flatMap_cons, List.flatMap_cons, List.flatMap_nil, List.append_nil, v1 a (by omega), v1 b (by omega)]
  rw [word_flat, word_flat, flat_cong (fun s hs => e s (hW'.2.1 s hs).2), x3, flat_fold2 (by rw [v2, v1 a (by omega), v1 b (by omega)]) _ _ (Nat.le_refl _)]
  exact flat_cong (fun s hs => v1 s (hW.2.1 s hs).2)
theorem word_foldN : ∀ (n : Nat) (G : GS), WFG G → wordG (foldN n G).1 = wordG G
  | 0, G, _ => rfl
  | n + 1, G, h => by
    rw [foldN]
    by_cases hB : foldB G = true
    · rw [if_pos hB]
      dsimp only
      rw [word_foldN n _ (h.fold hB), word_fold h hB]
    · rw [if_neg hB]
/-! places in the word -/
theorem rat_appl {a b : List Int} {q : Int} (h : q < a.length) : rat (a ++ b) q = rat a q := by
  unfold rat
  split
  · rfl
  · rw [List.getD_eq_getElem?_getD, List.getD_eq_getElem?_getD, List.getElem?_append_left (by omega)]
theorem rat_appr {a b : List Int} {q : Int} (h : (a.length : Int) ≤ q) : rat (a ++ b) q = rat b (q - a.length) := by
  unfold rat
  rw [if_neg (by omega), if_neg (by omega), List.getD_eq_getElem?_getD, List.getD_eq_getElem?_getD, List.getElem?_append_right (by omega)]
  congr 2
  omega
theorem wd_len {G : GS} (h : OKG G) {xs : List Int} (hx : ∀ s ∈ xs, s < 8 + (G.1.length : Int)) : ((xs.flatMap (wd G)).length : Int) = sumL (lyG G) xs := by
  have e : xs.flatMap (wd G) = tel (xof G.1) G.1.length xs := (tel_flat _ _ _).symm
  rw [e]
  exact tel_len h _ (Nat.le_refl _) xs hx
theorem split_at {xs : List Int} {k : Int} (h0 : 0 ≤ k) (h1 : k < xs.length) : xs = xs.take k.toNat ++ rat xs k :: xs.drop (k.toNat + 1) := by
  have hd := drop_at h0 h1
  rw [show (k + 1).toNat = k.toNat + 1 by omega] at hd
  rw [← hd, List.take_append_drop]
/-- the letter that a way through the rules comes to -/
theorem fol_word {G : GS} (h : OKG G) : ∀ (n : Nat) (xs : List Int) (q : Int), n ≤ G.1.length → (∀ s ∈ xs, 0 ≤ s ∧ s < 8 + (n : Int)) → 0 ≤ q → q < sumL (lyG G) xs → sumL (lyG G) xs ≤ 9999 → (fol (lyG G) (xof G.1) n xs q).1 = rat (xs.flatMap (wd G)) q := by
  intro n
  induction n with
  | zero =>
    intro xs q hn hx h0 h1 h2
    have hp := posL_lt (fun s => (lyG_bd h.1 s).1) xs q h0 h1
    have hb := posL_bd (lyG G) xs q
    rw [fol]
    generalize posL (lyG G) xs q = z at *
    have hs := hx _ (rat_mem hb.1 hp.1)
    have e := split_at hb.1 hp.1
    have hl := wd_len h (xs := xs.take z.toNat) (fun s hs => by have := hx s (List.mem_of_mem_take hs); omega)
    have e1 : lyG G (rat xs z) = 1 := lyG_letter (by omega)
    have e2 : wd G (rat xs z) = [rat xs z] := wd_letter (by omega)
    have e3 : xs.flatMap (wd G) = (xs.take z.toNat).flatMap (wd G) ++ (rat xs z :: (xs.drop (z.toNat + 1)).flatMap (wd G)) := by
      rw [show xs.flatMap (wd G) = (xs.take z.toNat ++ rat xs z :: xs.drop (z.toNat + 1)).flatMap (wd G) from congrArg _ e, List.flatMap_append, List.flatMap_cons, e2]
      rfl
    rw [e3, rat_appr (by omega), show q - (((xs.take z.toNat).flatMap (wd G)).length : Int) = 0 by omega]
    rfl
  | succ n ih =>
    intro xs q hn hx h0 h1 h2
    have hp := posL_lt (fun s => (lyG_bd h.1 s).1) xs q h0 h1
    have hb := posL_bd (lyG G) xs q
    rw [fol]
    generalize posL (lyG G) xs q = z at *
    have hs := hx _ (rat_mem hb.1 hp.1)
    have e := split_at hb.1 hp.1
    have hl := wd_len h (xs := xs.take z.toNat) (fun s hs => by have := hx s (List.mem_of_mem_take hs); omega)
    have e4 : xs.flatMap (wd G) = (xs.take z.toNat).flatMap (wd G) ++ (wd G (rat xs z) ++ (xs.drop (z.toNat + 1)).flatMap (wd G)) := by
      rw [show xs.flatMap (wd G) = (xs.take z.toNat ++ rat xs z :: xs.drop (z.toNat + 1)).flatMap (wd G) from congrArg _ e, List.flatMap_append, List.flatMap_cons]
    by_cases hc : 8 ≤ rat xs z
    · rw [if_pos hc]
      have hj : (rat xs z - 8).toNat < G.1.length := by omega
      have ew := wd_rule' h.1 hc (by omega)
      have el : lyG G (rat xs z) = sumL (lyG G) (xof G.1 (rat xs z - 8).toNat) := by rw [lyG_rule hc (by omega), h.lt hj]
      have h9 := h.2.2 _ hj
      rw [h.lt hj] at h9
      have hwl := wd_len h (xs := xof G.1 (rat xs z - 8).toNat) (fun s hs => by have := h.1.1 _ hj s hs; omega)
      rw [show min (sumL (lyG G) (xs.take z.toNat)) 10000 = sumL (lyG G) (xs.take z.toNat) by omega]
      dsimp only
      rw [ih _ _ (by omega) (fun s hs => by have := h.1.1 _ hj s hs; omega) (by omega) (by omega) h9, e4, rat_appr (by omega), hl, ew, rat_appl (by omega)]
    · rw [if_neg hc]
      have e1 : lyG G (rat xs z) = 1 := lyG_letter (by omega)
      have e2 : wd G (rat xs z) = [rat xs z] := wd_letter (by omega)
      rw [e4, e2, rat_appr (by omega), show q - (((xs.take z.toNat).flatMap (wd G)).length : Int) = 0 by omega]
      rfl
theorem letter_word {G : GS} (h : OKG G) {p : Int} (h0 : 0 ≤ p) (h1 : p < wlG G) : spLetter p G = rat (wordG G) p := by
  unfold spLetter
  have hw := h.wl
  have h2 := h.2.1
  rw [if_pos ⟨h0, h1⟩, fol_word h _ _ _ (Nat.le_refl _) h.1.2.1 h0 (by omega) (by omega), word_flat]
theorem letter_out {G : GS} {p : Int} (h : p < 0 ∨ wlG G ≤ p) : spLetter p G = -1 := if_neg (by omega)
theorem letter_bd {G : GS} (h : OKG G) (p : Int) : -1 ≤ spLetter p G ∧ spLetter p G < 8 := by
  by_cases hp : 0 ≤ p ∧ p < wlG G
  · rw [letter_word h hp.1 hp.2]
    have := word_letters h.1 _ (rat_mem (xs := wordG G) hp.1 (by rw [word_len h]; exact hp.2))
    omega
  · rw [letter_out (by omega)]
    omega
/-! opening -/
theorem opnF_word {N : Nat} {X : Nat → List Int} {f : Int → Int} {q : Int} {W : Int → List Int} (hW : ∀ j, j < N → W (8 + (j : Int)) = (X j).flatMap W) : ∀ (n : Nat) (mn mn2 : List Int) (z : Int), opnF N X f q n mn = some (mn2, z) → z = posL f mn2 q ∧ mn2.flatMap W = mn.flatMap W
  | 0, mn, mn2, z, h => by rw [opnF] at h; cases h
  | n + 1, mn, mn2, z, h => by
    rw [opnF] at h
    have hpb := posL_bd f mn q
    by_cases hc : 8 ≤ rat mn (posL f mn q) ∧ rat mn (posL f mn q) < 8 + N
    · rw [if_pos hc] at h
      have hlt : posL f mn q < mn.length := by
        rcases Int.lt_or_le (posL f mn q) mn.length with w | w
        · exact w
        · exfalso
          rw [rat_out (Or.inr w)] at hc
          omega
      split at h
      · obtain ⟨q1, q2⟩ := opnF_word hW n _ mn2 z h
        refine ⟨q1, ?_⟩
        rw [q2]
        generalize posL f mn q = k at *
        have ew := hW (rat mn k - 8).toNat (by omega)
        rw [show 8 + (((rat mn k - 8).toNat : Nat) : Int) = rat mn k by omega] at ew
        rw [List.flatMap_append, List.flatMap_append, ← ew, ← List.flatMap_cons, ← List.flatMap_append, ← split_at hpb.1 hlt]
      · cases h
    · rw [if_neg hc] at h
      cases h
      exact ⟨rfl, rfl⟩
theorem opn_word {G : GS} (h : OKG G) {p : Int} (hp : 0 ≤ p ∧ p < wlG G) {mn2 : List Int} {z : Int} (ho : opn G p = some (mn2, z)) : WFG (G.1, mn2) ∧ 0 ≤ z ∧ z < mn2.length ∧ 0 ≤ rat mn2 z ∧ rat mn2 z < 8 ∧ z = posL (lyG G) mn2 p ∧ sumL (lyG G) (mn2.take z.toNat) = p ∧ wordG G = (mn2.take z.toNat).flatMap (wd G) ++ rat mn2 z :: (mn2.drop (z.toNat + 1)).flatMap (wd G) ∧ (((mn2.take z.toNat).flatMap (wd G)).length : Int) = p := by
  obtain ⟨b1, b2, b3, b4, b5⟩ := opn_some h.1 hp ho
  obtain ⟨q1, q2⟩ := opnF_word (W := wd G) (fun j hj => wd_rule h.1 hj) 27 G.2 mn2 z ho
  have hs := b5 h
  have hwl := h.wl
  have hlt := posL_lt (fun s => (lyG_bd h.1 s).1) mn2 p hp.1 (by omega)
  rw [← q1, lyG_letter b4] at hlt
  have hsum : sumL (lyG G) (mn2.take z.toNat) = p := by omega
  have hlen := wd_len h (xs := mn2.take z.toNat) (fun s hs => (b1.2.1 s (List.mem_of_mem_take hs)).2)
  refine ⟨b1, b2, b3, (b1.2.1 _ (rat_mem b2 b3)).1, b4, q1, hsum, ?_, by omega⟩
  rw [word_flat, ← q2]
  have e := split_at b2 b3
  rw [show mn2.flatMap (wd G) = (mn2.take z.toNat ++ rat mn2 z :: mn2.drop (z.toNat + 1)).flatMap (wd G) from congrArg _ e, List.flatMap_append, List.flatMap_cons, wd_letter b4]
  rfl
theorem posL_at {f : Int → Int} (hf : ∀ s, 0 ≤ f s) {a b : List Int} {x : Int} (hx : 0 < f x) : posL f (a ++ x :: b) (sumL f a) = a.length := by
  rw [posL_app hf, if_neg (by omega), posL, if_pos (by omega)]
  omega
theorem word_of {R : List (List Int)} {mn A B : List Int} {l : Int} (hl : l < 8) {G : GS} (hG : G.1 = R) (hm : mn = A ++ l :: B) : wordG (R, mn) = A.flatMap (wd G) ++ l :: B.flatMap (wd G) := by
  subst hG
  rw [word_flat, hm, List.flatMap_append, List.flatMap_cons]
  have e : wd (G.1, A ++ l :: B) = wd G := rfl
  rw [e, wd_letter hl]
  rfl
theorem rset_split {xs : List Int} {k l : Int} (h0 : 0 ≤ k) (h1 : k < xs.length) : rset xs k l = xs.take k.toNat ++ l :: xs.drop (k.toNat + 1) := by
  unfold rset
  rw [if_neg (by omega), List.set_eq_take_append_cons_drop, if_pos (by omega)]
theorem fol_nn (f : Int → Int) (X : Nat → List Int) : ∀ (n : Nat) (xs : List Int) (q : Int), 0 ≤ (fol f X n xs q).2
  | 0, _, _ => by rw [fol]; exact Int.le_refl 0
  | n + 1, xs, q => by
    rw [fol]
    split
    · have := fol_nn f X n (X (rat xs (posL f xs q) - 8).toNat) (q - min (sumL f (xs.take (posL f xs q).toNat)) 10000)
      dsimp only
      omega
    · exact Int.le_refl 0
theorem fol_zero {f : Int → Int} {X : Nat → List Int} {n : Nat} {xs : List Int} {q : Int} (h : rat xs (posL f xs q) < 8) : (fol f X n xs q).2 = 0 := by
  cases n with
  | zero => rw [fol]
  | succ n => rw [fol, if_neg (by omega)]
theorem fol_pos {f : Int → Int} {X : Nat → List Int} {n : Nat} {xs : List Int} {q : Int} (h : (fol f X n xs q).2 ≤ 0) (hx : ∀ s ∈ xs, s < 8 + (n : Int)) : rat xs (posL f xs q) < 8 := by
  cases n with
  | zero =>
    rcases Int.lt_or_le (rat xs (posL f xs q)) 8 with w | w
    · exact w
    · exfalso
      have hb := posL_bd f xs q
      rcases Int.lt_or_le (posL f xs q) xs.length with u | u
      · have := hx _ (rat_mem hb.1 u)
        omega
      · rw [rat_out (Or.inr u)] at w
        omega
  | succ n =>
    rw [fol] at h
    split at h
    · have := fol_nn f X n (X (rat xs (posL f xs q) - 8).toNat) (q - min (sumL f (xs.take (posL f xs q).toNat)) 10000)
      dsimp only at h
      omega
    · omega
