/-! Places in a row; the Model's ways to a letter. -/
theorem rat_cons {x : Int} {r : List Int} {k : Int} (h : 0 ≤ k) : rat (x :: r) (1 + k) = rat r k := by
  unfold rat
  rw [if_neg (by omega), if_neg (by omega), show (1 + k).toNat = k.toNat + 1 by omega]
  rfl
theorem posL_lt {f : Int → Int} (hf : ∀ s, 0 ≤ f s) : ∀ (xs : List Int) (q : Int), 0 ≤ q → q < sumL f xs → posL f xs q < xs.length ∧ sumL f (xs.take (posL f xs q).toNat) ≤ q ∧ q < sumL f (xs.take (posL f xs q).toNat) + f (rat xs (posL f xs q))
  | [], q, h0, h1 => by rw [sumL] at h1; omega
  | x :: r, q, h0, h1 => by
    rw [sumL] at h1
    rw [posL]
    by_cases hq : q < f x
    · rw [if_pos hq]
      refine ⟨by rw [List.length_cons]; omega, ?_, ?_⟩
      · show sumL f [] ≤ q
        rw [sumL]; exact h0
      · show q < sumL f [] + f x
        rw [sumL]; omega
    · rw [if_neg hq]
      have ih := posL_lt hf r (q - f x) (by omega) (by omega)
      have hb := posL_bd f r (q - f x)
      rw [show (1 + posL f r (q - f x)).toNat = (posL f r (q - f x)).toNat + 1 by omega, List.take_succ_cons, sumL, rat_cons hb.1, List.length_cons]
      omega
theorem posL_app {f : Int → Int} (hf : ∀ s, 0 ≤ f s) (b : List Int) : ∀ (a : List Int) (q : Int), posL f (a ++ b) q = if q < sumL f a then posL f a q else a.length + posL f b (q - sumL f a)
  | [], q => by
    rw [sumL, List.nil_append]
    by_cases hq : q < 0
    · rw [if_pos hq, posL]
      cases b with
      | nil => rw [posL]
      | cons y r => rw [posL, if_pos (by have := hf y; omega)]
    · rw [if_neg hq]
      simp
  | x :: r, q => by
    have ih := posL_app hf b r (q - f x)
    have hn := sumL_nn f r (fun s _ => hf s)
    rw [List.cons_append, posL, posL, sumL, ih]
    by_cases hq : q < f x
    · rw [if_pos hq, if_pos (by omega), if_pos hq]
    · rw [if_neg hq, if_neg hq]
      by_cases hq2 : q - f x < sumL f r
      · rw [if_pos hq2, if_pos (by omega)]
      · rw [if_neg hq2, if_neg (by omega), List.length_cons, show q - f x - sumL f r = q - (f x + sumL f r) by omega]
        omega
/-- a symbol opened: where the place is then -/
theorem posL_open {f : Int → Int} (hf : ∀ s, 0 ≤ f s) {xs row : List Int} {q : Int} (h0 : 0 ≤ q) (h1 : q < sumL f xs) (hr : f (rat xs (posL f xs q)) ≤ sumL f row) :
    q < sumL f (xs.take (posL f xs q).toNat ++ (row ++ xs.drop ((posL f xs q).toNat + 1))) ∧ (∃ k : Int, 0 ≤ k ∧ k < row.length ∧ rat (xs.take (posL f xs q).toNat ++ (row ++ xs.drop ((posL f xs q).toNat + 1))) (posL f (xs.take (posL f xs q).toNat ++ (row ++ xs.drop ((posL f xs q).toNat + 1))) q) = rat row k) := by
  have h2 := posL_lt hf xs q h0 h1
  have h3 := posL_bd f xs q
  generalize posL f xs q = z at *
  have hlt : ((xs.take z.toNat).length : Int) = z := by rw [List.length_take]; omega
  have hlr := posL_lt hf row (q - sumL f (xs.take z.toNat)) (by omega) (by omega)
  have hbr := posL_bd f row (q - sumL f (xs.take z.toNat))
  have hnd := sumL_nn f (xs.drop (z.toNat + 1)) (fun s _ => hf s)
  refine ⟨by rw [sumL_app, sumL_app]; omega, posL f row (q - sumL f (xs.take z.toNat)), hbr.1, hlr.1, ?_⟩
  rw [posL_app hf, if_neg (by omega), posL_app hf, if_pos (by omega), hlt]
  have hg := List.getElem?_eq_getElem (l := row) (i := (posL f row (q - sumL f (xs.take z.toNat))).toNat) (by omega)
  rw [rat_in (xs := row) hbr.1 hg]
  refine rat_in (by omega) ?_
  rw [List.getElem?_append_right (by omega), List.getElem?_append_left (by omega), ← hg]
  congr 1
  omega
theorem fol_congr {f : Int → Int} {N : Nat} {X X' : Nat → List Int} (hX : ∀ k, k < N → X k = X' k) (hw : WFX N X) : ∀ (n : Nat) (xs : List Int) (q : Int), n ≤ N → WFm n xs → fol f X n xs q = fol f X' n xs q
  | 0, xs, q, _, _ => by rw [fol, fol]
  | n + 1, xs, q, hn, hm => by
    rw [fol, fol]
    by_cases hc : 8 ≤ rat xs (posL f xs q)
    · have hb := posL_bd f xs q
      have hlt : posL f xs q < xs.length := by
        rcases Int.lt_or_le (posL f xs q) xs.length with w | w
        · exact w
        · rw [rat_out (Or.inr w)] at hc; omega
      have h1 := hm _ (rat_mem hb.1 hlt)
      rw [if_pos hc, if_pos hc, hX _ (by omega), fol_congr hX hw n _ _ (by omega) (fun s hs => by
        rw [← hX _ (by omega)] at hs
        have := hw _ (by omega) s hs
        omega)]
    · rw [if_neg hc, if_neg hc]
section MD9
variable {M : PM} {m : Nat} {G : GS}
end MD9
