/-! The Model's calls over the whole word. -/
def spMark (G : GS) : Int := (wordG G).foldl (fun z s => 31 * z + s + 1) 7
def dif : Int → List Int → List Int → Int
  | _, [], [] => -6
  | k, x :: r, y :: s => if x = y then dif (k + 1) r s else k
  | k, [], _ :: _ => k
  | k, _ :: _, [] => k
def spUnlike (i : Int) (S : ST) : Int := if 0 ≤ i ∧ i < 2 then (match S.2.2.2 i.toNat with
  | none => -5
  | some G => dif 0 (wordG S.1) (wordG G)) else -2
/-- every grammar of the state told shortly enough -/
def OKS (S : ST) : Prop := OKG S.1 ∧ OKP S.2.1 ∧ (∀ G ∈ S.2.2.1, OKG G) ∧ ∀ i G, i < 2 → S.2.2.2 i = some G → OKG G
section MD21
variable {M : PM} {m : Nat} {S : ST}
theorem dif_step {xs ys : List Int} {k : Int} (h0 : 0 ≤ k) (hx : k < xs.length) (hy : k < ys.length) : dif k (xs.drop k.toNat) (ys.drop k.toNat) = if rat xs k = rat ys k then dif (k + 1) (xs.drop (k + 1).toNat) (ys.drop (k + 1).toNat) else k := by
  rw [drop_at h0 hx, drop_at h0 hy, dif]
theorem dif_end {xs ys : List Int} {k : Int} (h0 : 0 ≤ k) (h1 : k ≤ xs.length) (h2 : k ≤ ys.length) (h : k = xs.length ∨ k = ys.length) : dif k (xs.drop k.toNat) (ys.drop k.toNat) = if k = xs.length ∧ k = ys.length then -6 else k := by
  by_cases hx : k = xs.length
  · rw [List.drop_eq_nil_of_le (as := xs) (by omega)]
    by_cases hy : k = ys.length
    · rw [List.drop_eq_nil_of_le (as := ys) (by omega), dif, if_pos ⟨hx, hy⟩]
    · rw [drop_at (xs := ys) h0 (by omega), dif, if_neg (fun z => hy z.2)]
  · have hy : k = ys.length := h.resolve_left hx
    rw [List.drop_eq_nil_of_le (as := ys) (by omega), drop_at (xs := xs) h0 (by omega), dif, if_neg (fun z => hx z.1)]
end MD21
