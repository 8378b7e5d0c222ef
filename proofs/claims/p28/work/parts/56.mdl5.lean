/-! The Model unrolls. -/
def setG (G : GS) (r : Int) (xs : List Int) : GS := if r = 26 then (G.1, xs) else (G.1.set r.toNat xs, G.2)
theorem unr1_lt {s x : Int} {fl : List Int} (h : s < x) : unr1 s fl x = [x - 1] := by
  unfold unr1
  rw [if_neg (by omega), if_pos h]
theorem unr1_gt {s x : Int} {fl : List Int} (h : x < s) : unr1 s fl x = [x] := by
  unfold unr1
  rw [if_neg (by omega), if_neg (by omega)]
theorem unr1_eq {s : Int} {fl : List Int} : unr1 s fl s = fl := if_pos rfl
section MD5
variable {M : PM} {m : Nat} {G : GS} {hl si re pl sp : Int} {f : Nat → Int}
abbrev uiPost (M : PM) (m : Nat) (r : Int) (f : Nat → Int) (ys : List Int) : Option Value → PM → Prop := fun v M' => v = none ∧ Fr (fun q => q = m + 1 ∨ q = m + 13) M M' ∧ (∃ la, M'[m + 13]? = some (aJ 80 la)) ∧ ∃ g, M'[m + 1]? = some (aJ 2188 g) ∧ Rf g (81 * r).toNat ys ∧ ∀ q : Nat, ((q : Int) < 81 * r ∨ 81 * r + 80 < q) → g q = f q
end MD5
