/-! Counting in the Model: pairs, uses, sizes. -/
def smR (G : GS) (h : List Int → Int) : Nat → Int
  | 0 => 0
  | k + 1 => smR G h k + h (rwG G (rwN G k))
theorem smR_bd {G : GS} {h : List Int → Int} {B : Int} (hb : ∀ k : Int, 0 ≤ k → 0 ≤ h (rwG G (rwN G k)) ∧ h (rwG G (rwN G k)) ≤ B) : ∀ k : Nat, 0 ≤ smR G h k ∧ smR G h k ≤ B * (k : Int)
  | 0 => by simp [smR]
  | k + 1 => by
    have ih := smR_bd hb k
    have := hb k (by omega)
    rw [smR, show ((k + 1 : Nat) : Int) = (k : Int) + 1 by omega, Int.mul_add, Int.mul_one]
    omega
theorem rwN_lt {G : GS} {k : Nat} (h : k < G.1.length) (hN : G.1.length ≤ 26) : rwG G (rwN G k) = xof G.1 k := by
  have e : rwN G (k : Int) = k := if_pos (by omega)
  rw [e]
  exact if_neg (by omega)
theorem rwN_ge (G : GS) {k : Nat} (h : G.1.length ≤ k) : rwG G (rwN G k) = G.2 := by
  have e : rwN G (k : Int) = 26 := if_neg (by omega)
  rw [e]
  exact if_pos rfl
theorem smR_us {G : GS} (hN : G.1.length ≤ 26) (j : Nat) : ∀ k : Nat, k ≤ G.1.length → smR G (fun xs => (cntE (8 + (j : Int)) xs : Int)) k = usS (xof G.1) j k
  | 0, _ => by rw [smR, usS]
  | k + 1, h => by rw [smR, usS, smR_us hN j k (by omega), rwN_lt (by omega) hN]
theorem smR_usT {G : GS} (hN : G.1.length ≤ 26) (j : Nat) : smR G (fun xs => (cntE (8 + (j : Int)) xs : Int)) (G.1.length + 1) = usT G j := by
  rw [smR, smR_us hN j _ (Nat.le_refl _), rwN_ge G (Nat.le_refl _)]
  rfl
theorem rat_sbd {G : GS} (hW : WFG G) (hN : G.1.length ≤ 26) {r p : Int} (hr : vrG G r) (h0 : 0 ≤ p) (h1 : p < (rwG G r).length) : 0 ≤ rat (rwG G r) p ∧ rat (rwG G r) p < 34 := rat_in_bd (hW.sbr hN hr) h0 h1
theorem cntE_drop {s : Int} {xs : List Int} {p : Int} (h0 : 0 ≤ p) (h1 : p < xs.length) : (cntE s (xs.drop p.toNat) : Int) = (if rat xs p = s then 1 else 0) + (cntE s (xs.drop (p + 1).toNat) : Int) := by
  have e1 : ((p.toNat : Nat) : Int) = p := by omega
  have hd := drop1 (xs := xs) (p := p.toNat) (by omega)
  rw [e1] at hd
  rw [hd, cntE, show (p + 1).toNat = p.toNat + 1 by omega]
  split <;> omega
section MD2
variable {M : PM} {m : Nat} {G : GS}
end MD2
