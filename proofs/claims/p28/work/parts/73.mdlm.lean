/-! Longs; the Model's put. -/
def Lu (n : Nat) : Int64 := (UInt64.ofNat n).toInt64
theorem Lu_all (c : Int64) : ∃ n, n < 2 ^ 64 ∧ c = Lu n := by
  refine ⟨c.toUInt64.toNat, c.toUInt64.toNat_lt, ?_⟩
  unfold Lu
  rw [UInt64.ofNat_toNat]
  rfl
theorem Lu_sh {n b : Nat} (hn : n < 2 ^ 64) (hb : b < 8) : ((Lu n).toUInt64 >>> ((I (8 * (b : Int))).toInt64.toUInt64 &&& Int64.toUInt64 63)).toInt64 = Lu (n / 256 ^ b) := by
  have hk : ∀ b : Nat, b < 8 → (I (8 * (b : Int))).toInt64.toUInt64 &&& Int64.toUInt64 63 = UInt64.ofNat (8 * b) := by decide
  rw [hk b hb]
  have e1 : (Lu n).toUInt64 = UInt64.ofNat n := rfl
  rw [e1]
  unfold Lu
  congr 1
  have hd : n / 256 ^ b < 2 ^ 64 := Nat.lt_of_le_of_lt (Nat.div_le_self _ _) hn
  apply UInt64.toNat_inj.mp
  rw [UInt64.toNat_shiftRight, UInt64.toNat_ofNat_of_lt' hn, UInt64.toNat_ofNat_of_lt' hd, UInt64.toNat_ofNat_of_lt' (by show 8 * b < 2 ^ 64; omega), Nat.mod_eq_of_lt (by omega), Nat.shiftRight_eq_div_pow, Nat.pow_mul]
theorem Lu_and {n : Nat} (hn : n < 2 ^ 64) : Lu n &&& Int64.ofNat 255 = Lu (n % 256) := by
  apply Int64.toBitVec_inj.mp
  rw [Int64.toBitVec_and]
  apply BitVec.eq_of_toNat_eq
  rw [BitVec.toNat_and]
  have e1 : ∀ k, k < 2 ^ 64 → (Lu k).toBitVec.toNat = k := fun k hk => UInt64.toNat_ofNat_of_lt' hk
  rw [e1 n hn, e1 _ (by omega), show (Int64.ofNat 255).toBitVec.toNat = 2 ^ 8 - 1 by decide, Nat.and_two_pow_sub_one_eq_mod]
theorem Lu_i : ∀ n, n < 256 → (Lu n).toInt32 = I (n : Int) := by decide +kernel
theorem Lu_z : ∀ n, n < 256 → (Lu n).toInt = (n : Int) := by decide +kernel
theorem Lu_0 {n : Nat} (hn : n < 2 ^ 64) : (Lu n).toInt = (Int64.ofNat 0).toInt ↔ n = 0 := by
  constructor
  · intro h
    have h1 := Int64.toInt_inj.mp h
    have h2 : UInt64.ofNat n = UInt64.ofNat 0 := congrArg Int64.toUInt64 h1
    have h3 := congrArg UInt64.toNat h2
    rw [UInt64.toNat_ofNat_of_lt' hn] at h3
    exact h3
  · rintro rfl
    rfl
theorem Lu_ci {n : Nat} (hn : n < 2 ^ 64) : (Lu n).toInt32 &&& I 255 = I ((n % 256 : Nat) : Int) := by
  rw [← Lu_i _ (Nat.mod_lt _ (by omega)), ← Lu_and hn]
  apply Int32.toBitVec_inj.mp
  rw [Int32.toBitVec_and, Int64.toBitVec_toInt32, Int64.toBitVec_toInt32, BitVec.signExtend_eq_setWidth_of_le _ (by omega), BitVec.signExtend_eq_setWidth_of_le _ (by omega), Int64.toBitVec_and, BitVec.setWidth_and]
  rfl
section LNG
variable {c : MM} {ln nx tg r1 r2 r3 pc : Nat} {lv : LV} {r : List Value} {M : PM} {Q : Option Value → PM → Prop}
theorem wq_lushr {n b : Nat} {z : Int} (hn : n < 2 ^ 64) (hb : b < 8) (e : z = 8 * (b : Int)) (k : Wp c (nx, lv, .long (Lu (n / 256 ^ b)) :: r, M) Q) : Wq c (.lushr, ln, nx, tg, r1, r2, r3) pc lv (.int (I z) :: .long (Lu n) :: r) M Q := by
  subst e
  refine wq_k (sk' := .long (Lu (n / 256 ^ b)) :: r) ?_ k
  rw [← Lu_sh hn hb]
  rfl
theorem wq_land {n : Nat} (hn : n < 2 ^ 64) (k : Wp c (nx, lv, .long (Lu (n % 256)) :: r, M) Q) : Wq c (.land, ln, nx, tg, r1, r2, r3) pc lv (.long (Int64.ofNat 255) :: .long (Lu n) :: r) M Q := by
  refine wq_k (sk' := .long (Lu (n % 256)) :: r) ?_ k
  rw [← Lu_and hn]
  rfl
theorem wq_l2i {n : Nat} (hn : n < 256) (k : Wp c (nx, lv, .int (I (n : Int)) :: r, M) Q) : Wq c (.l2i, ln, nx, tg, r1, r2, r3) pc lv (.long (Lu n) :: r) M Q := by
  refine wq_k (sk' := .int (I (n : Int)) :: r) ?_ k
  rw [← Lu_i n hn]
  rfl
theorem wq_lcmp0 {n : Nat} (hn : n < 2 ^ 64) (k : ∀ z : Int, inR z → (z = 0 ↔ n = 0) → Wp c (nx, lv, .int (I z) :: r, M) Q) : Wq c (.lcmp, ln, nx, tg, r1, r2, r3) pc lv (.long (Int64.ofNat 0) :: .long (Lu n) :: r) M Q := by
  refine wq_lcmp (fun z hz => k z ⟨by omega, by omega⟩ ?_)
  rw [← Lu_0 hn]
  omega
end LNG
/-- how many characters a number tells, 0 if it is not well made -/
def lenF (u : Nat) : Nat → Int
  | 0 => 8
  | k + 1 => if u / 256 ^ (7 - k) % 256 = 0 then (if u / 256 ^ (7 - k) = 0 then ((7 - k : Nat) : Int) else 0) else if u / 256 ^ (7 - k) % 256 < 33 ∨ 126 < u / 256 ^ (7 - k) % 256 then 0 else lenF u k
def byt (u : Nat) : Nat → List Int
  | 0 => []
  | b + 1 => ((u / 256 ^ b % 256 : Nat) : Int) :: byt u b
theorem byt_len (u : Nat) : ∀ b, (byt u b).length = b
  | 0 => rfl
  | b + 1 => by rw [byt, List.length_cons, byt_len u b]
theorem lenF_bd (u : Nat) : ∀ k, 0 ≤ lenF u k ∧ lenF u k ≤ 8
  | 0 => by rw [lenF]; omega
  | k + 1 => by
    have ih := lenF_bd u k
    rw [lenF]
    split
    · split <;> omega
    · split <;> omega
def spPut (u : Nat) (S : ST) : Int × ST :=
  if lenF u 8 = 0 then (-2, S) else if 80 < (S.2.1.length : Int) + lenF u 8 then (-4, S) else ((S.2.1.length : Int) + lenF u 8, (S.1, S.2.1 ++ byt u (lenF u 8).toNat, S.2.2.1, S.2.2.2))
section MD22
variable {M : PM} {m : Nat} {S : ST}
end MD22
