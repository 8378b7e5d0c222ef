/-! Doubles above 0, on the machine. -/
def DD (E t : Nat) : UInt64 := UInt64.ofNat (E * 2 ^ 52 + t)
def okD (E t : Nat) : Prop := 900 ≤ E ∧ E ≤ 1200 ∧ t < 2 ^ 52
theorem b64p : FP.Core.b64.p = 52 + 1 := rfl
theorem b64q : FP.Core.b64.qmin = -1074 := by decide
theorem b64Q : FP.Core.b64.qmax = 971 := by decide
theorem b64e : FP.Core.b64.exps = 2048 := by decide
theorem b32p : FP.Core.b32.p = 23 + 1 := rfl
theorem b32q : FP.Core.b32.qmin = -149 := by decide
theorem b32Q : FP.Core.b32.qmax = 104 := by decide
theorem b32e : FP.Core.b32.exps = 256 := by decide
theorem DD_nat {E t : Nat} (h : okD E t) : (DD E t).toNat = E * 2 ^ 52 + t := by
  unfold okD at h
  exact UInt64.toNat_ofNat_of_lt' (by show E * 2 ^ 52 + t < 2 ^ 64; omega)
theorem DD_dec {E t : Nat} (h : okD E t) : FP.Core.decode FP.Core.b64 (DD E t).toNat = .fin false (2 ^ 52 + t) ((E : Int) - 1075) := by
  unfold okD at h
  rw [DD_nat h, dec_n b64p (by omega) (by rw [b64e]; omega) h.2.2, b64q]
  congr 1
  omega
theorem nrm52 {t : Nat} (h : t < 2 ^ 52) : nrm 52 (2 ^ 52 + t) := ⟨by omega, by rw [show (2 : Nat) ^ (52 + 1) = 2 ^ 52 + 2 ^ 52 by decide]; omega⟩
theorem DD_enc {c : Nat} {q : Int} (hc : nrm 52 c) (hq : -175 ≤ q ∧ q ≤ 125) : UInt64.ofNat (FP.Core.encode FP.Core.b64 (.fin false c q)) = DD (q + 1075).toNat (c - 2 ^ 52) ∧ okD (q + 1075).toNat (c - 2 ^ 52) := by
  obtain ⟨c1, c2⟩ := id hc
  have e2 : (2 : Nat) ^ (52 + 1) = 2 ^ 52 + 2 ^ 52 := by decide
  rw [e2] at c2
  refine ⟨?_, by omega, by omega, by omega⟩
  rw [enc_n b64p hc, b64q]
  unfold DD
  congr 3
  omega
theorem quot_fin {f : FP.Core.Fmt} {s t : Bool} {c d : Nat} {q r : Int} (hd : d ≠ 0) : FP.Core.quotient f (.fin s c q) (.fin t d r) = FP.Core.roundRatio f (s != t) c d (q - r) := by
  show (if d = 0 then _ else _) = _
  rw [if_neg hd]
theorem order_fin {s t : Bool} {c d : Nat} {q r : Int} : FP.Core.order (.fin s c q) (.fin t d r) = some (compare (FP.Core.signed s (FP.Core.inUnits c q (min q r))) (FP.Core.signed t (FP.Core.inUnits d r (min q r)))) := rfl
/-- times a power of two -/
theorem DD_mulp {E K t : Nat} (h : okD E t) (hK : okD K 0) (hE : 900 ≤ E + K - 1023 ∧ E + K - 1023 ≤ 1200) : FP.dmul (DD E t) (DD K 0) = DD (E + K - 1023) t := by
  have h1 := DD_dec h
  have h2 := DD_dec hK
  obtain ⟨a1, a2, a3⟩ := id h
  obtain ⟨b1, b2, b3⟩ := id hK
  have hn := nrm52 a3
  show UInt64.ofNat (FP.Core.encode FP.Core.b64 (FP.Core.round FP.Core.b64 (FP.Core.exactProduct (FP.Core.decode FP.Core.b64 (DD E t).toNat) (FP.Core.decode FP.Core.b64 (DD K 0).toNat)))) = _
  rw [h1, h2]
  show UInt64.ofNat (FP.Core.encode FP.Core.b64 (FP.Core.roundRatio FP.Core.b64 false ((2 ^ 52 + t) * (2 ^ 52 + 0)) 1 (((E : Int) - 1075) + ((K : Int) - 1075)))) = _
  have hr := round_pow (f := FP.Core.b64) (b := 52) (c := 2 ^ 52 + t) (i := 0) (j := 52) (e := ((E : Int) - 1075) + ((K : Int) - 1075)) b64p hn (by rw [b64q]; omega) (by rw [b64Q]; omega)
  rw [Nat.add_zero, show (1 : Nat) = 2 ^ 0 from rfl, hr]
  rw [(DD_enc hn (by omega)).1, show ((E : Int) - 1075 + ((K : Int) - 1075) + ((52 : Nat) : Int) - ((0 : Nat) : Int) + 1075).toNat = E + K - 1023 by omega, show 2 ^ 52 + t - 2 ^ 52 = t by omega]
theorem DD_div2 {E t : Nat} (h : okD E t) (hE : 901 ≤ E) : FP.ddiv (DD E t) (DD 1024 0) = DD (E - 1) t := by
  have hK : okD 1024 0 := ⟨by omega, by omega, by omega⟩
  have h1 := DD_dec h
  have h2 := DD_dec hK
  obtain ⟨a1, a2, a3⟩ := id h
  have hn := nrm52 a3
  show UInt64.ofNat (FP.Core.encode FP.Core.b64 (FP.Core.quotient FP.Core.b64 (FP.Core.decode FP.Core.b64 (DD E t).toNat) (FP.Core.decode FP.Core.b64 (DD 1024 0).toNat))) = _
  rw [h1, h2]
  rw [quot_fin (by decide)]
  have hr := round_pow (f := FP.Core.b64) (b := 52) (c := 2 ^ 52 + t) (i := 52) (j := 0) (e := ((E : Int) - 1075) - (((1024 : Nat) : Int) - 1075)) b64p hn (by rw [b64q]; omega) (by rw [b64Q]; omega)
  rw [Nat.pow_zero, Nat.mul_one] at hr
  rw [Nat.add_zero, show (false != false) = false from rfl, hr, (DD_enc hn (by omega)).1, show ((E : Int) - 1075 - (((1024 : Nat) : Int) - 1075) + ((0 : Nat) : Int) - ((52 : Nat) : Int) + 1075).toNat = E - 1 by omega, show 2 ^ 52 + t - 2 ^ 52 = t by omega]
theorem DD_d2l {t : Nat} (ht : t < 2 ^ 52) : FP.d2l (DD 1075 t) = Int64.ofInt ((2 ^ 52 + t : Nat) : Int) := by
  have h1 := DD_dec (E := 1075) (t := t) ⟨by omega, by omega, ht⟩
  show Int64.ofInt (FP.Core.toInt (-2 ^ 63) (2 ^ 63 - 1) (FP.Core.decode FP.Core.b64 (DD 1075 t).toNat)) = _
  rw [h1]
  unfold FP.Core.toInt FP.Core.truncate FP.Core.signed
  dsimp only
  congr 1
  rw [if_neg (by decide), show (((1075 : Nat) : Int) - 1075).toNat = 0 by decide, show (-(((1075 : Nat) : Int) - 1075)).toNat = 0 by decide, Nat.pow_zero, Nat.mul_one, Nat.div_one]
  omega
theorem DD_d2l23 {t : Nat} (ht : t < 2 ^ 52) : FP.d2l (DD 1046 t) = Int64.ofInt (((2 ^ 52 + t) / 2 ^ 29 : Nat) : Int) := by
  have h1 := DD_dec (E := 1046) (t := t) ⟨by omega, by omega, ht⟩
  show Int64.ofInt (FP.Core.toInt (-2 ^ 63) (2 ^ 63 - 1) (FP.Core.decode FP.Core.b64 (DD 1046 t).toNat)) = _
  rw [h1]
  unfold FP.Core.toInt FP.Core.truncate FP.Core.signed
  dsimp only
  congr 1
  rw [if_neg (by decide), show (((1046 : Nat) : Int) - 1075).toNat = 0 by decide, show (-(((1046 : Nat) : Int) - 1075)).toNat = 29 by decide, Nat.pow_zero, Nat.mul_one]
  have : (2 ^ 52 + t) / 2 ^ 29 < 2 ^ 62 := Nat.lt_of_le_of_lt (Nat.div_le_self _ _) (by omega)
  omega
theorem cmp_nat {a b : Nat} : FP.Core.order (.fin false a 0) (.fin false b 0) = some (compare (a : Int) (b : Int)) := by
  show some (compare (FP.Core.signed false (a * 2 ^ ((0 : Int) - min 0 0).toNat)) (FP.Core.signed false (b * 2 ^ ((0 : Int) - min 0 0).toNat))) = _
  rw [show ((0 : Int) - min 0 0).toNat = 0 by decide, Nat.pow_zero, Nat.mul_one, Nat.mul_one]
  rfl
theorem DD_cmp {E K t : Nat} (h : okD E t) (hK : okD K 0) : (K ≤ E → FP.dcmp (DD E t) (DD K 0) = some .gt ∨ FP.dcmp (DD E t) (DD K 0) = some .eq) ∧ (E < K → FP.dcmp (DD E t) (DD K 0) = some .lt) := by
  have h1 := DD_dec h
  have h2 := DD_dec hK
  obtain ⟨a1, a2, a3⟩ := id h
  obtain ⟨b1, b2, b3⟩ := id hK
  have e : FP.dcmp (DD E t) (DD K 0) = FP.Core.order (FP.Core.decode FP.Core.b64 (DD E t).toNat) (FP.Core.decode FP.Core.b64 (DD K 0).toNat) := rfl
  rw [e, h1, h2, order_fin]
  unfold FP.Core.signed FP.Core.inUnits
  rw [Nat.add_zero]
  rw [if_neg (by decide), if_neg (by decide)]
  constructor
  · intro hk
    rw [show ((K : Int) - 1075 - min ((E : Int) - 1075) ((K : Int) - 1075)).toNat = 0 by omega, Nat.pow_zero, Nat.mul_one]
    have hp : 1 ≤ 2 ^ ((E : Int) - 1075 - min ((E : Int) - 1075) ((K : Int) - 1075)).toNat := Nat.two_pow_pos _
    have hm : 2 ^ 52 ≤ (2 ^ 52 + t) * 2 ^ ((E : Int) - 1075 - min ((E : Int) - 1075) ((K : Int) - 1075)).toNat := Nat.le_trans (by omega) (Nat.mul_le_mul (show 2 ^ 52 ≤ 2 ^ 52 + t by omega) hp)
    generalize (2 ^ 52 + t) * 2 ^ ((E : Int) - 1075 - min ((E : Int) - 1075) ((K : Int) - 1075)).toNat = x at hm
    by_cases hx : x = 2 ^ 52
    · right
      rw [hx]
      exact congrArg some (Int.compare_eq_eq.mpr rfl)
    · left
      exact congrArg some (Int.compare_eq_gt.mpr (by omega))
  · intro hk
    rw [show ((E : Int) - 1075 - min ((E : Int) - 1075) ((K : Int) - 1075)).toNat = 0 by omega, Nat.pow_zero, Nat.mul_one]
    have hp : 2 ^ 1 ≤ 2 ^ ((K : Int) - 1075 - min ((E : Int) - 1075) ((K : Int) - 1075)).toNat := Nat.pow_le_pow_right (by omega) (by omega)
    have hm : 2 ^ 52 * 2 ^ 1 ≤ 2 ^ 52 * 2 ^ ((K : Int) - 1075 - min ((E : Int) - 1075) ((K : Int) - 1075)).toNat := Nat.mul_le_mul_left _ hp
    exact congrArg some (Int.compare_eq_lt.mpr (by omega))
theorem DD_self {E t : Nat} (h : okD E t) : FP.dcmp (DD E t) (DD E t) = some .eq := by
  have h1 := DD_dec h
  have e : FP.dcmp (DD E t) (DD E t) = FP.Core.order (FP.Core.decode FP.Core.b64 (DD E t).toNat) (FP.Core.decode FP.Core.b64 (DD E t).toNat) := rfl
  rw [e, h1, order_fin]
  exact congrArg some (Int.compare_eq_eq.mpr rfl)
theorem DD_pos {E t : Nat} (h : okD E t) : FP.dcmp (DD E t) FP.dconst0 = some .gt := by
  have h1 := DD_dec h
  have e : FP.dcmp (DD E t) FP.dconst0 = FP.Core.order (FP.Core.decode FP.Core.b64 (DD E t).toNat) (FP.Core.decode FP.Core.b64 FP.dconst0.toNat) := rfl
  have e0 : FP.Core.decode FP.Core.b64 FP.dconst0.toNat = .fin false 0 (-1074) := by decide
  rw [e, h1, e0, order_fin]
  unfold FP.Core.signed FP.Core.inUnits
  rw [if_neg (by decide), if_neg (by decide), Nat.zero_mul]
  have : 0 < (2 ^ 52 + t) * 2 ^ ((E : Int) - 1075 - min ((E : Int) - 1075) (-1074)).toNat := Nat.mul_pos (by omega) (Nat.two_pow_pos _)
  exact congrArg some (Int.compare_eq_gt.mpr (by omega))
theorem DD_nan {E t : Nat} (h : okD E t) : DD E t &&& 0x7fffffffffffffff ≤ 0x7ff0000000000000 := by
  have hn := DD_nat h
  unfold okD at h
  rw [UInt64.le_iff_toNat_le, UInt64.toNat_and, hn]
  have := Nat.and_le_left (n := E * 2 ^ 52 + t) (m := (0x7fffffffffffffff : UInt64).toNat)
  have e : (0x7ff0000000000000 : UInt64).toNat = 2047 * 2 ^ 52 := by decide
  rw [e]
  omega
/-- the quotient of two whole numbers -/
theorem i2d_dec {s : Nat} (h0 : 1 ≤ s) (h1 : s < 10000) : FP.Core.decode FP.Core.b64 (FP.i2d (I s)).toNat = .fin false (s * 2 ^ (52 - s.log2)) ((s.log2 : Int) - 52) ∧ nrm 52 (s * 2 ^ (52 - s.log2)) ∧ s.log2 ≤ 13 := by
  have hlg : s.log2 ≤ 13 := by
    have := (Nat.log2_lt (n := s) (k := 14) (by omega)).mpr (by omega)
    omega
  obtain ⟨r1, r2, r3⟩ := round_int (f := FP.Core.b64) (b := 52) (s := s) b64p h0 (by omega) (by rw [b64q]; omega) (by rw [b64Q]; omega)
  have e : FP.i2d (I s) = UInt64.ofNat (FP.Core.encode FP.Core.b64 (FP.Core.roundRatio FP.Core.b64 false s 1 0)) := by
    show UInt64.ofNat (FP.Core.encode FP.Core.b64 (FP.Core.round FP.Core.b64 (.fin (decide ((I (s : Int)).toInt < 0)) (I (s : Int)).toInt.natAbs 0))) = _
    rw [Int32.toInt_ofInt_of_le (by omega) (by omega), decide_eq_false (by omega), Int.natAbs_natCast]
    rfl
  obtain ⟨d1, d2⟩ := DD_enc r2 (q := (s.log2 : Int) - 52) (by omega)
  have r1 : FP.Core.roundRatio FP.Core.b64 false s 1 0 = .fin false (s * 2 ^ (52 - s.log2)) ((s.log2 : Int) - 52) := r1
  refine ⟨?_, r2, hlg⟩
  rw [e, r1, d1, DD_dec d2]
  obtain ⟨n1, n2⟩ := r2
  rw [show 2 ^ 52 + (s * 2 ^ (52 - s.log2) - 2 ^ 52) = s * 2 ^ (52 - s.log2) by omega, show ((((s.log2 : Int) - 52 + 1075).toNat : Nat) : Int) - 1075 = (s.log2 : Int) - 52 by omega]
theorem ddiv_int {s n : Nat} (hs : 1 ≤ s ∧ s < 10000) (hn : 1 ≤ n ∧ n < 10000) : ∃ E t, FP.ddiv (FP.i2d (I s)) (FP.i2d (I n)) = DD E t ∧ okD E t ∧ 1000 ≤ E ∧ E ≤ 1050 := by
  obtain ⟨d1, d2, d3⟩ := i2d_dec hs.1 hs.2
  obtain ⟨e1, e2, e3⟩ := i2d_dec hn.1 hn.2
  obtain ⟨c', q', w1, w2, w3, w4⟩ := round_quot (f := FP.Core.b64) (b := 52) (e := ((s.log2 : Int) - 52) - ((n.log2 : Int) - 52)) b64p d2 e2 (by rw [b64q]; omega) (by rw [b64Q]; omega)
  obtain ⟨x1, x2⟩ := DD_enc w2 (q := q') (by omega)
  refine ⟨_, _, ?_, x2, by omega, by omega⟩
  rw [← x1, ← w1]
  show UInt64.ofNat (FP.Core.encode FP.Core.b64 (FP.Core.quotient FP.Core.b64 (FP.Core.decode FP.Core.b64 (FP.i2d (I s)).toNat) (FP.Core.decode FP.Core.b64 (FP.i2d (I n)).toNat))) = _
  rw [d1, e1, quot_fin (by have := e2.1; have := Nat.two_pow_pos 52; omega)]
  rfl
