/-! Floats above 0; bitsOf; the Model's ratio and share. -/
def FF (E t : Nat) : UInt32 := UInt32.ofNat (E * 2 ^ 23 + t)
def okFF (E t : Nat) : Prop := 100 ≤ E ∧ E ≤ 160 ∧ t < 2 ^ 23
theorem FF_nat {E t : Nat} (h : okFF E t) : (FF E t).toNat = E * 2 ^ 23 + t := by
  unfold okFF at h
  exact UInt32.toNat_ofNat_of_lt' (by show E * 2 ^ 23 + t < 2 ^ 32; omega)
theorem FF_dec {E t : Nat} (h : okFF E t) : FP.Core.decode FP.Core.b32 (FF E t).toNat = .fin false (2 ^ 23 + t) ((E : Int) - 150) := by
  unfold okFF at h
  rw [FF_nat h, dec_n b32p (by omega) (by rw [b32e]; omega) h.2.2, b32q]
  congr 1
  omega
theorem nrm23 {t : Nat} (h : t < 2 ^ 23) : nrm 23 (2 ^ 23 + t) := ⟨by omega, by rw [show (2 : Nat) ^ (23 + 1) = 2 ^ 23 + 2 ^ 23 by decide]; omega⟩
theorem FF_enc {c : Nat} {q : Int} (hc : nrm 23 c) (hq : -50 ≤ q ∧ q ≤ 10) : UInt32.ofNat (FP.Core.encode FP.Core.b32 (.fin false c q)) = FF (q + 150).toNat (c - 2 ^ 23) ∧ okFF (q + 150).toNat (c - 2 ^ 23) := by
  obtain ⟨c1, c2⟩ := id hc
  have e2 : (2 : Nat) ^ (23 + 1) = 2 ^ 23 + 2 ^ 23 := by decide
  rw [e2] at c2
  refine ⟨?_, by omega, by omega, by omega⟩
  rw [enc_n b32p hc, b32q]
  unfold FF
  rw [show (q - -149).toNat + 1 = (q + 150).toNat by omega]
theorem round_int_e {f : FP.Core.Fmt} {b s : Nat} {e : Int} (hf : f.p = b + 1) (h0 : 1 ≤ s) (hs : s < 2 ^ (b + 1)) (h1 : f.qmin ≤ (s.log2 : Int) - b + e) (h2 : (s.log2 : Int) - b + e ≤ f.qmax) : FP.Core.roundRatio f false s 1 e = .fin false (s * 2 ^ (b - s.log2)) ((s.log2 : Int) - b + e) ∧ nrm b (s * 2 ^ (b - s.log2)) ∧ s.log2 ≤ b := by
  have hlb : s.log2 ≤ b := by
    have := (Nat.log2_lt (by omega)).mpr hs
    omega
  obtain ⟨l1, l2⟩ := (Nat.log2_eq_iff (n := s) (k := s.log2) (by omega)).mp rfl
  have hn : nrm b (s * 2 ^ (b - s.log2)) := by
    constructor
    · have : 2 ^ b = 2 ^ s.log2 * 2 ^ (b - s.log2) := by rw [← Nat.pow_add]; congr 1; omega
      rw [this]
      exact Nat.mul_le_mul_right _ l1
    · have : 2 ^ (b + 1) = 2 ^ (s.log2 + 1) * 2 ^ (b - s.log2) := by rw [← Nat.pow_add]; congr 1; omega
      rw [this]
      exact Nat.mul_lt_mul_of_pos_right l2 (Nat.two_pow_pos _)
  refine ⟨?_, hn, hlb⟩
  have hle : FP.Core.leading s 1 = (s.log2 : Int) := by
    unfold FP.Core.leading
    have e1 : (1 : Nat).log2 = 0 := by decide
    rw [e1]
    dsimp only
    rw [if_pos]
    · omega
    · rw [show (((s.log2 : Nat) : Int) - ((0 : Nat) : Int)).toNat = s.log2 by omega, show (-(((s.log2 : Nat) : Int) - ((0 : Nat) : Int))).toNat = 0 by omega]
      omega
  have hqu : FP.Core.quantum f s 1 e = (s.log2 : Int) - b + e := by
    unfold FP.Core.quantum
    rw [hle, hf, Int.max_eq_right (by omega)]
    omega
  unfold FP.Core.roundRatio
  rw [if_neg (by omega), hqu]
  unfold FP.Core.roundAt FP.Core.unitsNum FP.Core.unitsDen
  rw [show (e - ((s.log2 : Int) - b + e)).toNat = b - s.log2 by omega, show (((s.log2 : Int) - b + e) - e).toNat = 0 by omega, show 1 * 2 ^ 0 = 1 from rfl]
  have := nearest_ex (s * 2 ^ (b - s.log2)) 1 (by omega)
  rw [Nat.mul_one] at this
  rw [this]
  exact settle_e hf hn h2
theorem i2f_dec {s : Nat} (h0 : 1 ≤ s) (h1 : s < 10000) : FP.Core.decode FP.Core.b32 (FP.i2f (I s)).toNat = .fin false (s * 2 ^ (23 - s.log2)) ((s.log2 : Int) - 23) ∧ nrm 23 (s * 2 ^ (23 - s.log2)) ∧ s.log2 ≤ 13 := by
  have hlg : s.log2 ≤ 13 := by
    have := (Nat.log2_lt (n := s) (k := 14) (by omega)).mpr (by omega)
    omega
  obtain ⟨r1, r2, r3⟩ := round_int (f := FP.Core.b32) (b := 23) (s := s) b32p h0 (by omega) (by rw [b32q]; omega) (by rw [b32Q]; omega)
  have r1 : FP.Core.roundRatio FP.Core.b32 false s 1 0 = .fin false (s * 2 ^ (23 - s.log2)) ((s.log2 : Int) - 23) := r1
  have e : FP.i2f (I s) = UInt32.ofNat (FP.Core.encode FP.Core.b32 (FP.Core.roundRatio FP.Core.b32 false s 1 0)) := by
    show UInt32.ofNat (FP.Core.encode FP.Core.b32 (FP.Core.round FP.Core.b32 (.fin (decide ((I (s : Int)).toInt < 0)) (I (s : Int)).toInt.natAbs 0))) = _
    rw [Int32.toInt_ofInt_of_le (by omega) (by omega), decide_eq_false (by omega), Int.natAbs_natCast]
    rfl
  obtain ⟨d1, d2⟩ := FF_enc r2 (q := (s.log2 : Int) - 23) (by omega)
  refine ⟨?_, r2, hlg⟩
  rw [e, r1, d1, FF_dec d2]
  obtain ⟨n1, n2⟩ := r2
  rw [show 2 ^ 23 + (s * 2 ^ (23 - s.log2) - 2 ^ 23) = s * 2 ^ (23 - s.log2) by omega, show ((((s.log2 : Int) - 23 + 150).toNat : Nat) : Int) - 150 = (s.log2 : Int) - 23 by omega]
theorem fdiv_int {s n : Nat} (hs : 1 ≤ s ∧ s < 10000) (hn : 1 ≤ n ∧ n < 10000) : ∃ E t, FP.fdiv (FP.i2f (I s)) (FP.i2f (I n)) = FF E t ∧ okFF E t ∧ 105 ≤ E ∧ E ≤ 150 := by
  obtain ⟨d1, d2, d3⟩ := i2f_dec hs.1 hs.2
  obtain ⟨e1, e2, e3⟩ := i2f_dec hn.1 hn.2
  obtain ⟨c', q', w1, w2, w3, w4⟩ := round_quot (f := FP.Core.b32) (b := 23) (e := ((s.log2 : Int) - 23) - ((n.log2 : Int) - 23)) b32p d2 e2 (by rw [b32q]; omega) (by rw [b32Q]; omega)
  obtain ⟨x1, x2⟩ := FF_enc w2 (q := q') (by omega)
  refine ⟨_, _, ?_, x2, by omega, by omega⟩
  rw [← x1, ← w1]
  show UInt32.ofNat (FP.Core.encode FP.Core.b32 (FP.Core.quotient FP.Core.b32 (FP.Core.decode FP.Core.b32 (FP.i2f (I s)).toNat) (FP.Core.decode FP.Core.b32 (FP.i2f (I n)).toNat))) = _
  rw [d1, e1, quot_fin (by have := e2.1; have := Nat.two_pow_pos 23; omega)]
  rfl
theorem fdiv_0 {n : Nat} (hn : 1 ≤ n ∧ n < 10000) : FP.fdiv (FP.i2f (I 0)) (FP.i2f (I n)) = 0 := by
  obtain ⟨e1, e2, e3⟩ := i2f_dec hn.1 hn.2
  show UInt32.ofNat (FP.Core.encode FP.Core.b32 (FP.Core.quotient FP.Core.b32 (FP.Core.decode FP.Core.b32 (FP.i2f (I 0)).toNat) (FP.Core.decode FP.Core.b32 (FP.i2f (I n)).toNat))) = _
  have e0 : FP.Core.decode FP.Core.b32 (FP.i2f (I 0)).toNat = .fin false 0 (-149) := by decide
  rw [e0, e1, quot_fin (by have := e2.1; have := Nat.two_pow_pos 23; omega)]
  unfold FP.Core.roundRatio
  rw [if_pos rfl]
  decide
theorem FF_f2d {E t : Nat} (h : okFF E t) : FP.f2d (FF E t) = DD (E + 896) (t * 2 ^ 29) := by
  have h1 := FF_dec h
  obtain ⟨a1, a2, a3⟩ := id h
  have hnn : FP.Core.fIsNaN (FF E t) = false := by
    show decide (FP.Core.decode FP.Core.b32 (FF E t).toNat = .nan) = false
    rw [h1]
    rfl
  unfold FP.f2d
  rw [hnn, if_neg (by decide)]
  show UInt64.ofNat (FP.Core.encode FP.Core.b64 (FP.Core.round FP.Core.b64 (FP.Core.decode FP.Core.b32 (FF E t).toNat))) = _
  rw [h1]
  show UInt64.ofNat (FP.Core.encode FP.Core.b64 (FP.Core.roundRatio FP.Core.b64 false (2 ^ 23 + t) 1 ((E : Int) - 150))) = _
  have hlg : (2 ^ 23 + t).log2 = 23 := nrm_log (nrm23 a3)
  obtain ⟨r1, r2, r3⟩ := round_int_e (f := FP.Core.b64) (b := 52) (s := 2 ^ 23 + t) (e := (E : Int) - 150) b64p (by omega) (by omega) (by rw [b64q, hlg]; omega) (by rw [b64Q, hlg]; omega)
  rw [r1]
  rw [hlg] at r2 ⊢
  rw [(DD_enc r2 (by omega)).1]
  rw [show (((23 : Nat) : Int) - ((52 : Nat) : Int) + ((E : Int) - 150) + 1075).toNat = E + 896 by omega, show (2 ^ 23 + t) * 2 ^ (52 - 23) - 2 ^ 52 = t * 2 ^ 29 by omega]
theorem FF_nan {E t : Nat} (h : okFF E t) : FF E t &&& 0x7fffffff ≤ 0x7f800000 := by
  have hn := FF_nat h
  unfold okFF at h
  rw [UInt32.le_iff_toNat_le, UInt32.toNat_and, hn]
  have := Nat.and_le_left (n := E * 2 ^ 23 + t) (m := (0x7fffffff : UInt32).toNat)
  have e : (0x7f800000 : UInt32).toNat = 255 * 2 ^ 23 := by decide
  rw [e]
  omega
theorem FF_self {E t : Nat} (h : okFF E t) : FP.fcmp (FF E t) (FF E t) = some .eq := by
  have h1 := FF_dec h
  have e : FP.fcmp (FF E t) (FF E t) = FP.Core.order (FP.Core.decode FP.Core.b32 (FF E t).toNat) (FP.Core.decode FP.Core.b32 (FF E t).toNat) := rfl
  rw [e, h1, order_fin]
  exact congrArg some (Int.compare_eq_eq.mpr rfl)
def spRatio (G : GS) : Int64 := if wlG G = 0 then 0 else (FP.ddiv (FP.i2d (I (szG G))) (FP.i2d (I (wlG G)))).toInt64
def shr (a n : Int) : Int32 := (FP.fdiv (FP.i2f (I a)) (FP.i2f (I n))).toInt32
def spShare (l : Int) (G : GS) : Int := if 0 ≤ l ∧ l < 8 then (if wlG G = 0 then 0 else (shr (cntE l (wordG G) : Int) (wlG G)).toInt) else -1
section LNG2
variable {c : MM} {ln nx tg r1 r2 r3 pc : Nat} {lv : LV} {r : List Value} {M : PM} {Q : Option Value → PM → Prop}
theorem wq_dcmp {x y : UInt64} {op : CmpOp} {o : Ordering} (h : FP.dcmp x y = some o) (k : Wp c (nx, lv, .int (I (match o with | .gt => 1 | .eq => 0 | .lt => -1)) :: r, M) Q) : Wq c (.dcmp op, ln, nx, tg, r1, r2, r3) pc lv (.double y :: .double x :: r) M Q := by
  refine wq_k (sk' := .int (Op.cmpValue (FP.dcmp x y) op) :: r) rfl ?_
  rw [h]
  cases o <;> exact k
theorem wq_fcmp {x y : UInt32} {op : CmpOp} {o : Ordering} (h : FP.fcmp x y = some o) (k : Wp c (nx, lv, .int (I (match o with | .gt => 1 | .eq => 0 | .lt => -1)) :: r, M) Q) : Wq c (.fcmp op, ln, nx, tg, r1, r2, r3) pc lv (.float y :: .float x :: r) M Q := by
  refine wq_k (sk' := .int (Op.cmpValue (FP.fcmp x y) op) :: r) rfl ?_
  rw [h]
  cases o <;> exact k
theorem wq_dcmpE {x y : UInt64} {op : CmpOp} (h : FP.dcmp x y = some .eq) (k : Wp c (nx, lv, .int (I 0) :: r, M) Q) : Wq c (.dcmp op, ln, nx, tg, r1, r2, r3) pc lv (.double y :: .double x :: r) M Q := wq_dcmp h k
theorem wq_dcmpG {x y : UInt64} {op : CmpOp} (h : FP.dcmp x y = some .gt) (k : Wp c (nx, lv, .int (I 1) :: r, M) Q) : Wq c (.dcmp op, ln, nx, tg, r1, r2, r3) pc lv (.double y :: .double x :: r) M Q := wq_dcmp h k
theorem wq_dcmpL {x y : UInt64} {op : CmpOp} (h : FP.dcmp x y = some .lt) (k : Wp c (nx, lv, .int (I (-1)) :: r, M) Q) : Wq c (.dcmp op, ln, nx, tg, r1, r2, r3) pc lv (.double y :: .double x :: r) M Q := wq_dcmp h k
theorem wq_fcmpE {x y : UInt32} {op : CmpOp} (h : FP.fcmp x y = some .eq) (k : Wp c (nx, lv, .int (I 0) :: r, M) Q) : Wq c (.fcmp op, ln, nx, tg, r1, r2, r3) pc lv (.float y :: .float x :: r) M Q := wq_fcmp h k
theorem wq_ddiv {x y z : UInt64} (h : FP.ddiv x y = z) (hz : z &&& 0x7fffffffffffffff ≤ 0x7ff0000000000000) (k : Wp c (nx, lv, .double z :: r, M) Q) : Wq c (.ddiv, ln, nx, tg, r1, r2, r3) pc lv (.double y :: .double x :: r) M Q := by
  refine wq_k (sk' := .double z :: r) ?_ k
  show (match decide (FP.ddiv x y &&& 0x7fffffffffffffff ≤ 0x7ff0000000000000) with
    | true => some (Value.double (FP.ddiv x y) :: r)
    | false => none) = _
  rw [h, decide_eq_true hz]
theorem wq_dmul {x y z : UInt64} (h : FP.dmul x y = z) (hz : z &&& 0x7fffffffffffffff ≤ 0x7ff0000000000000) (k : Wp c (nx, lv, .double z :: r, M) Q) : Wq c (.dmul, ln, nx, tg, r1, r2, r3) pc lv (.double y :: .double x :: r) M Q := by
  refine wq_k (sk' := .double z :: r) ?_ k
  show (match decide (FP.dmul x y &&& 0x7fffffffffffffff ≤ 0x7ff0000000000000) with
    | true => some (Value.double (FP.dmul x y) :: r)
    | false => none) = _
  rw [h, decide_eq_true hz]
theorem wq_fdiv {x y z : UInt32} (h : FP.fdiv x y = z) (hz : z &&& 0x7fffffff ≤ 0x7f800000) (k : Wp c (nx, lv, .float z :: r, M) Q) : Wq c (.fdiv, ln, nx, tg, r1, r2, r3) pc lv (.float y :: .float x :: r) M Q := by
  refine wq_k (sk' := .float z :: r) ?_ k
  show (match decide (FP.fdiv x y &&& 0x7fffffff ≤ 0x7f800000) with
    | true => some (Value.float (FP.fdiv x y) :: r)
    | false => none) = _
  rw [h, decide_eq_true hz]
theorem wq_f2d {x : UInt32} {z : UInt64} (h : FP.f2d x = z) (hz : z &&& 0x7fffffffffffffff ≤ 0x7ff0000000000000) (k : Wp c (nx, lv, .double z :: r, M) Q) : Wq c (.f2d, ln, nx, tg, r1, r2, r3) pc lv (.float x :: r) M Q := by
  refine wq_k (sk' := .double z :: r) ?_ k
  show (match decide (FP.f2d x &&& 0x7fffffffffffffff ≤ 0x7ff0000000000000) with
    | true => some (Value.double (FP.f2d x) :: r)
    | false => none) = _
  rw [h, decide_eq_true hz]
theorem wq_d2raw {x : UInt64} {ix : Nat} (hc : Nat.ble (catS r) 8 = true) (k : Wp c (nx, lv, .long x.toInt64 :: r, M) Q) : Wq c (.invokestatic ix, ln, nx, 6, r1, r2, r3) pc lv (.double x :: r) M Q := by
  refine wq_h rfl rfl rfl ?_ k
  have h : gN (.invokestatic ix) 6 (.double x :: r) M = some (.long x.toInt64 :: r, M) := by
    show (match Nat.ble (catS r) 8 with
      | true => some (Value.long x.toInt64 :: r, M)
      | false => none) = _
    rw [hc]
  unfold gH
  rw [show gF (.invokestatic ix) r1 r2 (.double x :: r) M = none from rfl, show gM (.invokestatic ix) r1 (.double x :: r) M = none from rfl]
  try dsimp only
  rw [h]
theorem wq_f2raw {x : UInt32} {ix : Nat} (hc : Nat.ble (catS r) 8 = true) (k : Wp c (nx, lv, .int x.toInt32 :: r, M) Q) : Wq c (.invokestatic ix, ln, nx, 7, r1, r2, r3) pc lv (.float x :: r) M Q := by
  refine wq_h rfl rfl rfl ?_ k
  have h : gN (.invokestatic ix) 7 (.float x :: r) M = some (.int x.toInt32 :: r, M) := by
    show (match Nat.ble (catS r) 8 with
      | true => some (Value.int x.toInt32 :: r, M)
      | false => none) = _
    rw [hc]
  unfold gH
  rw [show gF (.invokestatic ix) r1 r2 (.float x :: r) M = none from rfl, show gM (.invokestatic ix) r1 (.float x :: r) M = none from rfl]
  try dsimp only
  rw [h]
end LNG2
section MD23
variable {M : PM} {m : Nat} {S : ST}
end MD23
