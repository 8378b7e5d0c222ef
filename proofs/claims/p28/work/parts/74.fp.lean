/-! Floating point: normal numbers above 0. -/
def nrm (b c : Nat) : Prop := 2 ^ b ≤ c ∧ c < 2 ^ (b + 1)
theorem nrm_log {b c : Nat} (h : nrm b c) : c.log2 = b := (Nat.log2_eq_iff (by have := Nat.two_pow_pos b; unfold nrm at h; omega)).mpr ⟨h.1, h.2⟩
theorem nearest_ex (c m : Nat) (hm : 0 < m) : FP.Core.nearest (c * m) m = c := by
  unfold FP.Core.nearest
  rw [Nat.mul_mod_left, if_pos (by omega), Nat.mul_div_cancel _ hm]
theorem nearest_bd {n d b : Nat} (hd : 0 < d) (h1 : 2 ^ b * d ≤ n) (h2 : n < 2 ^ (b + 1) * d) : 2 ^ b ≤ FP.Core.nearest n d ∧ FP.Core.nearest n d ≤ 2 ^ (b + 1) := by
  have q1 : 2 ^ b ≤ n / d := (Nat.le_div_iff_mul_le hd).mpr h1
  have q2 : n / d < 2 ^ (b + 1) := (Nat.div_lt_iff_lt_mul hd).mpr h2
  unfold FP.Core.nearest
  split
  · omega
  · split
    · omega
    · omega
theorem settle_n {f : FP.Core.Fmt} {b c : Nat} {q : Int} (hf : f.p = b + 1) (h1 : 2 ^ b ≤ c) (h2 : c ≤ 2 ^ (b + 1)) (hq : q + 1 ≤ f.qmax) : ∃ c' q', FP.Core.settle f false c q = .fin false c' q' ∧ nrm b c' ∧ q ≤ q' ∧ q' ≤ q + 1 := by
  have ht : f.tails = 2 ^ b := by unfold FP.Core.Fmt.tails; rw [hf]; rfl
  unfold FP.Core.settle FP.Core.bound
  rw [hf, ht]
  by_cases hc : c < 2 ^ (b + 1)
  · rw [if_pos hc, if_pos (by omega)]
    exact ⟨c, q, rfl, ⟨h1, hc⟩, by omega, by omega⟩
  · rw [if_neg hc, if_pos hq]
    exact ⟨2 ^ b, q + 1, rfl, ⟨Nat.le_refl _, by rw [Nat.pow_succ]; have := Nat.two_pow_pos b; omega⟩, by omega, by omega⟩
theorem settle_e {f : FP.Core.Fmt} {b c : Nat} {q : Int} (hf : f.p = b + 1) (hc : nrm b c) (hq : q ≤ f.qmax) : FP.Core.settle f false c q = .fin false c q := by
  unfold FP.Core.settle FP.Core.bound
  rw [hf, if_pos hc.2, if_pos hq]
theorem round_pow {f : FP.Core.Fmt} {b c i j : Nat} {e : Int} (hf : f.p = b + 1) (hc : nrm b c) (h1 : f.qmin ≤ e + j - i) (h2 : e + j - i ≤ f.qmax) : FP.Core.roundRatio f false (c * 2 ^ j) (2 ^ i) e = .fin false c (e + j - i) := by
  have pb := Nat.two_pow_pos b
  have hc0 : 0 < c := Nat.lt_of_lt_of_le pb hc.1
  have hnz : c * 2 ^ j ≠ 0 := Nat.mul_ne_zero (by omega) (by have := Nat.two_pow_pos j; omega)
  have hl1 : (c * 2 ^ j).log2 = b + j := (Nat.log2_eq_iff hnz).mpr ⟨by rw [Nat.pow_add]; exact Nat.mul_le_mul_right _ hc.1, by rw [show b + j + 1 = (b + 1) + j by omega, Nat.pow_add]; exact Nat.mul_lt_mul_of_pos_right hc.2 (Nat.two_pow_pos j)⟩
  have hl2 : (2 ^ i).log2 = i := (Nat.log2_eq_iff (by have := Nat.two_pow_pos i; omega)).mpr ⟨Nat.le_refl _, Nat.pow_lt_pow_right (by omega) (by omega)⟩
  have hle : FP.Core.leading (c * 2 ^ j) (2 ^ i) = (b : Int) + j - i := by
    unfold FP.Core.leading
    rw [hl1, hl2]
    dsimp only
    rw [if_pos]
    · omega
    · rcases Nat.le_total i (b + j) with w | w
      · rw [show (((b + j : Nat) : Int) - (i : Int)).toNat = b + j - i by omega, show (-(((b + j : Nat) : Int) - (i : Int))).toNat = 0 by omega, Nat.pow_zero, Nat.mul_one, ← Nat.pow_add, show i + (b + j - i) = b + j by omega, Nat.pow_add]
        exact Nat.mul_le_mul_right _ hc.1
      · rw [show (((b + j : Nat) : Int) - (i : Int)).toNat = 0 by omega, show (-(((b + j : Nat) : Int) - (i : Int))).toNat = i - (b + j) by omega, Nat.pow_zero, Nat.mul_one, Nat.mul_assoc, ← Nat.pow_add]
        have : 2 ^ i = 2 ^ b * 2 ^ (j + (i - (b + j))) := by rw [← Nat.pow_add]; congr 1; omega
        rw [this]
        exact Nat.mul_le_mul_right _ hc.1
  have hqu : FP.Core.quantum f (c * 2 ^ j) (2 ^ i) e = e + j - i := by
    unfold FP.Core.quantum
    rw [hle, hf]
    rw [Int.max_eq_right (by omega)]
    omega
  unfold FP.Core.roundRatio
  rw [if_neg hnz, hqu]
  unfold FP.Core.roundAt FP.Core.unitsNum FP.Core.unitsDen
  have hun : c * 2 ^ j * 2 ^ (e - (e + (j : Int) - i)).toNat = c * (2 ^ i * 2 ^ ((e + (j : Int) - i) - e).toNat) := by
    rw [Nat.mul_assoc, ← Nat.pow_add, ← Nat.pow_add]
    congr 2
    omega
  rw [hun, nearest_ex _ _ (Nat.mul_pos (Nat.two_pow_pos _) (Nat.two_pow_pos _))]
  exact settle_e hf hc h2
theorem round_int {f : FP.Core.Fmt} {b s : Nat} (hf : f.p = b + 1) (h0 : 1 ≤ s) (hs : s < 2 ^ (b + 1)) (h1 : f.qmin ≤ (s.log2 : Int) - b) (h2 : (s.log2 : Int) - b ≤ f.qmax) : FP.Core.roundRatio f false s 1 0 = .fin false (s * 2 ^ (b - s.log2)) ((s.log2 : Int) - b) ∧ nrm b (s * 2 ^ (b - s.log2)) ∧ s.log2 ≤ b := by
  have hlb : s.log2 ≤ b := by
    have := (Nat.log2_lt (by omega)).mpr hs
    omega
  obtain ⟨l1, l2⟩ := (Nat.log2_eq_iff (n := s) (k := s.log2) (by omega)).mp rfl
  have hn : nrm b (s * 2 ^ (b - s.log2)) := by
    constructor
    · have : 2 ^ b = 2 ^ s.log2 * 2 ^ (b - s.log2) := by rw [← Nat.pow_add]; congr 1; omega
      rw [this]
      exact Nat.mul_le_mul_right _ l1
    · have : 2 ^ (b + 1) = 2 ^ (s.log2 + 1) * 2 ^ (b - s.log2) := by rw [← Nat.pow_add]; congr 1; omega
      rw [this]
      exact Nat.mul_lt_mul_of_pos_right l2 (Nat.two_pow_pos _)
  refine ⟨?_, hn, hlb⟩
  have hle : FP.Core.leading s 1 = (s.log2 : Int) := by
    unfold FP.Core.leading
    have e1 : (1 : Nat).log2 = 0 := by decide
    rw [e1]
    dsimp only
    rw [if_pos]
    · omega
    · rw [show (((s.log2 : Nat) : Int) - ((0 : Nat) : Int)).toNat = s.log2 by omega, show (-(((s.log2 : Nat) : Int) - ((0 : Nat) : Int))).toNat = 0 by omega]
      omega
  have hqu : FP.Core.quantum f s 1 0 = (s.log2 : Int) - b := by
    unfold FP.Core.quantum
    rw [hle, hf, Int.max_eq_right (by omega)]
    omega
  unfold FP.Core.roundRatio
  rw [if_neg (by omega), hqu]
  unfold FP.Core.roundAt FP.Core.unitsNum FP.Core.unitsDen
  rw [show ((0 : Int) - ((s.log2 : Int) - b)).toNat = b - s.log2 by omega, show (((s.log2 : Int) - b) - 0).toNat = 0 by omega, show 1 * 2 ^ 0 = 1 from rfl]
  have := nearest_ex (s * 2 ^ (b - s.log2)) 1 (by omega)
  rw [Nat.mul_one] at this
  rw [this]
  exact settle_e hf hn h2
theorem round_quot {f : FP.Core.Fmt} {b c d : Nat} {e : Int} (hf : f.p = b + 1) (hc : nrm b c) (hd : nrm b d) (h1 : f.qmin ≤ e - b - 1) (h2 : e - b + 1 ≤ f.qmax) : ∃ c' q', FP.Core.roundRatio f false c d e = .fin false c' q' ∧ nrm b c' ∧ e - b - 1 ≤ q' ∧ q' ≤ e - b + 1 := by
  have pb := Nat.two_pow_pos b
  have hc0 : 0 < c := Nat.lt_of_lt_of_le pb hc.1
  have hd0 : 0 < d := Nat.lt_of_lt_of_le pb hd.1
  have hps : 2 ^ (b + 1) = 2 * 2 ^ b := by rw [Nat.pow_succ]; omega
  obtain ⟨c1, c2⟩ := id hc
  obtain ⟨d1, d2⟩ := id hd
  unfold FP.Core.roundRatio
  rw [if_neg (by omega)]
  have go : ∀ q : Int, e - b - 1 ≤ q → q ≤ e - b → 2 ^ b * FP.Core.unitsDen d e q ≤ FP.Core.unitsNum c e q → FP.Core.unitsNum c e q < 2 ^ (b + 1) * FP.Core.unitsDen d e q → ∃ c' q', FP.Core.roundAt f false c d e q = .fin false c' q' ∧ nrm b c' ∧ e - b - 1 ≤ q' ∧ q' ≤ e - b + 1 := by
    intro q q1 q2 q3 q4
    have hdp : 0 < FP.Core.unitsDen d e q := Nat.mul_pos hd0 (Nat.two_pow_pos _)
    obtain ⟨n1, n2⟩ := nearest_bd hdp q3 q4
    obtain ⟨c', q', w1, w2, w3, w4⟩ := settle_n (q := q) hf n1 n2 (by omega)
    exact ⟨c', q', w1, w2, by omega, by omega⟩
  by_cases hcd : d ≤ c
  · have hle : FP.Core.leading c d = 0 := by
      unfold FP.Core.leading
      rw [nrm_log hc, nrm_log hd]
      dsimp only
      rw [show (b : Int) - (b : Int) = 0 by omega]
      rw [if_pos (by simpa using hcd)]
    have hqu : FP.Core.quantum f c d e = e - b := by
      unfold FP.Core.quantum
      rw [hle, hf, Int.max_eq_right (by omega)]
      omega
    rw [hqu]
    refine go _ (by omega) (by omega) ?_ ?_
    · unfold FP.Core.unitsDen FP.Core.unitsNum
      rw [show (e - b - e).toNat = 0 by omega, show (e - (e - (b : Int))).toNat = b by omega, Nat.pow_zero, Nat.mul_one, Nat.mul_comm]
      exact Nat.mul_le_mul_right _ hcd
    · unfold FP.Core.unitsDen FP.Core.unitsNum
      rw [show (e - b - e).toNat = 0 by omega, show (e - (e - (b : Int))).toNat = b by omega, Nat.pow_zero, Nat.mul_one, hps, Nat.mul_comm 2, Nat.mul_assoc, Nat.mul_comm (2 ^ b)]
      exact Nat.mul_lt_mul_of_pos_right (by omega) pb
  · have hle : FP.Core.leading c d = -1 := by
      unfold FP.Core.leading
      rw [nrm_log hc, nrm_log hd]
      dsimp only
      rw [show (b : Int) - (b : Int) = 0 by omega]
      rw [if_neg (by simpa using (by omega : c < d))]
      rfl
    have hqu : FP.Core.quantum f c d e = e - b - 1 := by
      unfold FP.Core.quantum
      rw [hle, hf, Int.max_eq_right (by omega)]
      omega
    rw [hqu]
    refine go _ (by omega) (by omega) ?_ ?_
    · unfold FP.Core.unitsDen FP.Core.unitsNum
      rw [show (e - b - 1 - e).toNat = 0 by omega, show (e - (e - (b : Int) - 1)).toNat = b + 1 by omega, Nat.pow_zero, Nat.mul_one, hps, ← Nat.mul_assoc, Nat.mul_comm]
      exact Nat.mul_le_mul_right _ (by omega)
    · unfold FP.Core.unitsDen FP.Core.unitsNum
      rw [show (e - b - 1 - e).toNat = 0 by omega, show (e - (e - (b : Int) - 1)).toNat = b + 1 by omega, Nat.pow_zero, Nat.mul_one, Nat.mul_comm (2 ^ (b + 1))]
      exact Nat.mul_lt_mul_of_pos_right (by omega) (Nat.two_pow_pos _)
theorem enc_n {f : FP.Core.Fmt} {b c : Nat} {q : Int} (hf : f.p = b + 1) (hc : nrm b c) : FP.Core.encode f (.fin false c q) = ((q - f.qmin).toNat + 1) * 2 ^ b + (c - 2 ^ b) := by
  have ht : f.tails = 2 ^ b := by unfold FP.Core.Fmt.tails; rw [hf]; rfl
  unfold FP.Core.encode FP.Core.assemble
  dsimp only
  rw [ht, if_neg (by have := hc.1; omega)]
  congr 2
  show 0 * f.exps + _ = _
  omega
theorem dec_n {f : FP.Core.Fmt} {b E t : Nat} (hf : f.p = b + 1) (h1 : 1 ≤ E) (h2 : E + 1 < f.exps) (ht : t < 2 ^ b) : FP.Core.decode f (E * 2 ^ b + t) = .fin false (2 ^ b + t) (f.qmin + ((E : Int) - 1)) := by
  have htt : f.tails = 2 ^ b := by unfold FP.Core.Fmt.tails; rw [hf]; rfl
  have pb := Nat.two_pow_pos b
  have e1 : FP.Core.fieldT f (E * 2 ^ b + t) = t := by
    unfold FP.Core.fieldT
    rw [htt, Nat.mul_add_mod_self_right, Nat.mod_eq_of_lt ht]
  have e0 : (E * 2 ^ b + t) / 2 ^ b = E := by
    rw [Nat.mul_comm, Nat.mul_add_div pb, Nat.div_eq_of_lt ht, Nat.add_zero]
  have e2 : FP.Core.fieldE f (E * 2 ^ b + t) = E := by
    unfold FP.Core.fieldE
    rw [htt, e0, Nat.mod_eq_of_lt (by omega)]
  have e3 : FP.Core.fieldS f (E * 2 ^ b + t) = false := by
    unfold FP.Core.fieldS
    rw [htt, e0, Nat.div_eq_of_lt (by omega)]
    rfl
  unfold FP.Core.decode
  rw [e1, e2, e3, if_neg (by omega), if_neg (by omega), htt]
