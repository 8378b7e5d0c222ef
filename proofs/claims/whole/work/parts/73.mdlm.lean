/-! Longs; the Model's put. -/
def Lu (n : Nat) : Int64 := (UInt64.ofNat n).toInt64
theorem Lu_all (c : Int64) : ∃ n, n < 2 ^ 64 ∧ c = Lu n := by
  refine ⟨c.toUInt64.toNat, c.toUInt64.toNat_lt, ?_⟩
  unfold Lu
  rw [UInt64.ofNat_toNat]
  rfl
theorem Lu_sh {n b : Nat} (hn : n < 2 ^ 64) (hb : b < 8) : ((Lu n).toUInt64 >>> ((I (8 * (b : Int))).toInt64.toUInt64 &&& Int64.toUInt64 63)).toInt64 = Lu (n / 256 ^ b) := by
  have hk : ∀ b : Nat, b < 8 → (I (8 * (b : Int))).toInt64.toUInt64 &&& Int64.toUInt64 63 = UInt64.ofNat (8 * b) := by decide
  rw [hk b hb]
  have e1 : (Lu n).toUInt64 = UInt64.ofNat n := rfl
  rw [e1]
  unfold Lu
  congr 1
  have hd : n / 256 ^ b < 2 ^ 64 := Nat.lt_of_le_of_lt (Nat.div_le_self _ _) hn
  apply UInt64.toNat_inj.mp
  rw [UInt64.toNat_shiftRight, UInt64.toNat_ofNat_of_lt' hn, UInt64.toNat_ofNat_of_lt' hd, UInt64.toNat_ofNat_of_lt' (by show 8 * b < 2 ^ 64; omega), Nat.mod_eq_of_lt (by omega), Nat.shiftRight_eq_div_pow, Nat.pow_mul]
theorem Lu_and {n : Nat} (hn : n < 2 ^ 64) : Lu n &&& Int64.ofNat 255 = Lu (n % 256) := by
  apply Int64.toBitVec_inj.mp
  rw [Int64.toBitVec_and]
  apply BitVec.eq_of_toNat_eq
  rw [BitVec.toNat_and]
  have e1 : ∀ k, k < 2 ^ 64 → (Lu k).toBitVec.toNat = k := fun k hk => UInt64.toNat_ofNat_of_lt' hk
  rw [e1 n hn, e1 _ (by omega), show (Int64.ofNat 255).toBitVec.toNat = 2 ^ 8 - 1 by decide, Nat.and_two_pow_sub_one_eq_mod]
theorem Lu_i : ∀ n, n < 256 → (Lu n).toInt32 = I (n : Int) := by decide +kernel
theorem Lu_z : ∀ n, n < 256 → (Lu n).toInt = (n : Int) := by decide +kernel
theorem Lu_0 {n : Nat} (hn : n < 2 ^ 64) : (Lu n).toInt = (Int64.ofNat 0).toInt ↔ n = 0 := by
  constructor
  · intro h
    have h1 := Int64.toInt_inj.mp h
    have h2 : UInt64.ofNat n = UInt64.ofNat 0 := congrArg Int64.toUInt64 h1
    have h3 := congrArg UInt64.toNat h2
    rw [UInt64.toNat_ofNat_of_lt' hn] at h3
    exact h3
  · rintro rfl
    rfl
theorem Lu_ci {n : Nat} (hn : n < 2 ^ 64) : (Lu n).toInt32 &&& I 255 = I ((n % 256 : Nat) : Int) := by
  rw [← Lu_i _ (Nat.mod_lt _ (by omega)), ← Lu_and hn]
  apply Int32.toBitVec_inj.mp
  rw [Int32.toBitVec_and, Int64.toBitVec_toInt32, Int64.toBitVec_toInt32, BitVec.signExtend_eq_setWidth_of_le _ (by omega), BitVec.signExtend_eq_setWidth_of_le _ (by omega), Int64.toBitVec_and, BitVec.setWidth_and]
  rfl
section LNG
variable {c : MM} {ln nx tg r1 r2 r3 pc : Nat} {lv : LV} {r : List Value} {M : PM} {Q : Option Value → PM → Prop}
theorem wq_lushr {n b : Nat} {z : Int} (hn : n < 2 ^ 64) (hb : b < 8) (e : z = 8 * (b : Int)) (k : Wp c (nx, lv, .long (Lu (n / 256 ^ b)) :: r, M) Q) : Wq c (.lushr, ln, nx, tg, r1, r2, r3) pc lv (.int (I z) :: .long (Lu n) :: r) M Q := by
  subst e
  refine wq_k (sk' := .long (Lu (n / 256 ^ b)) :: r) ?_ k
  rw [← Lu_sh hn hb]
  rfl
theorem wq_land {n : Nat} (hn : n < 2 ^ 64) (k : Wp c (nx, lv, .long (Lu (n % 256)) :: r, M) Q) : Wq c (.land, ln, nx, tg, r1, r2, r3) pc lv (.long (Int64.ofNat 255) :: .long (Lu n) :: r) M Q := by
  refine wq_k (sk' := .long (Lu (n % 256)) :: r) ?_ k
  rw [← Lu_and hn]
  rfl
theorem wq_l2i {n : Nat} (hn : n < 256) (k : Wp c (nx, lv, .int (I (n : Int)) :: r, M) Q) : Wq c (.l2i, ln, nx, tg, r1, r2, r3) pc lv (.long (Lu n) :: r) M Q := by
  refine wq_k (sk' := .int (I (n : Int)) :: r) ?_ k
  rw [← Lu_i n hn]
  rfl
theorem wq_lcmp0 {n : Nat} (hn : n < 2 ^ 64) (k : ∀ z : Int, inR z → (z = 0 ↔ n = 0) → Wp c (nx, lv, .int (I z) :: r, M) Q) : Wq c (.lcmp, ln, nx, tg, r1, r2, r3) pc lv (.long (Int64.ofNat 0) :: .long (Lu n) :: r) M Q := by
  refine wq_lcmp (fun z hz => k z ⟨by omega, by omega⟩ ?_)
  rw [← Lu_0 hn]
  omega
end LNG
/-- how many characters a number tells, 0 if it is not well made -/
def lenF (u : Nat) : Nat → Int
  | 0 => 8
  | k + 1 => if u / 256 ^ (7 - k) % 256 = 0 then (if u / 256 ^ (7 - k) = 0 then ((7 - k : Nat) : Int) else 0) else if u / 256 ^ (7 - k) % 256 < 33 ∨ 126 < u / 256 ^ (7 - k) % 256 then 0 else lenF u k
def byt (u : Nat) : Nat → List Int
  | 0 => []
  | b + 1 => ((u / 256 ^ b % 256 : Nat) : Int) :: byt u b
theorem byt_len (u : Nat) : ∀ b, (byt u b).length = b
  | 0 => rfl
  | b + 1 => by rw [byt, List.length_cons, byt_len u b]
theorem lenF_bd (u : Nat) : ∀ k, 0 ≤ lenF u k ∧ lenF u k ≤ 8
  | 0 => by rw [lenF]; omega
  | k + 1 => by
    have ih := lenF_bd u k
    rw [lenF]
    split
    · split <;> omega
    · split <;> omega
def spPut (u : Nat) (S : ST) : Int × ST :=
  if lenF u 8 = 0 then (-2, S) else if 80 < (S.2.1.length : Int) + lenF u 8 then (-4, S) else ((S.2.1.length : Int) + lenF u 8, (S.1, S.2.1 ++ byt u (lenF u 8).toNat, S.2.2.1, S.2.2.2))
section MD22
variable {M : PM} {m : Nat} {S : ST}
theorem lp_mputW {u : Nat} {hl si re sp : Int} (hu : u < 2 ^ 64) : ∀ (k : Nat) (pad : List Int) (M1 : PM), k ≤ 8 → pad.length + k ≤ 80 → Fr (fun q => q = m ∨ q = m + 14) M M1 → MO M1 m hl si re (pad.length : Nat) sp → (∃ f, M1[m + 14]? = some (aJ 80 f) ∧ Lw f 0 pad) →
    Wp k_X10_put (106, [(0, .ref m), (1, .long (Lu u)), (7, .int (I ((k : Int) - 1)))], [], M1) (fun v M' => v = some (.int (I ((pad.length : Int) + k))) ∧ Fr (fun q => q = m ∨ q = m + 14) M M' ∧ MO M' m hl si re ((pad ++ byt u k).length : Nat) sp ∧ ∃ f, M'[m + 14]? = some (aJ 80 f) ∧ Lw f 0 (pad ++ byt u k)) := by
  intro k
  induction k with
  | zero =>
    rintro pad M1 i1 i2 i3 hO1 ⟨f, j1, j2⟩
    rw [byt, List.append_nil]
    repeat (refine wf rfl ?_; first | refine wq_iadd ?_ | refine wq_isub ?_ | refine wq_imul ?_ | refine wq_iinc rfl ?_ | refine wq_goto ?_ | refine wq_k rfl ?_ | refine wq_b rfl rfl ?_ | refine wq_getf (by assumption) rfl ?_ | refine wq_alen (by assumption) rfl ?_)
    refine wf rfl (wq_iflt ⟨by omega, by omega⟩ (fun _ => ?_) (fun c9 => by exfalso; omega))
    repeat' (refine wf rfl ?_; first | refine wq_iadd ?_ | refine wq_isub ?_ | refine wq_imul ?_ | refine wq_iinc rfl ?_ | refine wq_goto ?_ | refine wq_k rfl ?_ | refine wq_b rfl rfl ?_ | refine wq_getf (by assumption) rfl ?_ | refine wq_alen (by assumption) rfl ?_ | (refine wq_eq ⟨by omega, by omega⟩ ⟨by omega, by omega⟩ (fun _ => ?_) (fun _ => ?_) <;> try (exfalso; omega)) | (refine wq_ne ⟨by omega, by omega⟩ ⟨by omega, by omega⟩ (fun _ => ?_) (fun _ => ?_) <;> try (exfalso; omega)) | (refine wq_lt ⟨by omega, by omega⟩ ⟨by omega, by omega⟩ (fun _ => ?_) (fun _ => ?_) <;> try (exfalso; omega)) | (refine wq_ge ⟨by omega, by omega⟩ ⟨by omega, by omega⟩ (fun _ => ?_) (fun _ => ?_) <;> try (exfalso; omega)) | (refine wq_gt ⟨by omega, by omega⟩ ⟨by omega, by omega⟩ (fun _ => ?_) (fun _ => ?_) <;> try (exfalso; omega)) | (refine wq_le ⟨by omega, by omega⟩ ⟨by omega, by omega⟩ (fun _ => ?_) (fun _ => ?_) <;> try (exfalso; omega)) | (refine wq_ifeq ⟨by omega, by omega⟩ (fun _ => ?_) (fun _ => ?_) <;> try (exfalso; omega)) | (refine wq_ifne ⟨by omega, by omega⟩ (fun _ => ?_) (fun _ => ?_) <;> try (exfalso; omega)) | (refine wq_iflt ⟨by omega, by omega⟩ (fun _ => ?_) (fun _ => ?_) <;> try (exfalso; omega)) | (refine wq_ifge ⟨by omega, by omega⟩ (fun _ => ?_) (fun _ => ?_) <;> try (exfalso; omega)) | (refine wq_ifgt ⟨by omega, by omega⟩ (fun _ => ?_) (fun _ => ?_) <;> try (exfalso; omega)) | (refine wq_ifle ⟨by omega, by omega⟩ (fun _ => ?_) (fun _ => ?_) <;> try (exfalso; omega)) | refine wq_r rfl rfl rfl rfl rfl rfl ?_)
    exact ⟨by simp, i3, hO1, f, j1, j2⟩
  | succ k ih =>
    rintro pad M1 i1 i2 i3 hO1 ⟨f, j1, j2⟩
    have hd : u / 256 ^ k < 2 ^ 64 := Nat.lt_of_le_of_lt (Nat.div_le_self _ _) hu
    have h256 : u / 256 ^ k % 256 < 256 := Nat.mod_lt _ (by omega)
    repeat (refine wf rfl ?_; first | refine wq_iadd ?_ | refine wq_isub ?_ | refine wq_imul ?_ | refine wq_iinc rfl ?_ | refine wq_goto ?_ | refine wq_k rfl ?_ | refine wq_b rfl rfl ?_ | refine wq_getf (by assumption) rfl ?_ | refine wq_alen (by assumption) rfl ?_)
    refine wf rfl (wq_iflt ⟨by omega, by omega⟩ (fun c9 => by exfalso; omega) (fun _ => ?_))
    repeat (refine wf rfl ?_; first | refine wq_lushr (b := k) hu (by omega) (by omega) ?_ | refine wq_land hd ?_ | refine wq_l2i h256 ?_ | refine wq_iadd ?_ | refine wq_isub ?_ | refine wq_imul ?_ | refine wq_iinc rfl ?_ | refine wq_goto ?_ | refine wq_k rfl ?_ | refine wq_b rfl rfl ?_ | refine wq_getf (by assumption) rfl ?_ | refine wq_alen (by assumption) rfl ?_)
    refine wf rfl (wq_iast j1 rfl ⟨by omega, by omega⟩ (by omega) (by omega) (fun M2 e2 f2 => ?_))
    have hO2 : MO M2 m hl si re (pad.length : Nat) sp := f2.at (by omega) hO1
    repeat (refine wf rfl ?_; first | refine wq_iadd ?_ | refine wq_isub ?_ | refine wq_imul ?_ | refine wq_iinc rfl ?_ | refine wq_goto ?_ | refine wq_k rfl ?_ | refine wq_b rfl rfl ?_ | refine wq_getf (by assumption) rfl ?_ | refine wq_alen (by assumption) rfl ?_)
    refine wf rfl (wq_putf hO2 rfl (fun M3 e3 f3 => ?_))
    have hst := fun (_ : True) => ih (pad ++ [((u / 256 ^ k % 256 : Nat) : Int)]) M3 (by omega) (by rw [List.length_append, List.length_singleton]; omega) ((i3.tr (f2.mono (fun q hq => Or.inr hq))).tr (f3.mono (fun q hq => Or.inl hq))) (by rw [show (((pad ++ [((u / 256 ^ k % 256 : Nat) : Int)]).length : Nat) : Int) = (pad.length : Int) + 1 by rw [List.length_append]; rfl]; exact e3) ⟨_, f3.at (by omega) e2, j2.snoc (by omega)⟩
    have eb : ((u / 256 ^ k % 256 : Nat) : Int) :: byt u k = byt u (k + 1) := rfl
    rw [show (((pad ++ [((u / 256 ^ k % 256 : Nat) : Int)]).length : Nat) : Int) + (k : Int) = (pad.length : Int) + ((k + 1 : Nat) : Int) by rw [List.length_append, List.length_singleton]; omega, List.append_assoc, List.singleton_append, eb, show (k : Int) - 1 = ((k + 1 : Nat) : Int) - 1 + -1 by omega] at hst
    repeat' (first | (refine Wp.sub (hst  ?_) ⟨rfl, rfl, rfl, trivial⟩ rfl) | (refine wf rfl ?_; first | refine wq_iadd ?_ | refine wq_isub ?_ | refine wq_imul ?_ | refine wq_iinc rfl ?_ | refine wq_goto ?_ | refine wq_k rfl ?_ | refine wq_b rfl rfl ?_ | refine wq_getf (by assumption) rfl ?_ | refine wq_alen (by assumption) rfl ?_ | fail | (refine wq_eq ⟨by omega, by omega⟩ ⟨by omega, by omega⟩ (fun _ => ?_) (fun _ => ?_) <;> try (exfalso; omega)) | (refine wq_ne ⟨by omega, by omega⟩ ⟨by omega, by omega⟩ (fun _ => ?_) (fun _ => ?_) <;> try (exfalso; omega)) | (refine wq_lt ⟨by omega, by omega⟩ ⟨by omega, by omega⟩ (fun _ => ?_) (fun _ => ?_) <;> try (exfalso; omega)) | (refine wq_ge ⟨by omega, by omega⟩ ⟨by omega, by omega⟩ (fun _ => ?_) (fun _ => ?_) <;> try (exfalso; omega)) | (refine wq_gt ⟨by omega, by omega⟩ ⟨by omega, by omega⟩ (fun _ => ?_) (fun _ => ?_) <;> try (exfalso; omega)) | (refine wq_le ⟨by omega, by omega⟩ ⟨by omega, by omega⟩ (fun _ => ?_) (fun _ => ?_) <;> try (exfalso; omega)) | (refine wq_ifeq ⟨by omega, by omega⟩ (fun _ => ?_) (fun _ => ?_) <;> try (exfalso; omega)) | (refine wq_ifne ⟨by omega, by omega⟩ (fun _ => ?_) (fun _ => ?_) <;> try (exfalso; omega)) | (refine wq_iflt ⟨by omega, by omega⟩ (fun _ => ?_) (fun _ => ?_) <;> try (exfalso; omega)) | (refine wq_ifge ⟨by omega, by omega⟩ (fun _ => ?_) (fun _ => ?_) <;> try (exfalso; omega)) | (refine wq_ifgt ⟨by omega, by omega⟩ (fun _ => ?_) (fun _ => ?_) <;> try (exfalso; omega)) | (refine wq_ifle ⟨by omega, by omega⟩ (fun _ => ?_) (fun _ => ?_) <;> try (exfalso; omega)) | refine wq_r rfl rfl rfl rfl rfl rfl ?_))
    trivial
theorem lp_mputR {u : Nat} {Q : Option Value → PM → Prop} (hu : u < 2 ^ 64)
    (hk : ∀ (b g l : Int) (L : Nat), ((g = 1 ∧ lenF u 8 = (if b = 0 ∨ l ≠ 0 then 0 else b)) ∨ (g = 0 ∧ lenF u 8 = 0)) → (l = 0 ↔ L = 0) → L < 2 ^ 64 → 0 ≤ b → b ≤ 8 → Wp k_X10_put (68, [(0, .ref m), (1, .long (Lu u)), (3, .int (I b)), (4, .int (I g)), (5, .long (Lu L))], [], M) Q) (n : Nat) : ∀ (b : Nat) (g : Int), (b + n = 8 ∧ ((g = 1 ∧ lenF u 8 = lenF u n) ∨ (g = 0 ∧ lenF u 8 = 0))) →
    Wp k_X10_put (8, [(0, .ref m), (1, .long (Lu u)), (3, .int (I b)), (4, .int (I g)), (5, .long (Lu (u / 256 ^ b)))], [], M) Q := by
  have hd : ∀ b, u / 256 ^ b < 2 ^ 64 := fun b => Nat.lt_of_le_of_lt (Nat.div_le_self _ _) hu
  induction n with
  | zero =>
    rintro b g ⟨i1, i2⟩
    have e8 : u / 256 ^ b = 0 := by
      have : b = 8 := by omega
      subst this
      exact Nat.div_eq_of_lt (by omega)
    have hst := fun (_ : True) => hk b g 0 (u / 256 ^ b) (by
      rcases i2 with ⟨h1, h2⟩ | h
      · refine Or.inl ⟨h1, ?_⟩
        rw [h2, lenF, if_neg (by omega)]
        omega
      · exact Or.inr h) ⟨fun _ => e8, fun _ => rfl⟩ (hd b) (by omega) (by omega)
    repeat (refine wf rfl ?_; first | refine wq_iadd ?_ | refine wq_isub ?_ | refine wq_imul ?_ | refine wq_iinc rfl ?_ | refine wq_goto ?_ | refine wq_k rfl ?_ | refine wq_b rfl rfl ?_ | refine wq_getf (by assumption) rfl ?_ | refine wq_alen (by assumption) rfl ?_)
    refine wf rfl (wq_ge ⟨by omega, by omega⟩ ⟨by omega, by omega⟩ (fun _ => ?_) (fun c9 => by exfalso; omega))
    repeat' (first | (refine Wp.sub (hst  ?_) ⟨rfl, rfl, rfl, rfl, rfl, trivial⟩ rfl) | (refine wf rfl ?_; first | refine wq_iadd ?_ | refine wq_isub ?_ | refine wq_imul ?_ | refine wq_iinc rfl ?_ | refine wq_goto ?_ | refine wq_k rfl ?_ | refine wq_b rfl rfl ?_ | refine wq_getf (by assumption) rfl ?_ | refine wq_alen (by assumption) rfl ?_ | fail | (refine wq_eq ⟨by omega, by omega⟩ ⟨by omega, by omega⟩ (fun _ => ?_) (fun _ => ?_) <;> try (exfalso; omega)) | (refine wq_ne ⟨by omega, by omega⟩ ⟨by omega, by omega⟩ (fun _ => ?_) (fun _ => ?_) <;> try (exfalso; omega)) | (refine wq_lt ⟨by omega, by omega⟩ ⟨by omega, by omega⟩ (fun _ => ?_) (fun _ => ?_) <;> try (exfalso; omega)) | (refine wq_ge ⟨by omega, by omega⟩ ⟨by omega, by omega⟩ (fun _ => ?_) (fun _ => ?_) <;> try (exfalso; omega)) | (refine wq_gt ⟨by omega, by omega⟩ ⟨by omega, by omega⟩ (fun _ => ?_) (fun _ => ?_) <;> try (exfalso; omega)) | (refine wq_le ⟨by omega, by omega⟩ ⟨by omega, by omega⟩ (fun _ => ?_) (fun _ => ?_) <;> try (exfalso; omega)) | (refine wq_ifeq ⟨by omega, by omega⟩ (fun _ => ?_) (fun _ => ?_) <;> try (exfalso; omega)) | (refine wq_ifne ⟨by omega, by omega⟩ (fun _ => ?_) (fun _ => ?_) <;> try (exfalso; omega)) | (refine wq_iflt ⟨by omega, by omega⟩ (fun _ => ?_) (fun _ => ?_) <;> try (exfalso; omega)) | (refine wq_ifge ⟨by omega, by omega⟩ (fun _ => ?_) (fun _ => ?_) <;> try (exfalso; omega)) | (refine wq_ifgt ⟨by omega, by omega⟩ (fun _ => ?_) (fun _ => ?_) <;> try (exfalso; omega)) | (refine wq_ifle ⟨by omega, by omega⟩ (fun _ => ?_) (fun _ => ?_) <;> try (exfalso; omega)) | refine wq_r rfl rfl rfl rfl rfl rfl ?_))
    trivial
  | succ n ih =>
    rintro b g ⟨i1, i2⟩
    have h256 : u / 256 ^ b % 256 < 256 := Nat.mod_lt _ (by omega)
    have eb : 7 - n = b := by omega
    have eL : lenF u (n + 1) = if u / 256 ^ b % 256 = 0 then (if u / 256 ^ b = 0 then ((b : Nat) : Int) else 0) else if u / 256 ^ b % 256 < 33 ∨ 126 < u / 256 ^ b % 256 then 0 else lenF u n := by rw [lenF, eb]
    rw [eL] at i2
    repeat (refine wf rfl ?_; first | refine wq_iadd ?_ | refine wq_isub ?_ | refine wq_imul ?_ | refine wq_iinc rfl ?_ | refine wq_goto ?_ | refine wq_k rfl ?_ | refine wq_b rfl rfl ?_ | refine wq_getf (by assumption) rfl ?_ | refine wq_alen (by assumption) rfl ?_)
    refine wf rfl (wq_ge ⟨by omega, by omega⟩ ⟨by omega, by omega⟩ (fun c9 => by exfalso; omega) (fun _ => ?_))
    repeat (refine wf rfl ?_; first | refine wq_land (hd b) ?_ | refine wq_lcmp0 (by omega) (fun z hz hzz => ?_) | refine wq_iadd ?_ | refine wq_isub ?_ | refine wq_imul ?_ | refine wq_iinc rfl ?_ | refine wq_goto ?_ | refine wq_k rfl ?_ | refine wq_b rfl rfl ?_ | refine wq_getf (by assumption) rfl ?_ | refine wq_alen (by assumption) rfl ?_)
    obtain ⟨hz1, hz2⟩ := hz
    refine wf rfl (wq_ifeq ⟨by omega, by omega⟩ (fun c2 => ?_) (fun c2 => ?_))
    · have h0 := hzz.mp c2
      rw [if_pos h0] at i2
      have hst := fun (_ : True) => hk b g (if u / 256 ^ b = 0 then 0 else 1) (u / 256 ^ b) (by
        rcases i2 with ⟨h1, h2⟩ | h
        · refine Or.inl ⟨h1, ?_⟩
          rw [h2]
          by_cases hb0 : u / 256 ^ b = 0
          · rw [if_pos hb0, if_pos hb0]
            by_cases hbb : (b : Int) = 0
            · rw [if_pos (Or.inl hbb)]; omega
            · rw [if_neg (by omega)]
          · rw [if_neg hb0, if_neg hb0, if_pos (Or.inr (by omega))]
        · exact Or.inr h) (by split <;> omega) (hd b) (by omega) (by omega)
      repeat' (first | (refine Wp.sub (hst  ?_) ⟨rfl, rfl, rfl, rfl, rfl, trivial⟩ rfl) | (refine wf rfl ?_; first | refine wq_iadd ?_ | refine wq_isub ?_ | refine wq_imul ?_ | refine wq_iinc rfl ?_ | refine wq_goto ?_ | refine wq_k rfl ?_ | refine wq_b rfl rfl ?_ | refine wq_getf (by assumption) rfl ?_ | refine wq_alen (by assumption) rfl ?_ | fail | (refine wq_eq ⟨by omega, by omega⟩ ⟨by omega, by omega⟩ (fun _ => ?_) (fun _ => ?_) <;> try (exfalso; omega)) | (refine wq_ne ⟨by omega, by omega⟩ ⟨by omega, by omega⟩ (fun _ => ?_) (fun _ => ?_) <;> try (exfalso; omega)) | (refine wq_lt ⟨by omega, by omega⟩ ⟨by omega, by omega⟩ (fun _ => ?_) (fun _ => ?_) <;> try (exfalso; omega)) | (refine wq_ge ⟨by omega, by omega⟩ ⟨by omega, by omega⟩ (fun _ => ?_) (fun _ => ?_) <;> try (exfalso; omega)) | (refine wq_gt ⟨by omega, by omega⟩ ⟨by omega, by omega⟩ (fun _ => ?_) (fun _ => ?_) <;> try (exfalso; omega)) | (refine wq_le ⟨by omega, by omega⟩ ⟨by omega, by omega⟩ (fun _ => ?_) (fun _ => ?_) <;> try (exfalso; omega)) | (refine wq_ifeq ⟨by omega, by omega⟩ (fun _ => ?_) (fun _ => ?_) <;> try (exfalso; omega)) | (refine wq_ifne ⟨by omega, by omega⟩ (fun _ => ?_) (fun _ => ?_) <;> try (exfalso; omega)) | (refine wq_iflt ⟨by omega, by omega⟩ (fun _ => ?_) (fun _ => ?_) <;> try (exfalso; omega)) | (refine wq_ifge ⟨by omega, by omega⟩ (fun _ => ?_) (fun _ => ?_) <;> try (exfalso; omega)) | (refine wq_ifgt ⟨by omega, by omega⟩ (fun _ => ?_) (fun _ => ?_) <;> try (exfalso; omega)) | (refine wq_ifle ⟨by omega, by omega⟩ (fun _ => ?_) (fun _ => ?_) <;> try (exfalso; omega)) | refine wq_r rfl rfl rfl rfl rfl rfl ?_))
      trivial
    · have h0 : ¬ u / 256 ^ b % 256 = 0 := fun z => c2 (hzz.mpr z)
      rw [if_neg h0] at i2
      have es : u / 256 ^ b / 256 ^ 1 = u / 256 ^ (b + 1) := by rw [Nat.div_div_eq_div_mul, ← Nat.pow_add]
      have hin := c_Md_in (M := M) (a := Lu (u / 256 ^ b % 256)) (b := Int64.ofNat 33) (d := Int64.ofNat 126)
      rw [Lu_z _ h256, Int64.toInt_ofNat_of_lt (by omega), Int64.toInt_ofNat_of_lt (by omega)] at hin
      rcases i2 with ⟨rfl, h2⟩ | ⟨rfl, h2⟩
      · repeat (refine wf rfl ?_; first | refine wq_iadd ?_ | refine wq_isub ?_ | refine wq_imul ?_ | refine wq_iinc rfl ?_ | refine wq_goto ?_ | refine wq_k rfl ?_ | refine wq_b rfl rfl ?_ | refine wq_getf (by assumption) rfl ?_ | refine wq_alen (by assumption) rfl ?_)
        refine wf rfl (wq_ifeq ⟨by omega, by omega⟩ (fun c9 => by exfalso; omega) (fun _ => ?_))
        repeat (refine wf rfl ?_; first | refine wq_land (hd b) ?_ | refine wq_iadd ?_ | refine wq_isub ?_ | refine wq_imul ?_ | refine wq_iinc rfl ?_ | refine wq_goto ?_ | refine wq_k rfl ?_ | refine wq_b rfl rfl ?_ | refine wq_getf (by assumption) rfl ?_ | refine wq_alen (by assumption) rfl ?_)
        refine wf rfl (wq_cs rfl rfl (hin.mono ?_))
        rintro v M ⟨rfl, rfl⟩
        by_cases hq : u / 256 ^ b % 256 < 33 ∨ 126 < u / 256 ^ b % 256
        · rw [if_pos hq] at h2
          rw [if_neg (by omega)]
          have hst := fun (_ : True) => ih (b + 1) 0 ⟨by omega, Or.inr ⟨rfl, h2⟩⟩
          rw [show ((b + 1 : Nat) : Int) = (b : Int) + 1 by omega, ← es] at hst
          refine wf rfl (wq_ifeq ⟨by omega, by omega⟩ (fun _ => ?_) (fun c9 => absurd rfl c9))
          repeat' (first | (refine Wp.sub (hst  ?_) ⟨rfl, rfl, rfl, rfl, rfl, trivial⟩ rfl) | (refine wf rfl ?_; first | refine wq_lushr (b := 1) (hd b) (by omega) (by omega) ?_ | refine wq_iadd ?_ | refine wq_isub ?_ | refine wq_imul ?_ | refine wq_iinc rfl ?_ | refine wq_goto ?_ | refine wq_k rfl ?_ | refine wq_b rfl rfl ?_ | refine wq_getf (by assumption) rfl ?_ | refine wq_alen (by assumption) rfl ?_ | (refine wq_eq ⟨by omega, by omega⟩ ⟨by omega, by omega⟩ (fun _ => ?_) (fun _ => ?_) <;> try (exfalso; omega)) | (refine wq_ne ⟨by omega, by omega⟩ ⟨by omega, by omega⟩ (fun _ => ?_) (fun _ => ?_) <;> try (exfalso; omega)) | (refine wq_lt ⟨by omega, by omega⟩ ⟨by omega, by omega⟩ (fun _ => ?_) (fun _ => ?_) <;> try (exfalso; omega)) | (refine wq_ge ⟨by omega, by omega⟩ ⟨by omega, by omega⟩ (fun _ => ?_) (fun _ => ?_) <;> try (exfalso; omega)) | (refine wq_gt ⟨by omega, by omega⟩ ⟨by omega, by omega⟩ (fun _ => ?_) (fun _ => ?_) <;> try (exfalso; omega)) | (refine wq_le ⟨by omega, by omega⟩ ⟨by omega, by omega⟩ (fun _ => ?_) (fun _ => ?_) <;> try (exfalso; omega)) | (refine wq_ifeq ⟨by omega, by omega⟩ (fun _ => ?_) (fun _ => ?_) <;> try (exfalso; omega)) | (refine wq_ifne ⟨by omega, by omega⟩ (fun _ => ?_) (fun _ => ?_) <;> try (exfalso; omega)) | (refine wq_iflt ⟨by omega, by omega⟩ (fun _ => ?_) (fun _ => ?_) <;> try (exfalso; omega)) | (refine wq_ifge ⟨by omega, by omega⟩ (fun _ => ?_) (fun _ => ?_) <;> try (exfalso; omega)) | (refine wq_ifgt ⟨by omega, by omega⟩ (fun _ => ?_) (fun _ => ?_) <;> try (exfalso; omega)) | (refine wq_ifle ⟨by omega, by omega⟩ (fun _ => ?_) (fun _ => ?_) <;> try (exfalso; omega)) | refine wq_r rfl rfl rfl rfl rfl rfl ?_))
          trivial
        · rw [if_neg hq] at h2
          rw [if_pos (by omega)]
          have hst := fun (_ : True) => ih (b + 1) 1 ⟨by omega, Or.inl ⟨rfl, h2⟩⟩
          rw [show ((b + 1 : Nat) : Int) = (b : Int) + 1 by omega, ← es] at hst
          refine wf rfl (wq_ifeq ⟨by omega, by omega⟩ (fun c9 => by exfalso; omega) (fun _ => ?_))
          repeat' (first | (refine Wp.sub (hst  ?_) ⟨rfl, rfl, rfl, rfl, rfl, trivial⟩ rfl) | (refine wf rfl ?_; first | refine wq_lushr (b := 1) (hd b) (by omega) (by omega) ?_ | refine wq_iadd ?_ | refine wq_isub ?_ | refine wq_imul ?_ | refine wq_iinc rfl ?_ | refine wq_goto ?_ | refine wq_k rfl ?_ | refine wq_b rfl rfl ?_ | refine wq_getf (by assumption) rfl ?_ | refine wq_alen (by assumption) rfl ?_ | (refine wq_eq ⟨by omega, by omega⟩ ⟨by omega, by omega⟩ (fun _ => ?_) (fun _ => ?_) <;> try (exfalso; omega)) | (refine wq_ne ⟨by omega, by omega⟩ ⟨by omega, by omega⟩ (fun _ => ?_) (fun _ => ?_) <;> try (exfalso; omega)) | (refine wq_lt ⟨by omega, by omega⟩ ⟨by omega, by omega⟩ (fun _ => ?_) (fun _ => ?_) <;> try (exfalso; omega)) | (refine wq_ge ⟨by omega, by omega⟩ ⟨by omega, by omega⟩ (fun _ => ?_) (fun _ => ?_) <;> try (exfalso; omega)) | (refine wq_gt ⟨by omega, by omega⟩ ⟨by omega, by omega⟩ (fun _ => ?_) (fun _ => ?_) <;> try (exfalso; omega)) | (refine wq_le ⟨by omega, by omega⟩ ⟨by omega, by omega⟩ (fun _ => ?_) (fun _ => ?_) <;> try (exfalso; omega)) | (refine wq_ifeq ⟨by omega, by omega⟩ (fun _ => ?_) (fun _ => ?_) <;> try (exfalso; omega)) | (refine wq_ifne ⟨by omega, by omega⟩ (fun _ => ?_) (fun _ => ?_) <;> try (exfalso; omega)) | (refine wq_iflt ⟨by omega, by omega⟩ (fun _ => ?_) (fun _ => ?_) <;> try (exfalso; omega)) | (refine wq_ifge ⟨by omega, by omega⟩ (fun _ => ?_) (fun _ => ?_) <;> try (exfalso; omega)) | (refine wq_ifgt ⟨by omega, by omega⟩ (fun _ => ?_) (fun _ => ?_) <;> try (exfalso; omega)) | (refine wq_ifle ⟨by omega, by omega⟩ (fun _ => ?_) (fun _ => ?_) <;> try (exfalso; omega)) | refine wq_r rfl rfl rfl rfl rfl rfl ?_))
          trivial
      · have hst := fun (_ : True) => ih (b + 1) 0 ⟨by omega, Or.inr ⟨rfl, h2⟩⟩
        rw [show ((b + 1 : Nat) : Int) = (b : Int) + 1 by omega, ← es] at hst
        repeat (refine wf rfl ?_; first | refine wq_iadd ?_ | refine wq_isub ?_ | refine wq_imul ?_ | refine wq_iinc rfl ?_ | refine wq_goto ?_ | refine wq_k rfl ?_ | refine wq_b rfl rfl ?_ | refine wq_getf (by assumption) rfl ?_ | refine wq_alen (by assumption) rfl ?_)
        refine wf rfl (wq_ifeq ⟨by omega, by omega⟩ (fun _ => ?_) (fun c9 => absurd rfl c9))
        repeat' (first | (refine Wp.sub (hst  ?_) ⟨rfl, rfl, rfl, rfl, rfl, trivial⟩ rfl) | (refine wf rfl ?_; first | refine wq_lushr (b := 1) (hd b) (by omega) (by omega) ?_ | refine wq_iadd ?_ | refine wq_isub ?_ | refine wq_imul ?_ | refine wq_iinc rfl ?_ | refine wq_goto ?_ | refine wq_k rfl ?_ | refine wq_b rfl rfl ?_ | refine wq_getf (by assumption) rfl ?_ | refine wq_alen (by assumption) rfl ?_ | (refine wq_eq ⟨by omega, by omega⟩ ⟨by omega, by omega⟩ (fun _ => ?_) (fun _ => ?_) <;> try (exfalso; omega)) | (refine wq_ne ⟨by omega, by omega⟩ ⟨by omega, by omega⟩ (fun _ => ?_) (fun _ => ?_) <;> try (exfalso; omega)) | (refine wq_lt ⟨by omega, by omega⟩ ⟨by omega, by omega⟩ (fun _ => ?_) (fun _ => ?_) <;> try (exfalso; omega)) | (refine wq_ge ⟨by omega, by omega⟩ ⟨by omega, by omega⟩ (fun _ => ?_) (fun _ => ?_) <;> try (exfalso; omega)) | (refine wq_gt ⟨by omega, by omega⟩ ⟨by omega, by omega⟩ (fun _ => ?_) (fun _ => ?_) <;> try (exfalso; omega)) | (refine wq_le ⟨by omega, by omega⟩ ⟨by omega, by omega⟩ (fun _ => ?_) (fun _ => ?_) <;> try (exfalso; omega)) | (refine wq_ifeq ⟨by omega, by omega⟩ (fun _ => ?_) (fun _ => ?_) <;> try (exfalso; omega)) | (refine wq_ifne ⟨by omega, by omega⟩ (fun _ => ?_) (fun _ => ?_) <;> try (exfalso; omega)) | (refine wq_iflt ⟨by omega, by omega⟩ (fun _ => ?_) (fun _ => ?_) <;> try (exfalso; omega)) | (refine wq_ifge ⟨by omega, by omega⟩ (fun _ => ?_) (fun _ => ?_) <;> try (exfalso; omega)) | (refine wq_ifgt ⟨by omega, by omega⟩ (fun _ => ?_) (fun _ => ?_) <;> try (exfalso; omega)) | (refine wq_ifle ⟨by omega, by omega⟩ (fun _ => ?_) (fun _ => ?_) <;> try (exfalso; omega)) | refine wq_r rfl rfl rfl rfl rfl rfl ?_))
        trivial
theorem c_Md_put {u : Nat} (hu : u < 2 ^ 64) (h : MS M m S) : Wm 153 [.ref m, .long (Lu u)] M (fun v M' => v = some (.int (I (spPut u S).1)) ∧ Fr (inM m) M M' ∧ MS M' m (spPut u S).2) := by
  obtain ⟨⟨si, re, sp, hO⟩, a, ⟨⟨fp, p1, p2⟩, p3⟩, c, d, e⟩ := id h
  have hl8 := lenF_bd u 8
  unfold spPut
  have hst := fun (_ : True) => lp_mputR (M := M) (m := m) (u := u) (Q := fun v M' => v = some (.int (I (if lenF u 8 = 0 then ((-2, S) : Int × ST) else if 80 < (S.2.1.length : Int) + lenF u 8 then (-4, S) else ((S.2.1.length : Int) + lenF u 8, (S.1, S.2.1 ++ byt u (lenF u 8).toNat, S.2.2.1, S.2.2.2))).1)) ∧ Fr (inM m) M M' ∧ MS M' m (if lenF u 8 = 0 then ((-2, S) : Int × ST) else if 80 < (S.2.1.length : Int) + lenF u 8 then (-4, S) else ((S.2.1.length : Int) + lenF u 8, (S.1, S.2.1 ++ byt u (lenF u 8).toNat, S.2.2.1, S.2.2.2))).2) hu (fun b g l L hbg hlL hL b0 b8 => by
    by_cases hz : lenF u 8 = 0
    · rw [if_pos hz]
      by_cases hb : b = 0
      · subst hb
        repeat (refine wf rfl ?_; first | refine wq_iadd ?_ | refine wq_isub ?_ | refine wq_imul ?_ | refine wq_iinc rfl ?_ | refine wq_goto ?_ | refine wq_k rfl ?_ | refine wq_b rfl rfl ?_ | refine wq_getf (by assumption) rfl ?_ | refine wq_alen (by assumption) rfl ?_)
        refine wf rfl (wq_ifeq ⟨by omega, by omega⟩ (fun _ => ?_) (fun c9 => absurd rfl c9))
        repeat' (refine wf rfl ?_; first | refine wq_iadd ?_ | refine wq_isub ?_ | refine wq_imul ?_ | refine wq_iinc rfl ?_ | refine wq_goto ?_ | refine wq_k rfl ?_ | refine wq_b rfl rfl ?_ | refine wq_getf (by assumption) rfl ?_ | refine wq_alen (by assumption) rfl ?_ | (refine wq_eq ⟨by omega, by omega⟩ ⟨by omega, by omega⟩ (fun _ => ?_) (fun _ => ?_) <;> try (exfalso; omega)) | (refine wq_ne ⟨by omega, by omega⟩ ⟨by omega, by omega⟩ (fun _ => ?_) (fun _ => ?_) <;> try (exfalso; omega)) | (refine wq_lt ⟨by omega, by omega⟩ ⟨by omega, by omega⟩ (fun _ => ?_) (fun _ => ?_) <;> try (exfalso; omega)) | (refine wq_ge ⟨by omega, by omega⟩ ⟨by omega, by omega⟩ (fun _ => ?_) (fun _ => ?_) <;> try (exfalso; omega)) | (refine wq_gt ⟨by omega, by omega⟩ ⟨by omega, by omega⟩ (fun _ => ?_) (fun _ => ?_) <;> try (exfalso; omega)) | (refine wq_le ⟨by omega, by omega⟩ ⟨by omega, by omega⟩ (fun _ => ?_) (fun _ => ?_) <;> try (exfalso; omega)) | (refine wq_ifeq ⟨by omega, by omega⟩ (fun _ => ?_) (fun _ => ?_) <;> try (exfalso; omega)) | (refine wq_ifne ⟨by omega, by omega⟩ (fun _ => ?_) (fun _ => ?_) <;> try (exfalso; omega)) | (refine wq_iflt ⟨by omega, by omega⟩ (fun _ => ?_) (fun _ => ?_) <;> try (exfalso; omega)) | (refine wq_ifge ⟨by omega, by omega⟩ (fun _ => ?_) (fun _ => ?_) <;> try (exfalso; omega)) | (refine wq_ifgt ⟨by omega, by omega⟩ (fun _ => ?_) (fun _ => ?_) <;> try (exfalso; omega)) | (refine wq_ifle ⟨by omega, by omega⟩ (fun _ => ?_) (fun _ => ?_) <;> try (exfalso; omega)) | refine wq_r rfl rfl rfl rfl rfl rfl ?_)
        exact ⟨rfl, Fr.rf, h⟩
      · repeat (refine wf rfl ?_; first | refine wq_iadd ?_ | refine wq_isub ?_ | refine wq_imul ?_ | refine wq_iinc rfl ?_ | refine wq_goto ?_ | refine wq_k rfl ?_ | refine wq_b rfl rfl ?_ | refine wq_getf (by assumption) rfl ?_ | refine wq_alen (by assumption) rfl ?_)
        refine wf rfl (wq_ifeq ⟨by omega, by omega⟩ (fun c9 => by exfalso; omega) (fun _ => ?_))
        repeat (refine wf rfl ?_; first | refine wq_lcmp0 hL (fun z hz9 hzz => ?_) | refine wq_iadd ?_ | refine wq_isub ?_ | refine wq_imul ?_ | refine wq_iinc rfl ?_ | refine wq_goto ?_ | refine wq_k rfl ?_ | refine wq_b rfl rfl ?_ | refine wq_getf (by assumption) rfl ?_ | refine wq_alen (by assumption) rfl ?_)
        obtain ⟨z1, z2⟩ := hz9
        refine wf rfl (wq_ifne ⟨by omega, by omega⟩ (fun c2 => ?_) (fun c2 => ?_))
        · repeat' (refine wf rfl ?_; first | refine wq_iadd ?_ | refine wq_isub ?_ | refine wq_imul ?_ | refine wq_iinc rfl ?_ | refine wq_goto ?_ | refine wq_k rfl ?_ | refine wq_b rfl rfl ?_ | refine wq_getf (by assumption) rfl ?_ | refine wq_alen (by assumption) rfl ?_ | (refine wq_eq ⟨by omega, by omega⟩ ⟨by omega, by omega⟩ (fun _ => ?_) (fun _ => ?_) <;> try (exfalso; omega)) | (refine wq_ne ⟨by omega, by omega⟩ ⟨by omega, by omega⟩ (fun _ => ?_) (fun _ => ?_) <;> try (exfalso; omega)) | (refine wq_lt ⟨by omega, by omega⟩ ⟨by omega, by omega⟩ (fun _ => ?_) (fun _ => ?_) <;> try (exfalso; omega)) | (refine wq_ge ⟨by omega, by omega⟩ ⟨by omega, by omega⟩ (fun _ => ?_) (fun _ => ?_) <;> try (exfalso; omega)) | (refine wq_gt ⟨by omega, by omega⟩ ⟨by omega, by omega⟩ (fun _ => ?_) (fun _ => ?_) <;> try (exfalso; omega)) | (refine wq_le ⟨by omega, by omega⟩ ⟨by omega, by omega⟩ (fun _ => ?_) (fun _ => ?_) <;> try (exfalso; omega)) | (refine wq_ifeq ⟨by omega, by omega⟩ (fun _ => ?_) (fun _ => ?_) <;> try (exfalso; omega)) | (refine wq_ifne ⟨by omega, by omega⟩ (fun _ => ?_) (fun _ => ?_) <;> try (exfalso; omega)) | (refine wq_iflt ⟨by omega, by omega⟩ (fun _ => ?_) (fun _ => ?_) <;> try (exfalso; omega)) | (refine wq_ifge ⟨by omega, by omega⟩ (fun _ => ?_) (fun _ => ?_) <;> try (exfalso; omega)) | (refine wq_ifgt ⟨by omega, by omega⟩ (fun _ => ?_) (fun _ => ?_) <;> try (exfalso; omega)) | (refine wq_ifle ⟨by omega, by omega⟩ (fun _ => ?_) (fun _ => ?_) <;> try (exfalso; omega)) | refine wq_r rfl rfl rfl rfl rfl rfl ?_)
          exact ⟨rfl, Fr.rf, h⟩
        · have hl0 : l = 0 := hlL.mpr (hzz.mp c2)
          rcases hbg with ⟨rfl, h2⟩ | ⟨rfl, h2⟩
          · rw [if_neg (by omega)] at h2
            exfalso; omega
          · repeat' (refine wf rfl ?_; first | refine wq_iadd ?_ | refine wq_isub ?_ | refine wq_imul ?_ | refine wq_iinc rfl ?_ | refine wq_goto ?_ | refine wq_k rfl ?_ | refine wq_b rfl rfl ?_ | refine wq_getf (by assumption) rfl ?_ | refine wq_alen (by assumption) rfl ?_ | (refine wq_eq ⟨by omega, by omega⟩ ⟨by omega, by omega⟩ (fun _ => ?_) (fun _ => ?_) <;> try (exfalso; omega)) | (refine wq_ne ⟨by omega, by omega⟩ ⟨by omega, by omega⟩ (fun _ => ?_) (fun _ => ?_) <;> try (exfalso; omega)) | (refine wq_lt ⟨by omega, by omega⟩ ⟨by omega, by omega⟩ (fun _ => ?_) (fun _ => ?_) <;> try (exfalso; omega)) | (refine wq_ge ⟨by omega, by omega⟩ ⟨by omega, by omega⟩ (fun _ => ?_) (fun _ => ?_) <;> try (exfalso; omega)) | (refine wq_gt ⟨by omega, by omega⟩ ⟨by omega, by omega⟩ (fun _ => ?_) (fun _ => ?_) <;> try (exfalso; omega)) | (refine wq_le ⟨by omega, by omega⟩ ⟨by omega, by omega⟩ (fun _ => ?_) (fun _ => ?_) <;> try (exfalso; omega)) | (refine wq_ifeq ⟨by omega, by omega⟩ (fun _ => ?_) (fun _ => ?_) <;> try (exfalso; omega)) | (refine wq_ifne ⟨by omega, by omega⟩ (fun _ => ?_) (fun _ => ?_) <;> try (exfalso; omega)) | (refine wq_iflt ⟨by omega, by omega⟩ (fun _ => ?_) (fun _ => ?_) <;> try (exfalso; omega)) | (refine wq_ifge ⟨by omega, by omega⟩ (fun _ => ?_) (fun _ => ?_) <;> try (exfalso; omega)) | (refine wq_ifgt ⟨by omega, by omega⟩ (fun _ => ?_) (fun _ => ?_) <;> try (exfalso; omega)) | (refine wq_ifle ⟨by omega, by omega⟩ (fun _ => ?_) (fun _ => ?_) <;> try (exfalso; omega)) | refine wq_r rfl rfl rfl rfl rfl rfl ?_)
            exact ⟨rfl, Fr.rf, h⟩
    · rw [if_neg hz]
      have hg1 : g = 1 ∧ lenF u 8 = b ∧ b ≠ 0 ∧ l = 0 := by
        rcases hbg with ⟨h1, h2⟩ | ⟨h1, h2⟩
        · by_cases hq : b = 0 ∨ l ≠ 0
          · rw [if_pos hq] at h2; exact absurd h2 hz
          · rw [if_neg hq] at h2
            exact ⟨h1, h2, by omega, by omega⟩
        · exact absurd h2 hz
      obtain ⟨rfl, hb, hb0, hl0⟩ := hg1
      have hL0 := hlL.mp hl0
      rw [hb]
      repeat (refine wf rfl ?_; first | refine wq_iadd ?_ | refine wq_isub ?_ | refine wq_imul ?_ | refine wq_iinc rfl ?_ | refine wq_goto ?_ | refine wq_k rfl ?_ | refine wq_b rfl rfl ?_ | refine wq_getf (by assumption) rfl ?_ | refine wq_alen (by assumption) rfl ?_)
      refine wf rfl (wq_ifeq ⟨by omega, by omega⟩ (fun c9 => absurd c9 hb0) (fun _ => ?_))
      repeat (refine wf rfl ?_; first | refine wq_lcmp0 hL (fun z hz9 hzz => ?_) | refine wq_iadd ?_ | refine wq_isub ?_ | refine wq_imul ?_ | refine wq_iinc rfl ?_ | refine wq_goto ?_ | refine wq_k rfl ?_ | refine wq_b rfl rfl ?_ | refine wq_getf (by assumption) rfl ?_ | refine wq_alen (by assumption) rfl ?_)
      obtain ⟨z1, z2⟩ := hz9
      have hz0 := hzz.mpr hL0
      refine wf rfl (wq_ifne ⟨by omega, by omega⟩ (fun c9 => absurd hz0 c9) (fun _ => ?_))
      repeat (refine wf rfl ?_; first | refine wq_iadd ?_ | refine wq_isub ?_ | refine wq_imul ?_ | refine wq_iinc rfl ?_ | refine wq_goto ?_ | refine wq_k rfl ?_ | refine wq_b rfl rfl ?_ | refine wq_getf (by assumption) rfl ?_ | refine wq_alen (by assumption) rfl ?_)
      refine wf rfl (wq_ifne ⟨by omega, by omega⟩ (fun _ => ?_) (fun c9 => by exfalso; omega))
      repeat (refine wf rfl ?_; first | refine wq_iadd ?_ | refine wq_isub ?_ | refine wq_imul ?_ | refine wq_iinc rfl ?_ | refine wq_goto ?_ | refine wq_k rfl ?_ | refine wq_b rfl rfl ?_ | refine wq_getf (by assumption) rfl ?_ | refine wq_alen (by assumption) rfl ?_)
      refine wf rfl (wq_le ⟨by omega, by omega⟩ ⟨by omega, by omega⟩ (fun c2 => ?_) (fun c2 => ?_))
      · rw [if_neg (by omega)]
        have hw := lp_mputW (M := M) (m := m) (hl := (S.2.2.1.length : Nat)) (si := si) (re := re) (sp := sp) hu b.toNat S.2.1 M (by omega) (by omega) Fr.rf hO ⟨fp, p1, p2⟩
        rw [show ((b.toNat : Nat) : Int) = b by omega] at hw
        have hst2 := fun (_ : True) => hw.mono (Q' := fun v M' => v = some (.int (I ((S.2.1.length : Int) + b))) ∧ Fr (inM m) M M' ∧ MS M' m (S.1, S.2.1 ++ byt u b.toNat, S.2.2.1, S.2.2.2)) (by
          rintro v M2 ⟨rfl, f2, hO2, f, q1, q2⟩
          have hbl := byt_len u b.toNat
          exact ⟨rfl, f2.mono (fun q hq => by unfold inM; omega), ⟨si, re, sp, hO2⟩, a.fr f2 (by omega), ⟨⟨f, q1, q2⟩, by show (S.2.1 ++ byt u b.toNat).length ≤ 80; rw [List.length_append]; omega⟩, c.fr f2 (by omega), d.fr f2 (by omega) (by omega), e.fr f2⟩)
        repeat' (first | (refine Wp.sub (hst2  ?_) ⟨rfl, rfl, rfl, trivial⟩ rfl) | (refine wf rfl ?_; first | refine wq_iadd ?_ | refine wq_isub ?_ | refine wq_imul ?_ | refine wq_iinc rfl ?_ | refine wq_goto ?_ | refine wq_k rfl ?_ | refine wq_b rfl rfl ?_ | refine wq_getf (by assumption) rfl ?_ | refine wq_alen (by assumption) rfl ?_ | fail | (refine wq_eq ⟨by omega, by omega⟩ ⟨by omega, by omega⟩ (fun _ => ?_) (fun _ => ?_) <;> try (exfalso; omega)) | (refine wq_ne ⟨by omega, by omega⟩ ⟨by omega, by omega⟩ (fun _ => ?_) (fun _ => ?_) <;> try (exfalso; omega)) | (refine wq_lt ⟨by omega, by omega⟩ ⟨by omega, by omega⟩ (fun _ => ?_) (fun _ => ?_) <;> try (exfalso; omega)) | (refine wq_ge ⟨by omega, by omega⟩ ⟨by omega, by omega⟩ (fun _ => ?_) (fun _ => ?_) <;> try (exfalso; omega)) | (refine wq_gt ⟨by omega, by omega⟩ ⟨by omega, by omega⟩ (fun _ => ?_) (fun _ => ?_) <;> try (exfalso; omega)) | (refine wq_le ⟨by omega, by omega⟩ ⟨by omega, by omega⟩ (fun _ => ?_) (fun _ => ?_) <;> try (exfalso; omega)) | (refine wq_ifeq ⟨by omega, by omega⟩ (fun _ => ?_) (fun _ => ?_) <;> try (exfalso; omega)) | (refine wq_ifne ⟨by omega, by omega⟩ (fun _ => ?_) (fun _ => ?_) <;> try (exfalso; omega)) | (refine wq_iflt ⟨by omega, by omega⟩ (fun _ => ?_) (fun _ => ?_) <;> try (exfalso; omega)) | (refine wq_ifge ⟨by omega, by omega⟩ (fun _ => ?_) (fun _ => ?_) <;> try (exfalso; omega)) | (refine wq_ifgt ⟨by omega, by omega⟩ (fun _ => ?_) (fun _ => ?_) <;> try (exfalso; omega)) | (refine wq_ifle ⟨by omega, by omega⟩ (fun _ => ?_) (fun _ => ?_) <;> try (exfalso; omega)) | refine wq_r rfl rfl rfl rfl rfl rfl ?_))
        trivial
      · rw [if_pos (by omega)]
        repeat' (refine wf rfl ?_; first | refine wq_iadd ?_ | refine wq_isub ?_ | refine wq_imul ?_ | refine wq_iinc rfl ?_ | refine wq_goto ?_ | refine wq_k rfl ?_ | refine wq_b rfl rfl ?_ | refine wq_getf (by assumption) rfl ?_ | refine wq_alen (by assumption) rfl ?_ | (refine wq_eq ⟨by omega, by omega⟩ ⟨by omega, by omega⟩ (fun _ => ?_) (fun _ => ?_) <;> try (exfalso; omega)) | (refine wq_ne ⟨by omega, by omega⟩ ⟨by omega, by omega⟩ (fun _ => ?_) (fun _ => ?_) <;> try (exfalso; omega)) | (refine wq_lt ⟨by omega, by omega⟩ ⟨by omega, by omega⟩ (fun _ => ?_) (fun _ => ?_) <;> try (exfalso; omega)) | (refine wq_ge ⟨by omega, by omega⟩ ⟨by omega, by omega⟩ (fun _ => ?_) (fun _ => ?_) <;> try (exfalso; omega)) | (refine wq_gt ⟨by omega, by omega⟩ ⟨by omega, by omega⟩ (fun _ => ?_) (fun _ => ?_) <;> try (exfalso; omega)) | (refine wq_le ⟨by omega, by omega⟩ ⟨by omega, by omega⟩ (fun _ => ?_) (fun _ => ?_) <;> try (exfalso; omega)) | (refine wq_ifeq ⟨by omega, by omega⟩ (fun _ => ?_) (fun _ => ?_) <;> try (exfalso; omega)) | (refine wq_ifne ⟨by omega, by omega⟩ (fun _ => ?_) (fun _ => ?_) <;> try (exfalso; omega)) | (refine wq_iflt ⟨by omega, by omega⟩ (fun _ => ?_) (fun _ => ?_) <;> try (exfalso; omega)) | (refine wq_ifge ⟨by omega, by omega⟩ (fun _ => ?_) (fun _ => ?_) <;> try (exfalso; omega)) | (refine wq_ifgt ⟨by omega, by omega⟩ (fun _ => ?_) (fun _ => ?_) <;> try (exfalso; omega)) | (refine wq_ifle ⟨by omega, by omega⟩ (fun _ => ?_) (fun _ => ?_) <;> try (exfalso; omega)) | refine wq_r rfl rfl rfl rfl rfl rfl ?_)
        exact ⟨rfl, Fr.rf, h⟩) 8 0 1 ⟨rfl, Or.inl ⟨rfl, rfl⟩⟩
  rw [show u / 256 ^ 0 = u by simp] at hst
  refine wm_in (lv := _) rfl rfl rfl ?_
  repeat' (first | (refine Wp.sub (hst  ?_) ⟨rfl, rfl, rfl, rfl, rfl, trivial⟩ rfl) | (refine wf rfl ?_; first | refine wq_iadd ?_ | refine wq_isub ?_ | refine wq_imul ?_ | refine wq_iinc rfl ?_ | refine wq_goto ?_ | refine wq_k rfl ?_ | refine wq_b rfl rfl ?_ | refine wq_getf (by assumption) rfl ?_ | refine wq_alen (by assumption) rfl ?_ | fail | (refine wq_eq ⟨by omega, by omega⟩ ⟨by omega, by omega⟩ (fun _ => ?_) (fun _ => ?_) <;> try (exfalso; omega)) | (refine wq_ne ⟨by omega, by omega⟩ ⟨by omega, by omega⟩ (fun _ => ?_) (fun _ => ?_) <;> try (exfalso; omega)) | (refine wq_lt ⟨by omega, by omega⟩ ⟨by omega, by omega⟩ (fun _ => ?_) (fun _ => ?_) <;> try (exfalso; omega)) | (refine wq_ge ⟨by omega, by omega⟩ ⟨by omega, by omega⟩ (fun _ => ?_) (fun _ => ?_) <;> try (exfalso; omega)) | (refine wq_gt ⟨by omega, by omega⟩ ⟨by omega, by omega⟩ (fun _ => ?_) (fun _ => ?_) <;> try (exfalso; omega)) | (refine wq_le ⟨by omega, by omega⟩ ⟨by omega, by omega⟩ (fun _ => ?_) (fun _ => ?_) <;> try (exfalso; omega)) | (refine wq_ifeq ⟨by omega, by omega⟩ (fun _ => ?_) (fun _ => ?_) <;> try (exfalso; omega)) | (refine wq_ifne ⟨by omega, by omega⟩ (fun _ => ?_) (fun _ => ?_) <;> try (exfalso; omega)) | (refine wq_iflt ⟨by omega, by omega⟩ (fun _ => ?_) (fun _ => ?_) <;> try (exfalso; omega)) | (refine wq_ifge ⟨by omega, by omega⟩ (fun _ => ?_) (fun _ => ?_) <;> try (exfalso; omega)) | (refine wq_ifgt ⟨by omega, by omega⟩ (fun _ => ?_) (fun _ => ?_) <;> try (exfalso; omega)) | (refine wq_ifle ⟨by omega, by omega⟩ (fun _ => ?_) (fun _ => ?_) <;> try (exfalso; omega)) | refine wq_r rfl rfl rfl rfl rfl rfl ?_))
  trivial
end MD22
