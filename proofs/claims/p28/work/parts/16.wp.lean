/-! A calculus over 'run': from a place of a code, every answer and memory that Q allows. -/
section WPC
theorem run_more : ∀ (n : Nat) (c : MM) (x : CF) (r : Option Value × PM), run n c x = some r → ∀ k, run (n + k) c x = some r
  | 0, _, _, _, h, _ => by cases h
  | n + 1, c, x, r, h, k => by
    rw [show n + 1 + k = (n + k) + 1 by omega]
    unfold run at h ⊢
    cases hs : stp c x with
    | none => rw [hs] at h; cases h
    | some z =>
      rw [hs] at h
      rcases z with x' | v | ⟨y, as, rr, nx⟩
      · exact run_more n c x' r h k
      · exact h
      · dsimp only at h ⊢
        cases hb : Nat.ble (catS as) (mi y).2.2.1 with
        | false => rw [hb] at h; cases h
        | true =>
          rw [hb] at h
          dsimp only at h ⊢
          cases h1 : run n (mm y) (0, lvs 0 as, [], x.2.2.2) with
          | none => rw [h1] at h; cases h
          | some w =>
            obtain ⟨v1, M1⟩ := w
            rw [h1] at h
            dsimp only at h
            rw [run_more n _ _ _ h1 k]
            exact run_more n c _ r h k
def Wp (c : MM) (x : CF) (Q : Option Value → PM → Prop) : Prop := ∃ (n : Nat) (v : Option Value) (M' : PM), run n c x = some (v, M') ∧ Q v M'
/-- a method's call: what is handed fits, and its own run -/
def Wm (y : Nat) (as : List Value) (M : PM) (Q : Option Value → PM → Prop) : Prop := Nat.ble (catS as) (mi y).2.2.1 = true ∧ Wp (mm y) (0, lvs 0 as, [], M) Q
theorem Wp.mono {c : MM} {x : CF} {Q Q' : Option Value → PM → Prop} (h : Wp c x Q) (k : ∀ v M', Q v M' → Q' v M') : Wp c x Q' := by
  obtain ⟨n, v, M', h1, h2⟩ := h
  exact ⟨n, v, M', h1, k v M' h2⟩
theorem Wm.mono {y : Nat} {as : List Value} {M : PM} {Q Q' : Option Value → PM → Prop} (h : Wm y as M Q) (k : ∀ v M', Q v M' → Q' v M') : Wm y as M Q' := ⟨h.1, h.2.mono k⟩
theorem wm_in {y : Nat} {as : List Value} {M : PM} {Q : Option Value → PM → Prop} {c : MM} {lv : LV} (hc : mm y = c) (hb : Nat.ble (catS as) (mi y).2.2.1 = true) (hl : lvs 0 as = lv) (k : Wp c (0, lv, [], M) Q) : Wm y as M Q := by
  subst hc; subst hl
  exact ⟨hb, k⟩
theorem Wp.step {c : MM} {x x' : CF} {Q : Option Value → PM → Prop} (hs : stp c x = some (.inl x')) (k : Wp c x' Q) : Wp c x Q := by
  obtain ⟨n, v, M', h1, h2⟩ := k
  refine ⟨n + 1, v, M', ?_, h2⟩
  unfold run
  rw [hs]
  exact h1
theorem Wp.ret {c : MM} {x : CF} {v : Option Value} {Q : Option Value → PM → Prop} (hs : stp c x = some (.inr (.inl v))) (k : Q v x.2.2.2) : Wp c x Q := by
  refine ⟨1, v, x.2.2.2, ?_, k⟩
  unfold run
  rw [hs]
theorem Wp.call {c : MM} {x : CF} {y nx : Nat} {as r : List Value} {Q : Option Value → PM → Prop} (hs : stp c x = some (.inr (.inr (y, as, r, nx)))) (k : Wm y as x.2.2.2 (fun v M' => Wp c (nx, x.2.1, v.toList ++ r, M') Q)) : Wp c x Q := by
  obtain ⟨hb, n1, v1, M1, h1, n2, v, M', h2, hq⟩ := k
  refine ⟨n1 + n2 + 1, v, M', ?_, hq⟩
  unfold run
  rw [hs]
  dsimp only
  rw [hb]
  dsimp only
  rw [run_more n1 _ _ _ h1 n2]
  dsimp only
  rw [Nat.add_comm]
  exact run_more n2 _ _ _ h2 n1
abbrev FT : Type := Instr × Nat × Nat × Nat × Nat × Nat × Nat
/-- behind the fetch -/
def Wq (c : MM) (t : FT) (pc : Nat) (lv : LV) (sk : List Value) (M : PM) (Q : Option Value → PM → Prop) : Prop := fe c.2 pc = some t → Wp c (pc, lv, sk, M) Q
variable {c : MM} {i : Instr} {ln nx tg r1 r2 r3 pc : Nat} {lv : LV} {sk r : List Value} {M : PM} {Q : Option Value → PM → Prop} {t : FT}
theorem wf (hf : fe c.2 pc = some t) (k : Wq c t pc lv sk M Q) : Wp c (pc, lv, sk, M) Q := k hf
theorem wq_k {sk' : List Value} (h : gK i lv r1 r2 sk = some sk') (k : Wp c (nx, lv, sk', M) Q) : Wq c (i, ln, nx, tg, r1, r2, r3) pc lv sk M Q := by
  intro hf
  refine Wp.step ?_ k
  dsimp only [stp]
  rw [hf]
  dsimp only
  rw [h]
theorem wq_b {lv' : LV} {sk' : List Value} (hk : gK i lv r1 r2 sk = none) (h : gB i lv sk = some (lv', sk')) (k : Wp c (nx, lv', sk', M) Q) : Wq c (i, ln, nx, tg, r1, r2, r3) pc lv sk M Q := by
  intro hf
  refine Wp.step ?_ k
  dsimp only [stp]
  rw [hf]
  dsimp only
  rw [hk]
  dsimp only
  rw [h]
theorem wq_g {b : Bool} {sk' : List Value} (hk : gK i lv r1 r2 sk = none) (hb : gB i lv sk = none) (h : gG i sk = some (b, sk')) (k : Wp c (cond b tg nx, lv, sk', M) Q) : Wq c (i, ln, nx, tg, r1, r2, r3) pc lv sk M Q := by
  intro hf
  refine Wp.step ?_ k
  dsimp only [stp]
  rw [hf]
  dsimp only
  rw [hk]
  dsimp only
  rw [hb]
  dsimp only
  rw [h]
theorem wq_h {sk' : List Value} {M' : PM} (hk : gK i lv r1 r2 sk = none) (hb : gB i lv sk = none) (hg : gG i sk = none) (h : gH i tg r1 r2 sk M = some (sk', M')) (k : Wp c (nx, lv, sk', M') Q) : Wq c (i, ln, nx, tg, r1, r2, r3) pc lv sk M Q := by
  intro hf
  refine Wp.step ?_ k
  dsimp only [stp]
  rw [hf]
  dsimp only
  rw [hk]
  dsimp only
  rw [hb]
  dsimp only
  rw [hg]
  dsimp only
  rw [h]
theorem wq_s {pc' : Nat} {sk' : List Value} (hk : gK i lv r1 r2 sk = none) (hb : gB i lv sk = none) (hg : gG i sk = none) (hh : gH i tg r1 r2 sk M = none) (h : gS i pc sk = some (pc', sk')) (k : Wp c (pc', lv, sk', M) Q) : Wq c (i, ln, nx, tg, r1, r2, r3) pc lv sk M Q := by
  intro hf
  refine Wp.step ?_ k
  dsimp only [stp]
  rw [hf]
  dsimp only
  rw [hk]
  dsimp only
  rw [hb]
  dsimp only
  rw [hg]
  dsimp only
  rw [hh]
  dsimp only
  rw [h]
theorem wq_r {v : Option Value} (hk : gK i lv r1 r2 sk = none) (hb : gB i lv sk = none) (hg : gG i sk = none) (hh : gH i tg r1 r2 sk M = none) (hs : gS i pc sk = none) (h : gR c.1 i sk = some v) (k : Q v M) : Wq c (i, ln, nx, tg, r1, r2, r3) pc lv sk M Q := by
  intro hf
  refine Wp.ret (v := v) ?_ k
  dsimp only [stp]
  rw [hf]
  dsimp only
  rw [hk]
  dsimp only
  rw [hb]
  dsimp only
  rw [hg]
  dsimp only
  rw [hh]
  dsimp only
  rw [hs]
  dsimp only
  rw [h]
theorem wq_i {as : List Value} (hk : gK i lv r1 r2 sk = none) (hb : gB i lv sk = none) (hg : gG i sk = none) (hh : gH i tg r1 r2 sk M = none) (hs : gS i pc sk = none) (hr : gR c.1 i sk = none) (h : gI i tg r2 r3 sk M = some (as, r)) (k : Wm r1 as M (fun v M' => Wp c (nx, lv, v.toList ++ r, M') Q)) : Wq c (i, ln, nx, tg, r1, r2, r3) pc lv sk M Q := by
  intro hf
  refine Wp.call (y := r1) (nx := nx) (as := as) (r := r) ?_ k
  dsimp only [stp]
  rw [hf]
  dsimp only
  rw [hk]
  dsimp only
  rw [hb]
  dsimp only
  rw [hg]
  dsimp only
  rw [hh]
  dsimp only
  rw [hs]
  dsimp only
  rw [hr]
  dsimp only
  rw [h]
/-! whole numbers as images of integers -/
abbrev I (z : Int) : Int32 := Int32.ofInt z
def inR (z : Int) : Prop := -2147483648 ≤ z ∧ z < 2147483648
theorem I_add (x y : Int) : I x + I y = I (x + y) := (Int32.ofInt_add x y).symm
theorem I_sub (x y : Int) : I x - I y = I (x - y) := (Int32.ofInt_sub x y).symm
theorem I_mul (x y : Int) : I x * I y = I (x * y) := (Int32.ofInt_mul x y).symm
theorem I_lt {x y : Int} (hx : inR x) (hy : inR y) : I x < I y ↔ x < y := by
  rw [Int32.lt_iff_toInt_lt, Int32.toInt_ofInt_of_le hx.1 hx.2, Int32.toInt_ofInt_of_le hy.1 hy.2]
theorem I_le {x y : Int} (hx : inR x) (hy : inR y) : I x ≤ I y ↔ x ≤ y := by
  rw [Int32.le_iff_toInt_le, Int32.toInt_ofInt_of_le hx.1 hx.2, Int32.toInt_ofInt_of_le hy.1 hy.2]
theorem I_eq {x y : Int} (hx : inR x) (hy : inR y) : I x = I y ↔ x = y := by
  rw [← Int32.toInt_inj, Int32.toInt_ofInt_of_le hx.1 hx.2, Int32.toInt_ofInt_of_le hy.1 hy.2]
theorem I_nat {x : Int} (hx : inR x) : (I x).toNatClampNeg = x.toNat := by
  show (I x).toInt.toNat = x.toNat
  rw [Int32.toInt_ofInt_of_le hx.1 hx.2]
theorem I_0 : (0 : Int32) = I 0 := rfl
theorem inR_0 : inR 0 := by constructor <;> decide
theorem I_all (x : Int32) : ∃ z, inR z ∧ x = I z := ⟨x.toInt, ⟨Int32.le_toInt x, Int32.toInt_lt x⟩, (Int32.ofInt_toInt x).symm⟩
theorem inA_I {x : Int} {n : Nat} (hx : inR x) : inA (I x) n = true ↔ 0 ≤ x ∧ x < n := by
  unfold inA
  rw [decide_eq_true_eq, I_nat hx, I_0, I_lt hx inR_0]
  omega
theorem wq_iadd {x y : Int} (k : Wp c (nx, lv, .int (I (x + y)) :: r, M) Q) : Wq c (.iadd, ln, nx, tg, r1, r2, r3) pc lv (.int (I y) :: .int (I x) :: r) M Q := wq_k (by rw [← I_add]; rfl) k
theorem wq_isub {x y : Int} (k : Wp c (nx, lv, .int (I (x - y)) :: r, M) Q) : Wq c (.isub, ln, nx, tg, r1, r2, r3) pc lv (.int (I y) :: .int (I x) :: r) M Q := wq_k (by rw [← I_sub]; rfl) k
theorem wq_imul {x y : Int} (k : Wp c (nx, lv, .int (I (x * y)) :: r, M) Q) : Wq c (.imul, ln, nx, tg, r1, r2, r3) pc lv (.int (I y) :: .int (I x) :: r) M Q := wq_k (by rw [← I_mul]; rfl) k
theorem wq_iinc {n : Nat} {z x : Int} (h : lget lv n = some (.int (I x))) (k : Wp c (nx, lst1 n (.int (I (x + z))) lv, sk, M) Q) : Wq c (.iinc n z, ln, nx, tg, r1, r2, r3) pc lv sk M Q := by
  refine wq_b (lv' := lst1 n (.int (I (x + z))) lv) (sk' := sk) rfl ?_ k
  rw [← I_add]
  unfold gB
  dsimp only
  rw [h]
theorem wq_goto {o : Int} (k : Wp c (tg, lv, sk, M) Q) : Wq c (.goto o, ln, nx, tg, r1, r2, r3) pc lv sk M Q := wq_g (b := true) rfl rfl rfl k
theorem wq_eq {o x y : Int} (hx : inR x) (hy : inR y) (kt : x = y → Wp c (tg, lv, r, M) Q) (kf : ¬ x = y → Wp c (nx, lv, r, M) Q) : Wq c (.if_icmp .eq o, ln, nx, tg, r1, r2, r3) pc lv (.int (I y) :: .int (I x) :: r) M Q := by
  refine wq_g (b := decide (I x = I y)) rfl rfl rfl ?_
  by_cases h : x = y
  · rw [decide_eq_true ((I_eq hx hy).mpr h)]; exact kt h
  · rw [decide_eq_false (fun z => h ((I_eq hx hy).mp z))]; exact kf h
theorem wq_ne {o x y : Int} (hx : inR x) (hy : inR y) (kt : ¬ x = y → Wp c (tg, lv, r, M) Q) (kf : x = y → Wp c (nx, lv, r, M) Q) : Wq c (.if_icmp .ne o, ln, nx, tg, r1, r2, r3) pc lv (.int (I y) :: .int (I x) :: r) M Q := by
  refine wq_g (b := decide (¬ I x = I y)) rfl rfl rfl ?_
  by_cases h : x = y
  · rw [decide_eq_false (fun z => z ((I_eq hx hy).mpr h))]; exact kf h
  · rw [decide_eq_true (show ¬ I x = I y from fun z => h ((I_eq hx hy).mp z))]; exact kt h
theorem wq_lt {o x y : Int} (hx : inR x) (hy : inR y) (kt : x < y → Wp c (tg, lv, r, M) Q) (kf : y ≤ x → Wp c (nx, lv, r, M) Q) : Wq c (.if_icmp .lt o, ln, nx, tg, r1, r2, r3) pc lv (.int (I y) :: .int (I x) :: r) M Q := by
  refine wq_g (b := decide (I x < I y)) rfl rfl rfl ?_
  by_cases h : x < y
  · rw [decide_eq_true ((I_lt hx hy).mpr h)]; exact kt h
  · rw [decide_eq_false (fun z => h ((I_lt hx hy).mp z))]; exact kf (by omega)
theorem wq_ge {o x y : Int} (hx : inR x) (hy : inR y) (kt : y ≤ x → Wp c (tg, lv, r, M) Q) (kf : x < y → Wp c (nx, lv, r, M) Q) : Wq c (.if_icmp .ge o, ln, nx, tg, r1, r2, r3) pc lv (.int (I y) :: .int (I x) :: r) M Q := by
  refine wq_g (b := decide (I y ≤ I x)) rfl rfl rfl ?_
  by_cases h : y ≤ x
  · rw [decide_eq_true ((I_le hy hx).mpr h)]; exact kt h
  · rw [decide_eq_false (fun z => h ((I_le hy hx).mp z))]; exact kf (by omega)
theorem wq_gt {o x y : Int} (hx : inR x) (hy : inR y) (kt : y < x → Wp c (tg, lv, r, M) Q) (kf : x ≤ y → Wp c (nx, lv, r, M) Q) : Wq c (.if_icmp .gt o, ln, nx, tg, r1, r2, r3) pc lv (.int (I y) :: .int (I x) :: r) M Q := by
  refine wq_g (b := decide (I y < I x)) rfl rfl rfl ?_
  by_cases h : y < x
  · rw [decide_eq_true ((I_lt hy hx).mpr h)]; exact kt h
  · rw [decide_eq_false (fun z => h ((I_lt hy hx).mp z))]; exact kf (by omega)
theorem wq_le {o x y : Int} (hx : inR x) (hy : inR y) (kt : x ≤ y → Wp c (tg, lv, r, M) Q) (kf : y < x → Wp c (nx, lv, r, M) Q) : Wq c (.if_icmp .le o, ln, nx, tg, r1, r2, r3) pc lv (.int (I y) :: .int (I x) :: r) M Q := by
  refine wq_g (b := decide (I x ≤ I y)) rfl rfl rfl ?_
  by_cases h : x ≤ y
  · rw [decide_eq_true ((I_le hx hy).mpr h)]; exact kt h
  · rw [decide_eq_false (fun z => h ((I_le hx hy).mp z))]; exact kf (by omega)
theorem wq_ifeq {o x : Int} (hx : inR x) (kt : x = 0 → Wp c (tg, lv, r, M) Q) (kf : ¬ x = 0 → Wp c (nx, lv, r, M) Q) : Wq c (.ifCond .eq o, ln, nx, tg, r1, r2, r3) pc lv (.int (I x) :: r) M Q := by
  refine wq_g (b := decide (I x = I 0)) rfl rfl rfl ?_
  by_cases h : x = 0
  · rw [decide_eq_true ((I_eq hx inR_0).mpr h)]; exact kt h
  · rw [decide_eq_false (fun z => h ((I_eq hx inR_0).mp z))]; exact kf h
theorem wq_ifne {o x : Int} (hx : inR x) (kt : ¬ x = 0 → Wp c (tg, lv, r, M) Q) (kf : x = 0 → Wp c (nx, lv, r, M) Q) : Wq c (.ifCond .ne o, ln, nx, tg, r1, r2, r3) pc lv (.int (I x) :: r) M Q := by
  refine wq_g (b := decide (¬ I x = I 0)) rfl rfl rfl ?_
  by_cases h : x = 0
  · rw [decide_eq_false (fun z => z ((I_eq hx inR_0).mpr h))]; exact kf h
  · rw [decide_eq_true (show ¬ I x = I 0 from fun z => h ((I_eq hx inR_0).mp z))]; exact kt h
theorem wq_iflt {o x : Int} (hx : inR x) (kt : x < 0 → Wp c (tg, lv, r, M) Q) (kf : 0 ≤ x → Wp c (nx, lv, r, M) Q) : Wq c (.ifCond .lt o, ln, nx, tg, r1, r2, r3) pc lv (.int (I x) :: r) M Q := by
  refine wq_g (b := decide (I x < I 0)) rfl rfl rfl ?_
  by_cases h : x < 0
  · rw [decide_eq_true ((I_lt hx inR_0).mpr h)]; exact kt h
  · rw [decide_eq_false (fun z => h ((I_lt hx inR_0).mp z))]; exact kf (by omega)
theorem wq_ifge {o x : Int} (hx : inR x) (kt : 0 ≤ x → Wp c (tg, lv, r, M) Q) (kf : x < 0 → Wp c (nx, lv, r, M) Q) : Wq c (.ifCond .ge o, ln, nx, tg, r1, r2, r3) pc lv (.int (I x) :: r) M Q := by
  refine wq_g (b := decide (I 0 ≤ I x)) rfl rfl rfl ?_
  by_cases h : 0 ≤ x
  · rw [decide_eq_true ((I_le inR_0 hx).mpr h)]; exact kt h
  · rw [decide_eq_false (fun z => h ((I_le inR_0 hx).mp z))]; exact kf (by omega)
theorem wq_ifgt {o x : Int} (hx : inR x) (kt : 0 < x → Wp c (tg, lv, r, M) Q) (kf : x ≤ 0 → Wp c (nx, lv, r, M) Q) : Wq c (.ifCond .gt o, ln, nx, tg, r1, r2, r3) pc lv (.int (I x) :: r) M Q := by
  refine wq_g (b := decide (I 0 < I x)) rfl rfl rfl ?_
  by_cases h : 0 < x
  · rw [decide_eq_true ((I_lt inR_0 hx).mpr h)]; exact kt h
  · rw [decide_eq_false (fun z => h ((I_lt inR_0 hx).mp z))]; exact kf (by omega)
theorem wq_ifle {o x : Int} (hx : inR x) (kt : x ≤ 0 → Wp c (tg, lv, r, M) Q) (kf : 0 < x → Wp c (nx, lv, r, M) Q) : Wq c (.ifCond .le o, ln, nx, tg, r1, r2, r3) pc lv (.int (I x) :: r) M Q := by
  refine wq_g (b := decide (I x ≤ I 0)) rfl rfl rfl ?_
  by_cases h : x ≤ 0
  · rw [decide_eq_true ((I_le hx inR_0).mpr h)]; exact kt h
  · rw [decide_eq_false (fun z => h ((I_le hx inR_0).mp z))]; exact kf (by omega)
end WPC
