/-! Memory: what stays, and the calculus' rows on fields and arrays. -/
section MEM
/-- a cell's shape: what kind of array, how long -/
def shC : PC → Nat × Nat
  | .inl (t, n, .inl _) => (t + 1, n)
  | .inl (_, n, .inr _) => (0, n)
  | .inr _ => (0, 0)
def Fr (P : Nat → Prop) (M M' : PM) : Prop := M'.length = M.length ∧ szM M' = szM M ∧ (∀ q : Nat, (M'[q]?).map shC = (M[q]?).map shC) ∧ ∀ q, ¬ P q → M'[q]? = M[q]?
theorem Fr.rf {P : Nat → Prop} {M : PM} : Fr P M M := ⟨rfl, rfl, fun _ => rfl, fun _ _ => rfl⟩
theorem Fr.tr {P : Nat → Prop} {M M1 M2 : PM} (h : Fr P M M1) (k : Fr P M1 M2) : Fr P M M2 := ⟨k.1.trans h.1, k.2.1.trans h.2.1, fun q => (k.2.2.1 q).trans (h.2.2.1 q), fun q hq => (k.2.2.2 q hq).trans (h.2.2.2 q hq)⟩
theorem Fr.mono {P P' : Nat → Prop} {M M' : PM} (h : Fr P M M') (k : ∀ q, P q → P' q) : Fr P' M M' := ⟨h.1, h.2.1, h.2.2.1, fun q hq => h.2.2.2 q (fun z => hq (k q z))⟩
theorem Fr.at {P : Nat → Prop} {M M' : PM} (h : Fr P M M') {a : Nat} (ha : ¬ P a) {x : PC} (hM : M[a]? = some x) : M'[a]? = some x := (h.2.2.2 a ha).trans hM
theorem Fr.put {M : PM} {a : Nat} {x y : PC} (hM : M[a]? = some x) (hs : szC y = szC x) (hh : shC y = shC x := by rfl) : Fr (fun q => q = a) M (M.set a y) :=
  ⟨by rw [List.length_set], szM_set hM hs, fun q => by
    by_cases hq : q = a
    · subst hq
      rw [List.getElem?_set_self (List.getElem?_eq_some_iff.mp hM).1, hM]
      exact congrArg some hh
    · rw [List.getElem?_set_ne (fun z => hq z.symm)], fun q hq => by rw [List.getElem?_set_ne (fun z => hq z.symm)]⟩
theorem get_set {M : PM} {a : Nat} {x y : PC} (hM : M[a]? = some x) : (M.set a y)[a]? = some y := by
  rw [List.getElem?_set_self (List.getElem?_eq_some_iff.mp hM).1]
abbrev aJ (n : Nat) (g : Nat → Int) : PC := aI n (fun k => I (g k))
theorem Fr.arr {P : Nat → Prop} {M M' : PM} (h : Fr P M M') {a n : Nat} (hM : ∃ f, M[a]? = some (aJ n f)) : ∃ f, M'[a]? = some (aJ n f) := by
  obtain ⟨f, hf⟩ := hM
  have hs := h.2.2.1 a
  rw [hf] at hs
  cases hy : M'[a]? with
  | none => rw [hy] at hs; cases hs
  | some y =>
    rw [hy] at hs
    have hs : some (shC y) = some (0 + 1, n) := hs
    have hs := Option.some.inj hs
    rcases y with ⟨t, k, u | u⟩ | ⟨c, fs⟩
    · have hs : (t + 1, k) = (0 + 1, n) := hs
      have h1 : t = 0 := by have := congrArg Prod.fst hs; dsimp only at this; omega
      have h2 : k = n := congrArg Prod.snd hs
      subst h1
      subst h2
      refine ⟨fun j => (u j).toInt, ?_⟩
      show some (Sum.inl (0, k, Sum.inl u)) = some (Sum.inl (0, k, Sum.inl (fun j => I ((u j).toInt))))
      have e : (fun j => I ((u j).toInt)) = u := funext fun j => Int32.ofInt_toInt (u j)
      rw [e]
    · have hs : (0, k) = (0 + 1, n) := hs
      have := congrArg Prod.fst hs
      dsimp only at this
      omega
    · have hs : (0, 0) = (0 + 1, n) := hs
      have := congrArg Prod.fst hs
      dsimp only at this
      omega
def upz (g : Nat → Int) (j : Nat) (v : Int) : Nat → Int := fun k => if k = j then v else g k
theorem upz_at (g : Nat → Int) (j : Nat) (v : Int) : upz g j v j = v := if_pos rfl
theorem upz_ne (g : Nat → Int) {j k : Nat} (v : Int) (h : k ≠ j) : upz g j v k = g k := if_neg h
theorem upd_I (g : Nat → Int) (j : Nat) (v : Int) : upd (fun k => I (g k)) j (I v) = fun k => I (upz g j v k) := by
  funext k
  unfold upd upz
  split <;> rfl
variable {c : MM} {ln nx tg r1 r2 r3 pc a ix : Nat} {lv : LV} {sk r : List Value} {M : PM} {Q : Option Value → PM → Prop}
theorem wq_getf {fs : List Value} {v : Value} (hM : M[a]? = some (.inr (r1, fs))) (hv : fs[r2]? = some v) (k : Wp c (nx, lv, v :: r, M) Q) : Wq c (.getfield ix, ln, nx, tg, r1, r2, r3) pc lv (.ref a :: r) M Q := by
  refine wq_h rfl rfl rfl ?_ k
  have h : gF (.getfield ix) r1 r2 (.ref a :: r) M = some (v :: r, M) := by
    unfold gF
    try dsimp only
    rw [hM]
    try dsimp only
    rw [Nat.beq_refl]
    try dsimp only
    rw [hv]
  unfold gH
  rw [h]
theorem wq_putf {fs : List Value} {v : Value} (hM : M[a]? = some (.inr (r1, fs))) (ho : (Nat.blt r2 fs.length && okV (nth false (nth [] fkl r1) r2) v) = true) (k : ∀ M1 : PM, M1[a]? = some (.inr (r1, fs.set r2 v)) → Fr (fun q => q = a) M M1 → Wp c (nx, lv, r, M1) Q) : Wq c (.putfield ix, ln, nx, tg, r1, r2, r3) pc lv (v :: .ref a :: r) M Q := by
  refine wq_h rfl rfl rfl ?_ (k _ (get_set hM) (Fr.put hM (by simp [szC])))
  have h : gF (.putfield ix) r1 r2 (v :: .ref a :: r) M = some (r, M.set a (.inr (r1, fs.set r2 v))) := by
    unfold gF
    try dsimp only
    rw [hM]
    try dsimp only
    rw [Nat.beq_refl, ho]
    rfl
  unfold gH
  rw [h]
theorem wq_iald {n : Nat} {g : Nat → Int} {x : Int} (hM : M[a]? = some (aJ n g)) (hx : inR x) (h0 : 0 ≤ x) (h1 : x < n) (k : Wp c (nx, lv, .int (I (g x.toNat)) :: r, M) Q) : Wq c (.iaload, ln, nx, tg, r1, r2, r3) pc lv (.int (I x) :: .ref a :: r) M Q := by
  refine wq_h rfl rfl rfl ?_ k
  have hi := (inA_I (n := n) hx).mpr ⟨h0, h1⟩
  have h : gM .iaload r1 (.int (I x) :: .ref a :: r) M = some (.int (I (g x.toNat)) :: r, M) := by
    unfold gM
    dsimp only
    rw [hM]
    show (match inA (I x) n with | true => some (Value.int (I (g (I x).toNatClampNeg)) :: r, M) | false => none) = _
    rw [hi, I_nat hx]
  unfold gH
  rw [show gF .iaload r1 r2 (.int (I x) :: .ref a :: r) M = none from rfl]
  try dsimp only
  rw [h]
theorem wq_iast {n : Nat} {g : Nat → Int} {x v : Int} (hM : M[a]? = some (aJ n g)) (ha : Nat.blt 0 a = true) (hx : inR x) (h0 : 0 ≤ x) (h1 : x < n) (k : ∀ M1 : PM, M1[a]? = some (aJ n (upz g x.toNat v)) → Fr (fun q => q = a) M M1 → Wp c (nx, lv, r, M1) Q) : Wq c (.iastore, ln, nx, tg, r1, r2, r3) pc lv (.int (I v) :: .int (I x) :: .ref a :: r) M Q := by
  refine wq_h rfl rfl rfl ?_ (k (M.set a (aJ n (upz g x.toNat v))) (get_set hM) (Fr.put hM rfl))
  have hi := (inA_I (n := n) hx).mpr ⟨h0, h1⟩
  have h : gM .iastore r1 (.int (I v) :: .int (I x) :: .ref a :: r) M = some (r, M.set a (aJ n (upz g x.toNat v))) := by
    unfold gM
    dsimp only
    rw [hM]
    show (match inA (I x) n && Nat.blt 0 a with | true => some (r, M.set a (aI n (upd (fun k => I (g k)) (I x).toNatClampNeg (I v)))) | false => none) = _
    rw [hi, ha, I_nat hx, upd_I]
    rfl
  unfold gH
  rw [show gF .iastore r1 r2 (.int (I v) :: .int (I x) :: .ref a :: r) M = none from rfl]
  try dsimp only
  rw [h]
theorem wq_alen {t n : Nat} {x : (Nat → Int32) ⊕ (Nat → Int64) ⊕ (Nat → UInt32) ⊕ (Nat → UInt64) ⊕ (Nat → Option Nat)} (hM : M[a]? = some (.inl (t, n, x))) (ht : Nat.blt t 4 = true) (k : Wp c (nx, lv, .int (I n) :: r, M) Q) : Wq c (.arraylength, ln, nx, tg, r1, r2, r3) pc lv (.ref a :: r) M Q := by
  refine wq_h rfl rfl rfl ?_ k
  have h : gM .arraylength r1 (.ref a :: r) M = some (.int (I n) :: r, M) := by
    unfold gM
    try dsimp only
    rw [hM]
    try dsimp only
    rw [ht]
  unfold gH
  rw [show gF .arraylength r1 r2 (.ref a :: r) M = none from rfl]
  try dsimp only
  rw [h]
theorem wq_aald {t n b : Nat} {f : Nat → Option Nat} {x : Int} (hM : M[a]? = some (aQ t n f)) (ht : (Nat.beq t 2 || Nat.beq t 3) = true) (hx : inR x) (h0 : 0 ≤ x) (h1 : x < n) (hb : f x.toNat = some b) (k : Wp c (nx, lv, .ref b :: r, M) Q) : Wq c (.aaload, ln, nx, tg, r1, r2, r3) pc lv (.int (I x) :: .ref a :: r) M Q := by
  refine wq_h rfl rfl rfl ?_ k
  have hi := (inA_I (n := n) hx).mpr ⟨h0, h1⟩
  have h : gM .aaload r1 (.int (I x) :: .ref a :: r) M = some (.ref b :: r, M) := by
    have hq : ((Nat.beq t 2 || Nat.beq t 3) && inA (I x) n) = true := by rw [hi, ht]; rfl
    unfold gM
    dsimp only
    rw [hM]
    show (match (Nat.beq t 2 || Nat.beq t 3) && inA (I x) n with | true => (match f (I x).toNatClampNeg with | some b => some (Value.ref b :: r, M) | none => none) | false => none) = _
    rw [hq, I_nat hx, hb]
  unfold gH
  rw [show gF .aaload r1 r2 (.int (I x) :: .ref a :: r) M = none from rfl]
  try dsimp only
  rw [h]
theorem wq_aast {t n v ci : Nat} {f : Nat → Option Nat} {fs : List Value} {x : Int} (hM : M[a]? = some (aQ t n f)) (hV : M[v]? = some (.inr (ci, fs))) (ht : ((Nat.beq t 2 && Nat.beq ci 6) || (Nat.beq t 3 && Nat.beq ci 0)) = true) (hx : inR x) (h0 : 0 ≤ x) (h1 : x < n) (k : ∀ M1 : PM, M1[a]? = some (aQ t n (va_up f x.toNat (some v))) → Fr (fun q => q = a) M M1 → Wp c (nx, lv, r, M1) Q) : Wq c (.aastore, ln, nx, tg, r1, r2, r3) pc lv (.ref v :: .int (I x) :: .ref a :: r) M Q := by
  refine wq_h rfl rfl rfl ?_ (k (M.set a (aQ t n (va_up f x.toNat (some v)))) (get_set hM) (Fr.put hM rfl))
  have hi := (inA_I (n := n) hx).mpr ⟨h0, h1⟩
  have h : gM .aastore r1 (.ref v :: .int (I x) :: .ref a :: r) M = some (r, M.set a (aQ t n (va_up f x.toNat (some v)))) := by
    have hq : (((Nat.beq t 2 && Nat.beq ci 6) || (Nat.beq t 3 && Nat.beq ci 0)) && inA (I x) n) = true := by rw [hi, ht]; rfl
    unfold gM
    dsimp only
    rw [hM, hV]
    show (match ((Nat.beq t 2 && Nat.beq ci 6) || (Nat.beq t 3 && Nat.beq ci 0)) && inA (I x) n with | true => some (r, M.set a (aQ t n (va_up f (I x).toNatClampNeg (some v)))) | false => none) = _
    rw [hq, I_nat hx]
  unfold gH
  rw [show gF .aastore r1 r2 (.ref v :: .int (I x) :: .ref a :: r) M = none from rfl]
  try dsimp only
  rw [h]
theorem wq_bald {n : Nat} {g : Nat → Int} {x : Int} (hM : M[a]? = some (aZ n (fun k => I (g k)))) (hx : inR x) (h0 : 0 ≤ x) (h1 : x < n) (k : Wp c (nx, lv, .int (I (g x.toNat)) :: r, M) Q) : Wq c (.baload, ln, nx, tg, r1, r2, r3) pc lv (.int (I x) :: .ref a :: r) M Q := by
  refine wq_h rfl rfl rfl ?_ k
  have hi := (inA_I (n := n) hx).mpr ⟨h0, h1⟩
  have h : gM .baload r1 (.int (I x) :: .ref a :: r) M = some (.int (I (g x.toNat)) :: r, M) := by
    unfold gM
    dsimp only
    rw [hM]
    show (match inA (I x) n with | true => some (Value.int (I (g (I x).toNatClampNeg)) :: r, M) | false => none) = _
    rw [hi, I_nat hx]
  unfold gH
  rw [show gF .baload r1 r2 (.int (I x) :: .ref a :: r) M = none from rfl]
  try dsimp only
  rw [h]
theorem wq_bast1 {n : Nat} {g : Nat → Int} {x : Int} (hM : M[a]? = some (aZ n (fun k => I (g k)))) (hx : inR x) (h0 : 0 ≤ x) (h1 : x < n) (k : ∀ M1 : PM, M1[a]? = some (aZ n (fun k => I (upz g x.toNat 1 k))) → Fr (fun q => q = a) M M1 → Wp c (nx, lv, r, M1) Q) : Wq c (.bastore, ln, nx, tg, r1, r2, r3) pc lv (.int (I 1) :: .int (I x) :: .ref a :: r) M Q := by
  refine wq_h rfl rfl rfl ?_ (k (M.set a (aZ n (fun k => I (upz g x.toNat 1 k)))) (get_set hM) (Fr.put hM rfl))
  have hi := (inA_I (n := n) hx).mpr ⟨h0, h1⟩
  have h : gM .bastore r1 (.int (I 1) :: .int (I x) :: .ref a :: r) M = some (r, M.set a (aZ n (fun k => I (upz g x.toNat 1 k)))) := by
    unfold gM
    dsimp only
    rw [hM]
    show (match inA (I x) n && (decide (I 1 = 0) || decide (I 1 = 1)) with | true => some (r, M.set a (aZ n (upd (fun k => I (g k)) (I x).toNatClampNeg (I 1)))) | false => none) = _
    rw [hi, show (decide (I 1 = 0) || decide (I 1 = 1)) = true by decide, I_nat hx, upd_I]
    rfl
  unfold gH
  rw [show gF .bastore r1 r2 (.int (I 1) :: .int (I x) :: .ref a :: r) M = none from rfl]
  try dsimp only
  rw [h]
/-- making: the cell comes last -/
theorem wq_new (k : Wp c (nx, lv, .ref M.length :: sk, M ++ [.inr (r1, nth [] dfl r1)]) Q) : Wq c (.new ix, ln, nx, tg, r1, r2, r3) pc lv sk M Q := wq_h rfl rfl rfl rfl k
theorem wq_newa {x : Int} (hx : inR x) (h0 : 0 ≤ x) (h1 : x ≤ 134217728) (k : Wp c (nx, lv, .ref M.length :: r, M ++ [aJ x.toNat (fun _ => 0)]) Q) : Wq c (.newarray .int, ln, nx, tg, r1, r2, r3) pc lv (.int (I x) :: r) M Q := by
  refine wq_h rfl rfl rfl ?_ k
  have h : gM (.newarray .int) r1 (.int (I x) :: r) M = some (.ref M.length :: r, M ++ [aJ x.toNat (fun _ => 0)]) := by
    unfold gM
    try dsimp only
    rw [I_nat hx, I_0, decide_eq_false (fun z => by have := (I_lt hx inR_0).mp z; omega)]
    cases hq : Nat.blt 134217728 x.toNat with
    | true => rw [Nat.blt_eq] at hq; omega
    | false => rfl
  unfold gH
  rw [show gF (.newarray .int) r1 r2 (.int (I x) :: r) M = none from rfl]
  try dsimp only
  rw [h]
theorem wq_newz {x : Int} (hx : inR x) (h0 : 0 ≤ x) (h1 : x ≤ 134217728) (k : Wp c (nx, lv, .ref M.length :: r, M ++ [aZ x.toNat (fun _ => I 0)]) Q) : Wq c (.newarray .boolean, ln, nx, tg, r1, r2, r3) pc lv (.int (I x) :: r) M Q := by
  refine wq_h rfl rfl rfl ?_ k
  have h : gM (.newarray .boolean) r1 (.int (I x) :: r) M = some (.ref M.length :: r, M ++ [aZ x.toNat (fun _ => I 0)]) := by
    unfold gM
    try dsimp only
    rw [I_nat hx, I_0, decide_eq_false (fun z => by have := (I_lt hx inR_0).mp z; omega)]
    cases hq : Nat.blt 134217728 x.toNat with
    | true => rw [Nat.blt_eq] at hq; omega
    | false => rfl
  unfold gH
  rw [show gF (.newarray .boolean) r1 r2 (.int (I x) :: r) M = none from rfl]
  try dsimp only
  rw [h]
theorem wq_newq {x : Int} (hx : inR x) (h0 : 0 ≤ x) (h1 : x ≤ 134217728) (k : Wp c (nx, lv, .ref M.length :: r, M ++ [aQ r1 x.toNat (fun _ => none)]) Q) : Wq c (.anewarray ix, ln, nx, tg, r1, r2, r3) pc lv (.int (I x) :: r) M Q := by
  refine wq_h rfl rfl rfl ?_ k
  have h : gM (.anewarray ix) r1 (.int (I x) :: r) M = some (.ref M.length :: r, M ++ [aQ r1 x.toNat (fun _ => none)]) := by
    unfold gM
    try dsimp only
    rw [I_nat hx, I_0, decide_eq_false (fun z => by have := (I_lt hx inR_0).mp z; omega)]
    cases hq : Nat.blt 134217728 x.toNat with
    | true => rw [Nat.blt_eq] at hq; omega
    | false => rfl
  unfold gH
  rw [show gF (.anewarray ix) r1 r2 (.int (I x) :: r) M = none from rfl]
  try dsimp only
  rw [h]
theorem wq_oinit {b : Nat} (hc : Nat.ble (catS r) 8 = true) (k : Wp c (nx, lv, r, M) Q) : Wq c (.invokespecial ix, ln, nx, 4, r1, r2, r3) pc lv (.ref b :: r) M Q := by
  refine wq_h rfl rfl rfl ?_ k
  have h : gN (.invokespecial ix) 4 (.ref b :: r) M = some (r, M) := by
    unfold gN
    try dsimp only
    rw [hc]
    try rfl
  unfold gH
  rw [show gF (.invokespecial ix) r1 r2 (.ref b :: r) M = none from rfl, show gM (.invokespecial ix) r1 (.ref b :: r) M = none from rfl]
  try dsimp only
  rw [h]
def cpz (f g : Nat → Int) (sp dp n : Nat) : Nat → Int := fun k => if dp ≤ k ∧ k < dp + n then f (sp + (k - dp)) else g k
theorem wq_acopy {a0 n0 n1 : Nat} {f g : Nat → Int} {sp dp n : Int} (hM0 : M[a0]? = some (aJ n0 f)) (hM : M[a]? = some (aJ n1 g)) (ha : Nat.beq a 0 = false) (ha0 : Nat.beq a0 0 = false) (hs : inR sp) (hd : inR dp) (hn : inR n) (s0 : 0 ≤ sp) (d0 : 0 ≤ dp) (m0 : 0 ≤ n) (h1 : sp + n ≤ n0) (h2 : dp + n ≤ n1) (hc : Nat.blt 8 (catS r) = false)
    (k : ∀ M1 : PM, M1[a]? = some (aJ n1 (cpz f g sp.toNat dp.toNat n.toNat)) → Fr (fun q => q = a) M M1 → Wp c (nx, lv, r, M1) Q) : Wq c (.invokestatic ix, ln, nx, 5, r1, r2, r3) pc lv (.int (I n) :: .int (I dp) :: .ref a :: .int (I sp) :: .ref a0 :: r) M Q := by
  refine wq_h rfl rfl rfl ?_ (k (M.set a (aJ n1 (cpz f g sp.toNat dp.toNat n.toNat))) (get_set hM) (Fr.put hM rfl))
  have h : gN (.invokestatic ix) 5 (.int (I n) :: .int (I dp) :: .ref a :: .int (I sp) :: .ref a0 :: r) M = some (r, M.set a (aJ n1 (cpz f g sp.toNat dp.toNat n.toNat))) := by
    have e1 : Nat.blt n0 (sp.toNat + n.toNat) = false := by
      cases hq : Nat.blt n0 (sp.toNat + n.toNat) with
      | true => rw [Nat.blt_eq] at hq; omega
      | false => rfl
    have e2 : Nat.blt n1 (dp.toNat + n.toNat) = false := by
      cases hq : Nat.blt n1 (dp.toNat + n.toNat) with
      | true => rw [Nat.blt_eq] at hq; omega
      | false => rfl
    have ecp : va_cpy (fun k => I (f k)) (fun k => I (g k)) sp.toNat dp.toNat n.toNat = fun k => I (cpz f g sp.toNat dp.toNat n.toNat k) := by
      funext k
      unfold va_cpy cpz
      split <;> rfl
    unfold gN
    dsimp only
    rw [hM0, hM]
    show (match decide (I sp < 0) || decide (I dp < 0) || decide (I n < 0) || Nat.blt n0 ((I sp).toNatClampNeg + (I n).toNatClampNeg) || Nat.blt n1 ((I dp).toNatClampNeg + (I n).toNatClampNeg) || Nat.beq a 0 || Nat.beq a0 0 || Nat.blt 8 (catS r) with | true => none | false => some (r, M.set a (aI n1 (va_cpy (fun k => I (f k)) (fun k => I (g k)) (I sp).toNatClampNeg (I dp).toNatClampNeg (I n).toNatClampNeg)))) = _
    rw [I_nat hs, I_nat hd, I_nat hn, I_0, decide_eq_false (fun z => by have := (I_lt hs inR_0).mp z; omega), decide_eq_false (fun z => by have := (I_lt hd inR_0).mp z; omega), decide_eq_false (fun z => by have := (I_lt hn inR_0).mp z; omega), e1, e2, ha, ha0, hc, ecp]
    rfl
  unfold gH
  rw [show gF (.invokestatic ix) r1 r2 (.int (I n) :: .int (I dp) :: .ref a :: .int (I sp) :: .ref a0 :: r) M = none from rfl, show gM (.invokestatic ix) r1 (.int (I n) :: .int (I dp) :: .ref a :: .int (I sp) :: .ref a0 :: r) M = none from rfl]
  try dsimp only
  rw [h]
/-- a static call -/
theorem wq_cs {as : List Value} (hk : gN (.invokestatic ix) tg sk M = none) (h : gI (.invokestatic ix) tg r2 r3 sk M = some (as, r)) (k : Wm r1 as M (fun v M' => Wp c (nx, lv, v.toList ++ r, M') Q)) : Wq c (.invokestatic ix, ln, nx, tg, r1, r2, r3) pc lv sk M Q := by
  refine wq_i rfl rfl rfl ?_ rfl rfl h k
  unfold gH
  rw [show gF (.invokestatic ix) r1 r2 sk M = none from rfl, show gM (.invokestatic ix) r1 sk M = none from rfl]
  dsimp only
  rw [hk]
theorem wq_ci {as : List Value} (hk : gN (.invokespecial ix) tg sk M = none) (h : gI (.invokespecial ix) tg r2 r3 sk M = some (as, r)) (k : Wm r1 as M (fun v M' => Wp c (nx, lv, v.toList ++ r, M') Q)) : Wq c (.invokespecial ix, ln, nx, tg, r1, r2, r3) pc lv sk M Q := by
  refine wq_i rfl rfl rfl ?_ rfl rfl h k
  unfold gH
  rw [show gF (.invokespecial ix) r1 r2 sk M = none from rfl, show gM (.invokespecial ix) r1 sk M = none from rfl]
  dsimp only
  rw [hk]
/-- a call of an object's method -/
theorem wq_cv {b : Nat} {As : List Value} {fs : List Value} (hs : (Nat.ble r2 sk.length && Nat.ble (catS (sk.drop r2)) 8) = true) (ha : (sk.take r2).reverse = .ref b :: As) (hr : sk.drop r2 = r) (hM : M[b]? = some (.inr (r3, fs))) (k : Wm r1 (.ref b :: As) M (fun v M' => Wp c (nx, lv, v.toList ++ r, M') Q)) : Wq c (.invokevirtual ix, ln, nx, 1, r1, r2, r3) pc lv sk M Q := by
  refine wq_i (as := .ref b :: As) (r := r) rfl rfl rfl rfl rfl rfl ?_ k
  subst hr
  unfold gI
  rw [hs]
  dsimp only
  rw [ha]
  dsimp only
  rw [hM]
  dsimp only
  rw [Nat.beq_refl]
  try rfl
end MEM
