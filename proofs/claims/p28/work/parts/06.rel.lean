/-! The machine's world over the small machine's memory. -/
def ad (b sz : Nat) : Nat → Nat
  | 0 => b
  | j + 1 => sz + j
def cv (b sz : Nat) : Value → Value
  | .ref a => .ref (ad b sz a)
  | .int x => .int x
  | .long x => .long x
  | .float x => .float x
  | .double x => .double x
  | .null => .null
  | .retAddr x => .retAddr x
def cvA (b sz : Nat) : vp_A → vp_A
  | (n, .inl f) => (n, .inl f)
  | (n, .inr (.inl f)) => (n, .inr (.inl f))
  | (n, .inr (.inr (.inl f))) => (n, .inr (.inr (.inl f)))
  | (n, .inr (.inr (.inr (.inl f)))) => (n, .inr (.inr (.inr (.inl f))))
  | (n, .inr (.inr (.inr (.inr f)))) => (n, .inr (.inr (.inr (.inr (fun k => (f k).map (ad b sz))))))
def cE (cy : Nat → ClassId) (b sz : Nat) : PC → va_E
  | .inl (t, a) => .inl (cy t, cvA b sz a)
  | .inr (c, fs) => .inr (c, fs.map (cv b sz))
def wsM (cy : Nat → ClassId) (b sz : Nat) (M : PM) : va_W := (M.drop 1).mapIdx (fun j c => (sz + j, cE cy b sz c))
def cvp (b sz : Nat) (q : Nat × Value) : Nat × Value := (q.1, cv b sz q.2)
theorem cv_cat (b sz : Nat) (v : Value) : (cv b sz v).category = v.category := by cases v <;> rfl
theorem cat2_eq (v : Value) : cat2 v = (v.category == 2) := by cases v <;> rfl
theorem cat_one {v : Value} (h : cat2 v = false) : v.category = 1 := by cases v <;> first | rfl | cases h
theorem wsM_at {cy : Nat → ClassId} {b sz : Nat} {M : PM} {j : Nat} {c : PC} (h : M[j + 1]? = some c) : (wsM cy b sz M)[j]? = some (sz + j, cE cy b sz c) := by
  simp only [wsM, List.getElem?_mapIdx, List.getElem?_drop, Nat.add_comm 1 j, h, Option.map_some]
theorem wsM_set {cy : Nat → ClassId} {b sz : Nat} {M : PM} {j : Nat} {c : PC} : (wsM cy b sz M).set j (sz + j, cE cy b sz c) = wsM cy b sz (M.set (j + 1) c) := by
  apply List.ext_getElem?
  intro k
  by_cases hk : j = k
  · subst hk
    by_cases hl : j + 1 < M.length
    · rw [List.getElem?_set_self (by simp [wsM]; omega), wsM_at (c := c) (by rw [List.getElem?_set_self hl])]
    · rw [List.getElem?_eq_none (by simp [wsM]; omega), List.getElem?_eq_none (by simp [wsM]; omega)]
  · rw [List.getElem?_set_ne hk]
    simp only [wsM, List.getElem?_mapIdx, List.getElem?_drop]
    rw [List.getElem?_set_ne (by omega)]
theorem wsM_len {cy : Nat → ClassId} {b sz : Nat} {M : PM} : (wsM cy b sz M).length = M.length - 1 := by simp [wsM]
theorem wsM_push {cy : Nat → ClassId} {b sz : Nat} {M : PM} {c : PC} (h : 1 ≤ M.length) : wsM cy b sz M ++ [(sz + (M.length - 1), cE cy b sz c)] = wsM cy b sz (M ++ [c]) := by
  apply List.ext_getElem?
  intro k
  by_cases hk : k < M.length - 1
  · rw [List.getElem?_append_left (by rw [wsM_len]; exact hk)]
    simp only [wsM, List.getElem?_mapIdx, List.getElem?_drop]
    rw [List.getElem?_append_left (by omega)]
  · by_cases he : k = M.length - 1
    · subst he
      rw [List.getElem?_append_right (by rw [wsM_len]; exact Nat.le_refl _), wsM_len, Nat.sub_self]
      rw [wsM_at (c := c) (by rw [show M.length - 1 + 1 = M.length by omega]; simp)]
      rfl
    · rw [List.getElem?_eq_none (by simp [wsM_len]; omega), List.getElem?_eq_none (by simp [wsM_len]; omega)]
theorem wsM_D {cy : Nat → ClassId} {b sz : Nat} {M : PM} : va_D (fun q : Nat => sz ≤ q) (wsM cy b sz M) := by
  have key : ∀ (k : Nat) (q : Nat × va_E), (wsM cy b sz M)[k]? = some q → q.1 = sz + k := by
    intro k q h
    simp only [wsM, List.getElem?_mapIdx] at h
    cases hc : (M.drop 1)[k]? with
    | none => rw [hc] at h; cases h
    | some c => rw [hc] at h; cases h; rfl
  refine ⟨fun i j p q hp hq e => ?_, fun k q h => ?_⟩
  · have h1 := key i p hp
    have h2 := key j q hq
    omega
  · show sz ≤ q.1
    rw [key k q h]; omega
def tyl (cy : Nat → ClassId) : List (ClassId × FieldType) := [(cy 0, .int), (cy 1, .boolean), (cy 2, .object "PairGrammars$Row"), (cy 3, .object "PairGrammars$Grammar")]
theorem lget_mem : ∀ {lv : LV} {k : Nat} {v : Value}, lget lv k = some v → (k, v) ∈ lv
  | [], _, _, h => by cases h
  | q :: r, k, v, h => by
    unfold lget at h
    split at h
    · rename_i e
      have e := Nat.eq_of_beq_eq_true e
      cases h
      subst e
      exact List.mem_cons_self
    · exact List.mem_cons_of_mem _ (lget_mem h)
theorem lget_has {b sz : Nat} {ls : Array Slot} {nL : Nat} {lv : LV} {k : Nat} {v : Value} (h : lv_has ls nL (lv.map (cvp b sz))) (hk : lget lv k = some v) : ls[k]? = some (.val (cv b sz v)) :=
  h.2.2 (k, cv b sz v) (List.mem_map.mpr ⟨(k, v), lget_mem hk, rfl⟩)
theorem nbeq (a b : Nat) : Nat.beq a b = (a == b) := by
  rw [Bool.eq_iff_iff, beq_iff_eq]
  exact ⟨Nat.eq_of_beq_eq_true, fun h => by subst h; exact Nat.beq_refl a⟩
theorem ldel1_eq (b sz i : Nat) : ∀ lv : LV, (ldel1 i lv).map (cvp b sz) = (lv.map (cvp b sz)).filter (fun q => !(q.1 == i) && !(q.1 + 1 == i && q.2.category == 2))
  | [] => rfl
  | q :: r => by
    have ih := ldel1_eq b sz i r
    unfold ldel1
    have e : (!((cvp b sz q).1 == i) && !((cvp b sz q).1 + 1 == i && (cvp b sz q).2.category == 2)) = !(Nat.beq q.1 i || (Nat.beq (q.1 + 1) i && cat2 q.2)) := by
      rw [show (cvp b sz q).2.category = q.2.category from cv_cat b sz q.2, ← cat2_eq, Bool.not_or, nbeq, nbeq]; rfl
    rw [List.map_cons, List.filter_cons, e]
    cases Nat.beq q.1 i || (Nat.beq (q.1 + 1) i && cat2 q.2) with
    | true => simpa using ih
    | false => simpa using ih
theorem ldel2_eq (b sz i : Nat) : ∀ lv : LV, (ldel2 i lv).map (cvp b sz) = (lv.map (cvp b sz)).filter (fun q => !(q.1 == i) && (!(q.1 == i + 1) && !(q.1 + 1 == i && q.2.category == 2)))
  | [] => rfl
  | q :: r => by
    have ih := ldel2_eq b sz i r
    unfold ldel2
    have e : (!((cvp b sz q).1 == i) && (!((cvp b sz q).1 == i + 1) && !((cvp b sz q).1 + 1 == i && (cvp b sz q).2.category == 2))) = !(Nat.beq q.1 i || (Nat.beq q.1 (i + 1) || (Nat.beq (q.1 + 1) i && cat2 q.2))) := by
      rw [show (cvp b sz q).2.category = q.2.category from cv_cat b sz q.2, ← cat2_eq, Bool.not_or, Bool.not_or, nbeq, nbeq, nbeq]; rfl
    rw [List.map_cons, List.filter_cons, e]
    cases Nat.beq q.1 i || (Nat.beq q.1 (i + 1) || (Nat.beq (q.1 + 1) i && cat2 q.2)) with
    | true => simpa using ih
    | false => simpa using ih
theorem lst1_eq (b sz i : Nat) (v : Value) (lv : LV) : (i, cv b sz v) :: (lv.map (cvp b sz)).filter (fun q => !(q.1 == i) && !(q.1 + 1 == i && q.2.category == 2)) = (lst1 i v lv).map (cvp b sz) := by
  rw [← ldel1_eq]; rfl
theorem lst2_eq (b sz i : Nat) (v : Value) (lv : LV) : (i, cv b sz v) :: (lv.map (cvp b sz)).filter (fun q => !(q.1 == i) && (!(q.1 == i + 1) && !(q.1 + 1 == i && q.2.category == 2))) = (lst2 i v lv).map (cvp b sz) := by
  rw [← ldel2_eq]; rfl
theorem wR_inv {o : Option Value} {v : Value} (h : wR o = some v) : ∃ a, o = some (.ref a) ∧ v = .ref a := by
  unfold wR at h
  split at h
  · cases h; exact ⟨_, rfl, rfl⟩
  · cases h
theorem wI_inv {o : Option Value} {v : Value} (h : wI o = some v) : ∃ a, o = some (.int a) ∧ v = .int a := by
  unfold wI at h
  split at h
  · cases h; exact ⟨_, rfl, rfl⟩
  · cases h
theorem wL_inv {o : Option Value} {v : Value} (h : wL o = some v) : ∃ a, o = some (.long a) ∧ v = .long a := by
  unfold wL at h
  split at h
  · cases h; exact ⟨_, rfl, rfl⟩
  · cases h
theorem wF_inv {o : Option Value} {v : Value} (h : wF o = some v) : ∃ a, o = some (.float a) ∧ v = .float a := by
  unfold wF at h
  split at h
  · cases h; exact ⟨_, rfl, rfl⟩
  · cases h
theorem wD_inv {o : Option Value} {v : Value} (h : wD o = some v) : ∃ a, o = some (.double a) ∧ v = .double a := by
  unfold wD at h
  split at h
  · cases h; exact ⟨_, rfl, rfl⟩
  · cases h
/-- words that keep only as the tables do: calls among nest mates, arrays of references -/
def NX (U : State) : Prop := (∀ t ∈ cll, t.2.2.1 = 3 ∨ t.2.2.1 = 8 → va_Nw (.methodLinkNest (own t.1) t.2.1 (mi t.2.2.2.1).1 "PairGrammars") U) ∧ va_AO "PairGrammars$Row" U ∧ va_AO "PairGrammars$Grammar" U
theorem NX.warm {s U : State} (hW : s.WarmedH U.vm) (h : NX s) : NX U := ⟨fun t ht hk => va_Nw.warmM hW (h.1 t ht hk), h.2.1.moved hW.alike, h.2.2.moved hW.alike⟩
theorem NX.calling {U : State} (g : JFrame) (mk : MethodId) (a : Array Value) (h : NX U) : NX (U.calling g mk a) := ⟨fun t ht hk => va_Nw.same rfl rfl (h.1 t ht hk), h.2.1.moved (U := U.calling g mk a) (Vm.Alike.refl U.vm), h.2.2.moved (U := U.calling g mk a) (Vm.Alike.refl U.vm)⟩
