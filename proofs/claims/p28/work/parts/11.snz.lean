section SNZ
variable {p : Program} {l : Launch} {e : Env} {R : Room} {s : State} {m : MethodId} {args : Array Value} {below : List Frame} {meth : Method} {c : Code} {H : Heap} {locs : List Loc} {cells slots : Nat} {Q : State → Prop}
variable {cc : ByteArray} {pc ln b sz nL L : Nat} {ls : Array Slot} {rest : List Value} {lv : LV} {D : va_G} {cy : Nat → ClassId} {xs : Nat → Int32} {M : PM} {r1 r2 : Nat} {sk sk' : List Value} {M' : PM}
theorem catS_map (b sz : Nat) : ∀ r : List Value, ((r.map (cv b sz)).map fun v => v.category).sum = catS r
  | [] => rfl
  | v :: r => by
    have ih := catS_map b sz r
    unfold catS at ih ⊢
    simp only [List.map_cons, List.sum_cons, cv_cat, ih]
/-- the machine's own calls: their links -/
def okN (i : Instr) (kd : Nat) (av : Array Value) (s : State) (q : MI) : Prop := match i with
  | .invokespecial ix => kd = 4 → (Cond.methodLink q.1.cls ix objectInit).before av s = true ∧ (Cond.instanceMethod objectInit).before av s = true ∧ (Cond.code objectInit ⟨#[0xb1]⟩ 1 none).before av s = true
  | .invokestatic ix => (kd = 5 → (Cond.methodLink q.1.cls ix arraycopyName).before av s = true ∧ (Cond.native arraycopyName).before av s = true ∧ (Cond.static arraycopyName).before av s = true ∧ (Cond.initialized "java/lang/System").before av s = true) ∧
    (kd = 6 → (Cond.methodLink q.1.cls ix ⟨"java/lang/Double", "doubleToRawLongBits", "(D)J"⟩).before av s = true ∧ (Cond.native ⟨"java/lang/Double", "doubleToRawLongBits", "(D)J"⟩).before av s = true ∧ (Cond.static ⟨"java/lang/Double", "doubleToRawLongBits", "(D)J"⟩).before av s = true ∧ (Cond.initialized "java/lang/Double").before av s = true) ∧
    (kd = 7 → (Cond.methodLink q.1.cls ix ⟨"java/lang/Float", "floatToRawIntBits", "(F)I"⟩).before av s = true ∧ (Cond.native ⟨"java/lang/Float", "floatToRawIntBits", "(F)I"⟩).before av s = true ∧ (Cond.static ⟨"java/lang/Float", "floatToRawIntBits", "(F)I"⟩).before av s = true ∧ (Cond.initialized "java/lang/Float").before av s = true)
  | _ => True
theorem acw : nativeFrameWords "java/lang/System" "arraycopy" 5 ≤ 12 := by decide
theorem snN {q : MI} (X : Cx p s m args meth c q D cy b sz L xs) (w : Wd D cy b sz L xs s.heap M H locs) (hls : lv_has ls q.2.2.1 (lv.map (cvp b sz))) {i : Instr} {kd : Nat} (hd : decode q.2.1 pc = .ok (i, ln)) (hl : ln = sLen i) (h : gN i kd sk M = some (sk', M')) (hN : okN i kd args s q) (hR1 : 1 ≤ R.frames) (hR2 : 35 ≤ R.locals)
    (hcz : s.heap.size + cells + 1 = sz + M.length)
    (k : ∀ (H1 : Heap) (locs1 : List Loc) (c1 s1 : Nat), Wd D cy b sz L xs s.heap M' H1 locs1 → s.heap.size + c1 + 1 = sz + M'.length → s1 + szM M = slots + szM M' → W p l e R s m args below meth c H1 locs1 c1 s1 Q (F0 m (pc + ln) ls (sk'.map (cv b sz)))) : W p l e R s m args below meth c H locs cells slots Q (F0 m pc ls (sk.map (cv b sz))) := by
  subst hl
  obtain ⟨hx, hb, hml, hown, hts, hK, hX, hbs, hss, hNX, hini⟩ := X
  obtain ⟨hP, hS, h0⟩ := w
  have hD : va_D (fun q : Nat => sz ≤ q) (wsM cy b sz M) := wsM_D
  have hmls : c.maxLocals = ls.size := hml.trans hls.1.symm
  unfold gN at h
  split at h
  · split at h
    · split at h
      · split at h
        · rename_i r hc
          have hc := Nat.le_of_ble_eq_true hc
          cases h
          obtain ⟨g1, g2, g3⟩ := hN rfl
          refine W.objInit hx hb hown g1 g2 g3 rfl hmls.symm rfl hd hR1 ?_ (k H locs cells slots ⟨hP, hS, h0⟩ hcz rfl)
          rw [catS_map]
          show 2 * 0 + _ + 12 ≤ _
          omega
        · cases h
      · cases h
    · cases h
  · split at h
    · split at h
      · rename_i n dp a sp a0 r
        split at h
        · rename_i o1 o2 n0 f n1 g hM0 hM1
          split at h
          · cases h
          · rename_i hc
            simp only [Bool.or_eq_false_iff, decide_eq_false_iff_not] at hc
            obtain ⟨⟨⟨⟨⟨⟨⟨q1, q2⟩, q3⟩, q4⟩, q5⟩, q6⟩, q7⟩, q8⟩ := hc
            have b4 : sp.toNatClampNeg + n.toNatClampNeg ≤ n0 := by
              rcases Nat.lt_or_ge n0 (sp.toNatClampNeg + n.toNatClampNeg) with z | z
              · rw [← Nat.blt_eq, q4] at z
                cases z
              · exact z
            have b5 : dp.toNatClampNeg + n.toNatClampNeg ≤ n1 := by
              rcases Nat.lt_or_ge n1 (dp.toNatClampNeg + n.toNatClampNeg) with z | z
              · rw [← Nat.blt_eq, q5] at z
                cases z
              · exact z
            have b8 : catS r ≤ 8 := by
              rcases Nat.lt_or_ge 8 (catS r) with z | z
              · rw [← Nat.blt_eq, q8] at z
                cases z
              · exact z
            cases a with
            | zero => cases q6
            | succ j =>
              cases a0 with
              | zero => cases q7
              | succ j0 =>
                obtain ⟨g1, g2, g3, g4⟩ := hN.1 rfl
                obtain ⟨e2, e3⟩ := Prod.mk.inj (Option.some.inj h)
                have e3 := e3.symm
                subst e2
                refine va_copyi hx hb hmls hown g1 g2 g3 g4 hK hP hD hS j0 j 0 0 (wsM_at hM0) (wsM_at hM1) rfl rfl rfl q1 q2 q3 b4 b5 (fun _ _ => rfl) hR1 ?_ hd ?_
                · rw [catS_map]
                  have := acw
                  omega
                · intro H1 locs1 hP1 _ hS1
                  refine k H1 locs1 cells slots ⟨?_, hS1, by rw [e3]; exact set0 h0⟩ (by rw [e3, List.length_set]; exact hcz) (by rw [e3]; exact congrArg (slots + ·) (szM_set hM1 (by rfl)).symm)
                  rw [e3, ← wsM_set]
                  exact hP1
        · cases h
      · cases h
    · split at h
      · split at h
        · rename_i x r hc
          have hc := Nat.le_of_ble_eq_true hc
          cases h
          obtain ⟨g1, g2, g3, g4⟩ := hN.2.1 rfl
          refine vn_d2l hx hb hmls hown g1 g2 g3 g4 hR1 ?_ hd (k H locs cells slots ⟨hP, hS, h0⟩ hcz rfl)
          rw [catS_map]
          omega
        · cases h
      · cases h
    · split at h
      · split at h
        · rename_i x r hc
          have hc := Nat.le_of_ble_eq_true hc
          cases h
          obtain ⟨g1, g2, g3, g4⟩ := hN.2.2 rfl
          refine vn_f2i hx hb hmls hown g1 g2 g3 g4 hR1 ?_ hd (k H locs cells slots ⟨hP, hS, h0⟩ hcz rfl)
          rw [catS_map]
          omega
        · cases h
      · cases h
    · cases h
  · cases h
theorem lvs_eq (b sz : Nat) : ∀ (as : List Value) (k : Nat), lv_args k (as.map (cv b sz)) = (lvs k as).map (cvp b sz)
  | [], _ => rfl
  | v :: as, k => by
    have ih := lvs_eq b sz as
    show (k, cv b sz v) :: lv_args (if (cv b sz v).category = 2 then k + 2 else k + 1) (as.map (cv b sz)) = (k, cv b sz v) :: (lvs (match cat2 v with | true => k + 2 | false => k + 1) as).map (cvp b sz)
    rw [ih, cv_cat]
    have hc := cat2_eq v
    cases h : cat2 v with
    | true =>
      rw [h] at hc
      rw [if_pos (beq_iff_eq.mp hc.symm)]
    | false =>
      rw [h] at hc
      rw [if_neg (fun z => by rw [z] at hc; cases hc)]
theorem lg_len (b sz : Nat) : ∀ as : List Value, (lg_sl (as.map (cv b sz))).length = catS as
  | [] => rfl
  | v :: as => by
    have ih := lg_len b sz as
    unfold lg_sl catS at ih ⊢
    rw [List.map_cons, List.flatMap_cons, List.length_append, ih, List.map_cons, List.sum_cons, cv_cat]
    cases v <;> rfl
/-- a call, with what it leaves -/
theorem va_go {mc ms : Nat} {g : JFrame} {rest : List Value} {Qa : State → Outcome → State → Prop} {free : Addr → Prop} (hr : va_Run p l e R s m args below meth c H locs cells slots mc ms g rest Qa free)
    (kk : ∀ (v : Option Value) (u t : State) (H1 : Heap) (Ls : List Loc), u.heap = H → Qa u (.returned v) t → t.heap = H1 → (∀ q ∈ Ls, free q.base) → W p l e R s m args below meth c H1 (locs ++ Ls) (cells + mc) (slots + ms) Q { g with pc := g.pc + 3, stack := v.toList ++ rest }) : W p l e R s m args below meth c H locs cells slots Q g := by
  intro T hT X
  obtain ⟨v, u, t, T', Ls, h0, X', hL, e1, e2, hq, st⟩ := hr T hT X
  obtain ⟨t2, a1, b1⟩ := kk v u t T'.heap Ls h0 hq e1.symm hL T' rfl X'
  exact ⟨t2, st t2 a1, b1⟩
/-- a method's start -/
def Wp0 (D : va_G) (cy : Nat → ClassId) (b sz L : Nat) (xs : Nat → Int32) (M : PM) (U : State) : Prop :=
  va_P D vwCl (wsM cy b sz M) U.heap ∧ U.heap.size + 1 = sz + M.length ∧ M[0]? = some (.inl (0, L, .inl xs)) ∧ va_K D vwCl (tyl cy) U ∧ va_X b L xs U U.heap ∧ NX U ∧ b < sz
/-- a method's end -/
def Qc0 (D : va_G) (cy : Nat → ClassId) (b sz : Nat) (v : Option Value) (M' : PM) : Array Value → State → Outcome → State → Prop := fun _ st o t =>
  o = .returned (v.map (cv b sz)) ∧ va_P D vwCl (wsM cy b sz M') t.heap ∧ va_F (fun q : Nat => sz ≤ q) st t
theorem Wp0.blind (as : List Value) : FrameBlind (va_Pc as (Wp0 D cy b sz L xs M)) := by
  intro a U g mk h
  obtain ⟨h1, q1, q2, q3, q4, q5, q6, q7⟩ := h
  exact ⟨h1, q1, q2, q3, va_K.moved (u := U) (U := U.calling g mk a) (Vm.Alike.refl U.vm) q4, va_X.moved (u := U) (U := U.calling g mk a) (Vm.Alike.refl U.vm) q5, q6.calling g mk a, q7⟩
def wsY (y : Nat) : List Cond := .code (mi y).1 (mi y).2.1 (mi y).2.2.1 (mi y).2.2.2.1 :: gw
def rmY (y mc ms : Nat) : Room := { frames := (mi y).2.2.2.2.1, cells := mc, slots := ms, locals := 35 * (mi y).2.2.2.2.1 }
/-- a method's contract at one start, for its own run -/
def MetAt (l : Launch) (D : va_G) (cy : Nat → ClassId) (b sz L : Nat) (xs : Nat → Int32) (y : Nat) (as : List Value) (M : PM) (v : Option Value) (M' : PM) : Prop :=
  Met l (mi y).1 (wsY y) (rmY y (M'.length - M.length) (szM M' - szM M)) (va_Pc (as.map (cv b sz)) (Wp0 D cy b sz L xs M)) (Qc0 D cy b sz v M') (M'.length - M.length) (szM M' - szM M) (fun q : Nat => sz ≤ q)
theorem cws_at {y : Nat} (h : y < 132) : cwOk (mi y) := by
  have h1 : mitC.length = 132 := by decide +kernel
  have h2 : mi y = nth mi0 mitC y := by
    unfold mi mit
    have : ∀ (A B : List MI) (k : Nat), k < A.length → nth mi0 (A ++ B) k = nth mi0 A k := by
      intro A
      induction A with
      | nil => intro B k hk; exact absurd hk (Nat.not_lt_zero _)
      | cons a A ih =>
        intro B k hk
        cases k with
        | zero => rfl
        | succ k => exact ih B k (by simpa using hk)
    exact this _ _ _ (by omega)
  rw [h2]
  exact cwAll_at cws (List.mem_of_getElem? (nth_get (by omega)))
theorem plainY_at {n : Nat} {q : MethodName} (h : plainY q n = true) : (q.cls ≠ "java/lang/invoke/MethodHandle" ∧ q.cls ≠ "java/lang/invoke/VarHandle") ∧ (∀ sig, parseMethodDescriptor q.desc = some sig → n = sig.parameters.length) ∧ plainFor q = true := by
  unfold plainY at h
  simp only [Bool.and_eq_true, decide_eq_true_eq] at h
  obtain ⟨⟨⟨h1, h2⟩, h3⟩, h4⟩ := h
  refine ⟨⟨h1, h2⟩, fun sig hs => ?_, h4⟩
  rw [hs] at h3
  exact (Option.some.inj h3).symm
end SNZ
