section SNX
variable {p : Program} {l : Launch} {e : Env} {R : Room} {s : State} {m : MethodId} {args : Array Value} {below : List Frame} {meth : Method} {c : Code} {H : Heap} {locs : List Loc} {cells slots : Nat} {Q : State → Prop}
variable {cc : ByteArray} {pc ln b sz nL L : Nat} {ls : Array Slot} {rest : List Value} {lv : LV} {D : va_G} {cy : Nat → ClassId} {xs : Nat → Int32} {M : PM} {r1 r2 : Nat} {sk sk' : List Value} {M' : PM}
/-- a call's links -/
def okI (i : Instr) (kd y n rc : Nat) (av : Array Value) (s : State) (q : MI) : Prop := y < 132 ∧ (mi y).2.2.2.2.1 < q.2.2.2.2.1 ∧ (mi y).2.2.1 ≤ 16 ∧ (Cond.initialized (mi y).1.cls).before av s = true ∧ match i with
  | .invokestatic ix => (kd = 0 → (Cond.methodLink q.1.cls ix (mi y).1).before av s = true ∧ (Cond.static (mi y).1).before av s = true ∧ n = (mi y).2.2.2.2.2.2) ∧
    (kd = 8 → va_Nw (.methodLinkNest q.1.cls ix (mi y).1 "PairGrammars") s ∧ (Cond.static (mi y).1).before av s = true ∧ n = (mi y).2.2.2.2.2.2)
  | .invokevirtual ix => (Cond.methodLink q.1.cls ix (mi y).1).before av s = true ∧ (Cond.instanceMethod (mi y).1).before av s = true ∧ (Cond.selects (mi y).1.cls (mi y).1 (mi y).1).before av s = true ∧ n = (mi y).2.2.2.2.2.2 + 1 ∧ (vcl rc).1 = (mi y).1.cls ∧ rc < 10
  | .invokespecial ix => n = (mi y).2.2.2.2.2.2 + 1 ∧ (mi y).1.name = "<init>" ∧ (mi y).2.2.2.1 = none ∧ (Cond.instanceMethod (mi y).1).before av s = true ∧ (kd = 2 → (Cond.methodLink q.1.cls ix (mi y).1).before av s = true) ∧ (kd = 3 → va_Nw (.methodLinkNest q.1.cls ix (mi y).1 "PairGrammars") s)
  | _ => True
theorem gI_inv {i : Instr} {kd n rc : Nat} {as r : List Value} (h : gI i kd n rc sk M = some (as, r)) : as = (sk.take n).reverse ∧ r = sk.drop n ∧ n ≤ sk.length ∧ catS r ≤ 8 ∧ (match i with
    | .invokestatic _ => kd = 0 ∨ kd = 8
    | .invokespecial _ => (kd = 2 ∨ kd = 3) ∧ ∃ a As, as = .ref a :: As
    | .invokevirtual _ => kd = 1 ∧ ∃ a As fs, as = .ref a :: As ∧ M[a]? = some (.inr (rc, fs))
    | _ => False) := by
  unfold gI at h
  cases h1 : (Nat.ble n sk.length && Nat.ble (catS (sk.drop n)) 8) with
  | false => rw [h1] at h; cases h
  | true =>
    rw [h1] at h
    dsimp only at h
    rw [Bool.and_eq_true] at h1
    have q1 := Nat.le_of_ble_eq_true h1.1
    have q2 := Nat.le_of_ble_eq_true h1.2
    split at h
    · split at h
      · rename_i hk
        cases h
        rw [Bool.or_eq_true] at hk
        exact ⟨rfl, rfl, q1, q2, hk.imp Nat.eq_of_beq_eq_true Nat.eq_of_beq_eq_true⟩
      · cases h
    · split at h
      · rename_i hk
        rw [Bool.or_eq_true] at hk
        split at h
        · rename_i a As ha
          cases h
          exact ⟨ha.symm, rfl, q1, q2, hk.imp Nat.eq_of_beq_eq_true Nat.eq_of_beq_eq_true, _, _, rfl⟩
        · cases h
      · cases h
    · split at h
      · rename_i hk
        split at h
        · rename_i a As ha
          split at h
          · rename_i o ci fs hM
            split at h
            · rename_i hc
              have hc := Nat.eq_of_beq_eq_true hc
              cases h
              exact ⟨ha.symm, rfl, q1, q2, Nat.eq_of_beq_eq_true hk, _, _, _, rfl, by rw [← hc]; exact hM⟩
            · cases h
          · cases h
        · cases h
      · cases h
    · cases h
theorem snI {q : MI} (X : Cx p s m args meth c q D cy b sz L xs) (w : Wd D cy b sz L xs s.heap M H locs) (hls : lv_has ls q.2.2.1 (lv.map (cvp b sz))) {i : Instr} {kd y n rc : Nat} {as r : List Value} {v : Option Value} {M1 : PM} (hd : decode q.2.1 pc = .ok (i, ln)) (hl : ln = sLen i) (h : gI i kd n rc sk M = some (as, r)) (hI : okI i kd y n rc args s q)
    (hM : MetAt l D cy b sz L xs y as M v M1) (hmo : Mono M M1) (hR1 : q.2.2.2.2.1 ≤ R.frames) (hR2 : 35 * q.2.2.2.2.1 ≤ R.locals)
    (hcz : s.heap.size + cells + 1 = sz + M.length) (hc : cells + M1.length ≤ R.cells + M.length) (hsl : slots + szM M1 ≤ R.slots + szM M)
    (k : ∀ (H1 : Heap) (locs1 : List Loc) (c1 s1 : Nat), Wd D cy b sz L xs s.heap M1 H1 locs1 → s.heap.size + c1 + 1 = sz + M1.length → s1 + szM M = slots + szM M1 → W p l e R s m args below meth c H1 locs1 c1 s1 Q (F0 m (pc + ln) ls ((v.toList ++ r).map (cv b sz)))) : W p l e R s m args below meth c H locs cells slots Q (F0 m pc ls (sk.map (cv b sz))) := by
  subst hl
  obtain ⟨hx, hb, hml, hown, hts, hK, hX, hbs, hss, hNX, hini⟩ := X
  obtain ⟨hP, hS, h0⟩ := w
  have hM1 : 1 ≤ M.length := by
    have := (List.getElem?_eq_some_iff.mp h0).1
    omega
  have hbA : ¬ (fun q : Nat => sz ≤ q) b := Nat.not_le.mpr hbs
  obtain ⟨ea, er, hn, hcr, hk⟩ := gI_inv h
  obtain ⟨hy, hdep, hmx, hini2, hI⟩ := hI
  obtain ⟨hcode, hpl⟩ := cws_at hy
  obtain ⟨hp1, hp2, hp3⟩ := plainY_at hpl
  have hlen : as.length = n := by rw [ea, List.length_reverse, List.length_take]; omega
  have hst : sk.map (cv b sz) = (as.map (cv b sz)).reverse ++ r.map (cv b sz) := by
    rw [ea, er, ← List.map_reverse, List.reverse_reverse, ← List.map_append, List.take_append_drop]
  have hW : 2 * (F0 m pc ls (sk.map (cv b sz))).monitorRoom + ((r.map (cv b sz)).map fun v => v.category).sum ≤ 8 := by
    rw [catS_map]
    show 2 * 0 + _ ≤ 8
    omega
  refine W.bound fun hub => ?_
  have hsz : H.size = sz + (M.length - 1) := by
    rcases sz_low hP hM1 hS.1 hcz with ⟨q1, q2, q3⟩ | q <;> omega
  have hpre : ∀ U : State, U.heap = H → s.WarmedH U.vm → va_Pc (as.map (cv b sz)) (Wp0 D cy b sz L xs M) (as.map (cv b sz)).toArray U := by
    intro U hU hW
    refine ⟨rfl, by rw [hU]; exact hP, by rw [hU]; omega, h0, va_K.moved hW.alike hK, ?_, hNX.warm hW, hbs⟩
    rw [hU]
    exact va_X.moved hW.alike (hX.kept (hS.2.1 b (Nat.lt_of_lt_of_le hbs hss) hbA))
  have hws : ∀ w ∈ wsY y, ∀ (a' : Array Value) (U : State), s.WarmedH U.vm → w.before a' U = true := by
    intro w hw a' U hW
    rcases List.mem_cons.mp hw with e | hw
    · rw [e]; exact word_at hW (gw_good hcode) (hts _ hcode)
    · exact word_at hW (gw_good hw) (hts _ hw)
  have hroom : (rmY y (M1.length - M.length) (szM M1 - szM M)).frames + 1 ≤ R.frames ∧ 8 + ((mi y).2.2.1 + 11) + (rmY y (M1.length - M.length) (szM M1 - szM M)).locals ≤ R.locals := by
    show (mi y).2.2.2.2.1 + 1 ≤ R.frames ∧ 8 + ((mi y).2.2.1 + 11) + 35 * (mi y).2.2.2.2.1 ≤ R.locals
    omega
  obtain ⟨mo1, mo2, mo3⟩ := hmo
  have hf : cells + (M1.length - M.length) ≤ R.cells ∧ slots + (szM M1 - szM M) ≤ R.slots := by omega
  have hgo : sLen i = 3 → va_Run p l e R s m args below meth c H locs cells slots (M1.length - M.length) (szM M1 - szM M) (F0 m pc ls (sk.map (cv b sz))) (r.map (cv b sz)) (Qc0 D cy b sz v M1 (as.map (cv b sz)).toArray) (fun q : Nat => sz ≤ q) → W p l e R s m args below meth c H locs cells slots Q (F0 m pc ls (sk.map (cv b sz))) := by
    intro h3 hr
    refine va_go hr fun v' u t H1 Ls hu hQ ht hL => ?_
    obtain ⟨ev, hP1, hF⟩ := hQ
    have ev : v' = v.map (cv b sz) := by cases ev; rfl
    subst ev
    subst ht
    have hF2 := hF.2
    rw [hu] at hF2
    have hF1 := hF.1
    rw [hu] at hF1
    have K := k t.heap (locs ++ Ls) (cells + (M1.length - M.length)) (slots + (szM M1 - szM M)) ⟨hP1, ⟨Nat.le_trans hS.1 hF1, fun q h1 h2 => (hF2 q (Nat.lt_of_lt_of_le h1 hS.1) h2).trans (hS.2.1 q h1 h2), fun q hq => (List.mem_append.mp hq).elim (hS.2.2 q) (hL q)⟩, mo1 _ h0⟩ (by omega) (by omega)
    rw [h3] at K
    refine W.eq ?_ K
    cases v <;> rfl
  have hfix : CallFix p m c q.2.1 q.2.2.1 s args gw q.1.cls := ⟨hx, hb, hml, hown, hts⟩
  have hnl : ∀ sig, parseMethodDescriptor (mi y).1.desc = some sig → (mi y).2.2.2.2.2.2 = sig.parameters.length := hp2
  cases i with
  | invokestatic ix =>
    refine hgo rfl ?_
    rcases hk with hk | hk
    · obtain ⟨g1, g2, g3⟩ := hI.1 hk
      exact va_runS hfix hM (n := n) (ret := (mi y).2.2.2.1) ⟨⟨rfl, rfl, hroom.1, hroom.2, hws, List.mem_cons_self, hts _ hcode, hini2, hp1, fun sig hs => g3.trans (hnl sig hs), g1⟩, g2⟩ ⟨Wp0.blind _, hpre⟩ rfl (by rw [List.length_map]; exact hlen) hls.1 hst hW hd hf
    · obtain ⟨g1, g2, g3⟩ := hI.2 hk
      exact va_runSN hfix hM (n := n) (ret := (mi y).2.2.2.1) ⟨⟨⟨rfl, rfl, hroom.1, hroom.2, hws, List.mem_cons_self⟩, hts _ hcode, hini2, hp1, fun sig hs => g3.trans (hnl sig hs), va_Nw.use rfl g1⟩, g2, trivial⟩ ⟨Wp0.blind _, hpre⟩ rfl (by rw [List.length_map]; exact hlen) hls.1 hst hW hd hf
  | invokevirtual ix =>
    refine hgo rfl ?_
    obtain ⟨-, a, As, fs, ha, hMa⟩ := hk
    obtain ⟨g1, g2, g3, g4, g5, g6⟩ := hI
    obtain ⟨j, rfl⟩ := mem0 h0 hMa
    subst ha
    have hrec := va_recv hK hP (vwCl_at g6) (wsM_at hMa)
    rw [g5] at hrec
    have hst2 : sk.map (cv b sz) = (As.map (cv b sz)).reverse ++ .ref (sz + j) :: r.map (cv b sz) := by
      rw [hst, List.map_cons, List.reverse_cons, List.append_assoc]; rfl
    have hlen2 : (As.map (cv b sz)).length = n - 1 := by
      rw [List.length_map]
      simp only [List.length_cons] at hlen
      omega
    exact va_runV hfix hM (n := n - 1) (ret := (mi y).2.2.2.1) ⟨⟨rfl, rfl, hroom.1, hroom.2, hws, List.mem_cons_self, hts _ hcode, hini2, hp1, fun sig hs => by have := hnl sig hs; omega, g1⟩, g2, g3⟩ ⟨Wp0.blind _, hrec, hpre⟩ rfl hlen2 hls.1 hst2 hW hd hf
  | invokespecial ix =>
    refine hgo rfl ?_
    obtain ⟨hkd, a, As, ha⟩ := hk
    obtain ⟨g1, g2, g3, g4, g5, g6⟩ := hI
    subst ha
    have hst2 : sk.map (cv b sz) = (As.map (cv b sz)).reverse ++ .ref (ad b sz a) :: r.map (cv b sz) := by
      rw [hst, List.map_cons, List.reverse_cons, List.append_assoc]; rfl
    have hlen2 : (As.map (cv b sz)).length = n - 1 := by
      rw [List.length_map]
      simp only [List.length_cons] at hlen
      omega
    have hcode2 : Cond.code (mi y).1 (mi y).2.1 (mi y).2.2.1 none ∈ wsY y := by
      have : Cond.code (mi y).1 (mi y).2.1 (mi y).2.2.1 (mi y).2.2.2.1 ∈ wsY y := List.mem_cons_self
      rw [g3] at this
      exact this
    have hcode3 : (Cond.code (mi y).1 (mi y).2.1 (mi y).2.2.1 none).before args s = true := by
      have := hts _ hcode
      rw [g3] at this
      exact this
    rcases hkd with hkd | hkd
    · exact va_runI hfix hM (n := n - 1) ⟨⟨rfl, rfl, hroom.1, hroom.2, hws, hcode2, hcode3, hini2, hp1, fun sig hs => by have := hnl sig hs; omega, g5 hkd⟩, g2, g4⟩ ⟨Wp0.blind _, hpre⟩ rfl hlen2 hls.1 hst2 hW hd hf
    · exact va_runIN hfix hM (n := n - 1) ⟨⟨⟨rfl, rfl, hroom.1, hroom.2, hws, hcode2⟩, hcode3, hini2, hp1, fun sig hs => by have := hnl sig hs; omega, va_Nw.use rfl (g6 hkd)⟩, g2, g4⟩ ⟨Wp0.blind _, hpre⟩ rfl hlen2 hls.1 hst2 hW hd hf
  | _ => exact hk.elim
end SNX
