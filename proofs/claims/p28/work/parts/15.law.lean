def R_law : String := "PairGrammarsLaw"
def lw_P (b : Addr) (xs : List Int32) (args : Array Value) (s : State) : Prop := args = #[.ref b] ∧ s.IntsAt b xs ∧ xs.length ≤ 260 ∧ (Jvm.Cond.and given_1 narrow_1).before args s = true
/-- what a walk over the start with the record d0 says of its end, said of the start itself -/
theorem lw_closed {s t : State} {o : Outcome} {d0 : Drawn} {L : List Loc} {k n : Nat} (hd0 : s.drawn.sameBut d0 lw_cs) (hv : ∃ v, o = .returned v) (hW : (s.setDrawn d0).WarmedH t.vm) (hs : (s.setDrawn d0).sameButNew ({ t with vm := s.vm } : State) L k n) : State.butDraws s t lw_cs (fun t1 => Framed s o t1 L k n) := by
  have h2 : t.drawn = d0 := congrArg State.drawn hs.1
  refine ⟨⟨hv, hW, State.sameButNew.setDrawn hs s.drawn⟩, ?_, by decide⟩
  rw [h2]
  exact hd0
def lw_Q (_ : Array Value) (s : State) (o : Outcome) (t : State) : Prop := o = .returned (some (.int 1)) ∧ State.butDraws s t lw_cs (fun t1 => Framed s o t1 [] 600000 7302250)
def lw_Z (below : List Frame) (a : Array Value) (s : State) : State → Prop := fun t => ∃ o, t.status = .running ∧ Ended t below o ∧ lw_Q a s o t
/-- the law's own end, with 1 on the stack, nothing written that was there before, its room as the claim has it; d0: the record of draws at this point (at the entry s.drawn: begin with 'refine W.base ?_' and 'have hd0 := Drawn.sameBut.refl s.drawn lw_cs') -/
theorem lw_ret {p : Program} {l : Launch} {e : Env} {s : State} {m : MethodId} {below : List Frame} {meth : Method} {c : Code} {b : Nat} {d0 : Drawn} (hd0 : s.drawn.sameBut d0 lw_cs) (hx : p.tables.exec = Jvm.exec) (hb : c.code = code) (hr : meth.sig.returnType = ret) (hlocks : meth.locks = false) {pc : Nat} {H : Heap} {ls : Array Slot} (hdg : decode code pc = .ok (.ireturn, 1)) : W p l e room_1 (s.setDrawn d0) m #[Value.ref b] below meth c H [] 600000 7302250 (lw_Z below #[Value.ref b] s) (F0 m pc ls [.int 1]) := by
  intro T hT X
  obtain ⟨fs, hret, hrun, hended, hW, hframe⟩ := X.leave (v := some (.int 1)) (hlocks := hlocks) (fun h => by rw [hr] at h; cases h)
  have hmeth' : T.vm.method? m = some meth := X.method'
  refine ⟨T.setFrames fs, ?_, .returned (some (.int 1)), hrun, hended, rfl, lw_closed hd0 ⟨_, rfl⟩ hW hframe⟩
  jvm_step X.here [X.here.top, hx, hb, hdg, hmeth', hr, ret, narrow_b1]
  (try refine ⟨rfl, ?_⟩); (try refine ⟨rfl, ?_⟩)
  first | (intro acts; rw [hret _ acts rfl rfl rfl]) | rw [hret _ _ rfl rfl rfl]
  exact Steps.refl _
/-- what holds at the law's entry: the machine, the code, the tables' words (any of lw_tbl by 'hts w (by decide +kernel)'), the script of L ints xs at the cell b, what the Statement gives of the start (any of its parts by flat_of_before) -/
def lw_At (p : Program) (s : State) (m : MethodId) (meth : Method) (c : Code) (b L : Nat) (xs : Nat → Int32) : Prop :=
  p.tables.exec = Jvm.exec ∧ c.code = code ∧ meth.sig.returnType = ret ∧ c.maxLocals = 5 ∧ s.vm.findClass R_law = some m.cls ∧ (∀ w ∈ lw_tbl, w.before #[Value.ref b] s = true) ∧ va_X b L xs s s.heap ∧ b < s.heap.size ∧ meth.locks = false ∧ (Jvm.Cond.and given_1 narrow_1).before #[Value.ref b] s = true
theorem arrKn {s : State} {args : Array Value} {ty : FieldType} (h : (Cond.arrayClass ty).before args s = true) : ∃ cA : ClassId, ArrOfT s cA ty ∧ s.vm.findClass ("[" ++ ty.toString) = some cA := by
  obtain ⟨cA, k, comp, h1, h2, h3⟩ := Cond.arrayClass_spec h
  exact ⟨cA, fun n z => ⟨(fun k h => by cases h), k, h2, comp, h3⟩, h1⟩
theorem arrKq {s : State} {C : String} (h : va_AO C s) : ∃ cA : ClassId, ArrOfT s cA (.object C) ∧ va_RA s cA (.object C) := by
  obtain ⟨comp, cA, k, h1, -, h2, h3, h4⟩ := Cond.arrayOver_spec h
  exact ⟨cA, fun n z => ⟨(fun k h => by cases h), k, h2, comp, h3⟩, k, comp, h2, h3, h1, h4⟩
theorem gR_b {i : Instr} {sk : List Value} (h : gR (some .boolean) i sk = some (some (.int 1))) : i = .ireturn ∧ sk = [.int 1] := by
  cases i <;> try (cases h; done)
  all_goals (rcases sk with _ | ⟨v, _ | ⟨w, r⟩⟩ <;> try (cases h; done))
  all_goals (cases v <;> try (cases h; done))
  dsimp only [gR] at h
  split at h
  · cases h
    exact ⟨rfl, rfl⟩
  · cases h
set_option maxHeartbeats 4000000 in
set_option maxRecDepth 100000 in
theorem whole_of_run {p : Program} {e : Env} {s : State} {m : MethodId} {below : List Frame} {meth : Method} {c : Code} (l : Launch) {b L : Nat} {xs : Nat → Int32} (C0 : lw_At p s m meth c b L xs)
    (hrun : ∃ (n : Nat) (M' : PM), run n (mm 132) (0, [(0, .ref 0)], [], [.inl (0, L, .inl xs)]) = some (some (.int 1), M') ∧ M'.length ≤ 600001 ∧ szM M' ≤ 7302250 + L) : W p l e room_1 s m #[Value.ref b] below meth c s.heap [] 0 0 (lw_Z below #[Value.ref b] s) (entryFrame m ([Value.ref b] : List Value).toArray 5) := by
  obtain ⟨n, M', hrun, hlen, hszm⟩ := hrun
  obtain ⟨hx, hb, hr, hml, hown, hts, hX, hbl, hlocks, hgv⟩ := id C0
  have hgw : ∀ w ∈ gw, w.before #[Value.ref b] s = true := fun w hw => hts w (gw_in hw)
  have hkn : ∀ k, ∃ (cC : ClassId) (iS : Nat → Nat), k < 10 → u_Kn s (vcl k).1 (vcl k).2.1 (vcl k).2.2 cC iS := by
    intro k
    by_cases hk : k < 10
    · have hi : ∃ n, (Cond.instantiable (vcl k).1 n).before #[Value.ref b] s = true := by
        have h1 : ∀ k < 10, ∃ i, wAt i (Cond.instantiable (vcl k).1 (vcl k).2.2) = true := by
          intro k hk
          rcases (show k = 0 ∨ k = 1 ∨ k = 2 ∨ k = 3 ∨ k = 4 ∨ k = 5 ∨ k = 6 ∨ k = 7 ∨ k = 8 ∨ k = 9 by omega) with rfl | rfl | rfl | rfl | rfl | rfl | rfl | rfl | rfl | rfl
          · exact ⟨39, by decide +kernel⟩
          · exact ⟨95, by decide +kernel⟩
          · exact ⟨82, by decide +kernel⟩
          · exact ⟨127, by decide +kernel⟩
          · exact ⟨165, by decide +kernel⟩
          · exact ⟨114, by decide +kernel⟩
          · exact ⟨46, by decide +kernel⟩
          · exact ⟨146, by decide +kernel⟩
          · exact ⟨178, by decide +kernel⟩
          · exact ⟨31, by decide +kernel⟩
        obtain ⟨i, hi⟩ := h1 k hk
        exact ⟨_, hgw _ (wAt_in hi)⟩
      obtain ⟨n, hi⟩ := hi
      obtain ⟨cC, iS, h⟩ := u_known (T := (vcl k).2.1) (N := (vcl k).2.2) hgw (cls_at hk).1 hi
      exact ⟨cC, iS, fun _ => h⟩
    · exact ⟨0, fun _ => 0, fun h => absurd h hk⟩
  have hNX : NX s := by
    refine ⟨fun t ht hk => ?_, ?_, ?_⟩
    · have hc := List.all_eq_true.mp cll_ok _ ht
      obtain ⟨o, ix, kd, y, n, rc, pa, pb, pc, pd, pe⟩ := t
      rcases hk with hk | hk <;> (
        have hk : kd = _ := hk
        subst hk
        unfold clOk at hc)
      · exact va_Nw.of rfl (hts _ (wAtN_in (and1 (and1 (and1 (and1 (and1 (and1 hc))))))))
      · exact va_Nw.of rfl (hts _ (wAtN_in (and1 (and1 (and1 (and1 hc))))))
    · exact va_AO.of (hts _ (wAtN_in (i := 45) (by decide +kernel)))
    · exact va_AO.of (hts _ (wAtN_in (i := 101) (by decide +kernel)))
  obtain ⟨c0, a0, r0⟩ := arrKn (ty := .int) (hgw _ (wAt_in arrI_ok))
  obtain ⟨c1, a1, r1⟩ := arrKn (ty := .boolean) (hgw _ (wAt_in arrZ_ok))
  obtain ⟨c2, a2, r2⟩ := arrKq hNX.2.1
  obtain ⟨c3, a3, r3⟩ := arrKq hNX.2.2
  obtain ⟨cy, y0, y1, y2, y3⟩ : ∃ cy : Nat → ClassId, cy 0 = c0 ∧ cy 1 = c1 ∧ cy 2 = c2 ∧ cy 3 = c3 := ⟨fun k => if k = 0 then c0 else if k = 1 then c1 else if k = 2 then c2 else c3, rfl, rfl, rfl, rfl⟩
  subst y0; subst y1; subst y2; subst y3
  have hK : va_K (fun k => Classical.choose (hkn k), fun k => Classical.choose (Classical.choose_spec (hkn k))) vwCl (tyl cy) s := by
    refine ⟨fun k q hq => ?_, fun k q hq => ?_⟩
    · have hk : k < 10 := (List.getElem?_eq_some_iff.mp hq).1
      rw [vwCl_at hk] at hq
      cases hq
      exact Classical.choose_spec (Classical.choose_spec (hkn k)) hk
    · have hk : k < 4 := (List.getElem?_eq_some_iff.mp hq).1
      rcases (show k = 0 ∨ k = 1 ∨ k = 2 ∨ k = 3 by omega) with rfl | rfl | rfl | rfl <;> cases hq
      · exact ⟨a0, r0⟩
      · exact ⟨a1, r1⟩
      · exact ⟨a2, r2⟩
      · exact ⟨a3, r3⟩
  have hl := lv_entry ([.ref b]) (n := 5) (Nat.le_of_ble_eq_true rfl)
  rw [lg_entry_eq]
  have hmo := run_mono n _ _ _ _ hrun
  have m2 : 1 ≤ M'.length := hmo.2.1
  have m3 : szM [(Sum.inl (0, L, Sum.inl xs) : PC)] ≤ szM M' := hmo.2.2
  have m3 : L ≤ szM M' := by simpa [szM, szC] using m3
  have hsz1 : szM [(Sum.inl (0, L, Sum.inl xs) : PC)] = L := by simp [szM, szC]
  have S := @run_sound n 132 (0, [(0, .ref 0)], [], [.inl (0, L, .inl xs)]) (some (.int 1)) M' (by omega) hrun
  refine @S p l e room_1 s m #[Value.ref b] below meth c s.heap [] 0 0 _ b s.heap.size L _ _ cy xs (M'.length - 1) (szM M' - L) ⟨hx, hb, hml, hown, hgw, hK, hX, hbl, Nat.le_refl _, hNX, fun h => absurd h (by decide)⟩ ⟨?_, va_S.rf, rfl⟩ hl rfl (by decide +kernel) (by decide +kernel) ?_ ?_ ?_ ?_ ?_
  · intro k q h
    simp [wsM] at h
  · omega
  · rw [hsz1]; omega
  · show M'.length - 1 ≤ 600000; omega
  · show szM M' - L ≤ 7302250; omega
  · intro i pc ln H1 locs1 ls1 sk hd hln hg w
    obtain ⟨wP, wS, w0⟩ := w
    have hg : gR (some .boolean) i sk = some (some (.int 1)) := hg
    subst hln
    obtain ⟨rfl, rfl⟩ := gR_b hg
    refine va_forget (fun q hq => wS.2.2 q hq) ?_
    refine W.widen (k := 600000) (n := 7302250) (by omega) (by omega) ?_
    exact lw_ret (d0 := s.drawn) (Drawn.sameBut.refl s.drawn lw_cs) hx hb hr hlocks hd
