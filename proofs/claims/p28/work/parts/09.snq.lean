section SNQ
variable {p : Program} {l : Launch} {e : Env} {R : Room} {s : State} {m : MethodId} {args : Array Value} {below : List Frame} {meth : Method} {c : Code} {H : Heap} {locs : List Loc} {cells slots : Nat} {Q : State → Prop}
variable {cc : ByteArray} {pc ln b sz nL L : Nat} {ls : Array Slot} {rest : List Value} {lv : LV} {D : va_G} {cy : Nat → ClassId} {xs : Nat → Int32} {M : PM} {r1 r2 : Nat} {sk sk' : List Value} {M' : PM}
theorem inA_in {x : Int32} {n : Nat} (h : inA x n = true) : vp_in x n := by
  unfold inA at h
  have hq := of_decide_eq_true h
  exact hq
theorem szM_pos : ∀ {M : PM}, 1 ≤ M.length → ad b sz M.length = sz + (M.length - 1) := by
  intro M h
  cases hq : M.length with
  | zero => omega
  | succ n => rfl
/-- what arrays' instructions link -/
theorem snM {q : MI} (X : Cx p s m args meth c q D cy b sz L xs) (w : Wd D cy b sz L xs s.heap M H locs) {i : Instr} (hd : decode q.2.1 pc = .ok (i, ln)) (hl : ln = sLen i) (h : gM i r1 sk M = some (sk', M')) (hF : okF i r1 r2 args s q)
    (hcz : s.heap.size + cells + 1 = sz + M.length) (hc : cells + M'.length ≤ R.cells + M.length) (hsl : slots + szM M' ≤ R.slots + szM M)
    (k : ∀ (H1 : Heap) (locs1 : List Loc) (c1 s1 : Nat), Wd D cy b sz L xs s.heap M' H1 locs1 → s.heap.size + c1 + 1 = sz + M'.length → s1 + szM M = slots + szM M' → W p l e R s m args below meth c H1 locs1 c1 s1 Q (F0 m (pc + ln) ls (sk'.map (cv b sz)))) : W p l e R s m args below meth c H locs cells slots Q (F0 m pc ls (sk.map (cv b sz))) := by
  subst hl
  obtain ⟨hx, hb, hml, hown, hts, hK, hX, hbs, hss, hN, hini⟩ := X
  obtain ⟨hP, hS, h0⟩ := w
  have hD : va_D (fun q : Nat => sz ≤ q) (wsM cy b sz M) := wsM_D
  have hA : ∀ q : Nat, s.heap.size ≤ q → (fun q : Nat => sz ≤ q) q := fun q hq => Nat.le_trans hss hq
  have hbA : ¬ (fun q : Nat => sz ≤ q) b := Nat.not_le.mpr hbs
  have hbl : b < s.heap.size := Nat.lt_of_lt_of_le hbs hss
  have hM1 : 1 ≤ M.length := by
    have := (List.getElem?_eq_some_iff.mp h0).1
    omega
  have hst : ∀ (j : Nat) (x y : PC), M[j + 1]? = some x → szC y = szC x → ∀ (r : List Value), sk' = r → M' = M.set (j + 1) y → ∀ (H1 : Heap) (locs1 : List Loc), va_P D vwCl ((wsM cy b sz M).set j (sz + j, cE cy b sz y)) H1 → va_D (fun q : Nat => sz ≤ q) ((wsM cy b sz M).set j (sz + j, cE cy b sz y)) → va_S (fun q : Nat => sz ≤ q) s.heap H1 locs1 → W p l e R s m args below meth c H1 locs1 cells slots Q (F0 m (pc + sLen i) ls (r.map (cv b sz))) := by
    intro j x y hM hsz r hr hM' H1 locs1 hP1 _ hS1
    subst hr
    subst hM'
    refine k H1 locs1 cells slots ⟨?_, hS1, set0 h0⟩ (by rw [List.length_set]; exact hcz) (by rw [szM_set hM hsz])
    rw [← wsM_set]
    exact hP1
  unfold gM at h
  split at h
  · split at h
    · rename_i x a r
      split at h
      · rename_i o n f hM
        split at h
        · rename_i hi
          have hi := inA_in hi
          cases h
          cases a with
          | zero =>
            rw [h0] at hM
            cases hM
            exact va_sld hx hb hX hbl hbA hS hi hd (k H locs cells slots ⟨hP, hS, h0⟩ hcz rfl)
          | succ j =>
            exact va_iald hx hb hK hP j 0 (wsM_at hM) rfl hi hd (k H locs cells slots ⟨hP, hS, h0⟩ hcz rfl)
        · cases h
      · cases h
    · cases h
  · split at h
    · rename_i x a r
      split at h
      · rename_i o n f hM
        split at h
        · rename_i hi
          have hi := inA_in hi
          cases h
          cases a with
          | zero =>
            rw [h0] at hM
            cases hM
          | succ j =>
            exact va_zald hx hb hK hP j 1 (wsM_at hM) rfl hi hd (k H locs cells slots ⟨hP, hS, h0⟩ hcz rfl)
        · cases h
      · cases h
    · cases h
  · split at h
    · rename_i x a r
      split at h
      · rename_i o t n f hM
        split at h
        · rename_i hi
          rw [Bool.and_eq_true, Bool.or_eq_true] at hi
          obtain ⟨ht, hi⟩ := hi
          have hi := inA_in hi
          split at h
          · rename_i v hv
            cases h
            cases a with
            | zero =>
              rw [h0] at hM
              cases hM
            | succ j =>
              have K := k H locs cells slots ⟨hP, hS, h0⟩ hcz rfl
              rcases ht with ht | ht <;> have ht := Nat.eq_of_beq_eq_true ht <;> subst ht
              · refine va_aldq hx hb hK hP j 2 (C := "PairGrammars$Row") (wsM_at hM) rfl hi hd ?_
                rw [hv]
                exact K
              · refine va_aldq hx hb hK hP j 3 (C := "PairGrammars$Grammar") (wsM_at hM) rfl hi hd ?_
                rw [hv]
                exact K
          · cases h
        · cases h
      · cases h
    · cases h
  · split at h
    · rename_i v x a r
      split at h
      · rename_i o n f hM
        split at h
        · rename_i hi
          rw [Bool.and_eq_true] at hi
          obtain ⟨hi, ha⟩ := hi
          have hi := inA_in hi
          cases a with
          | zero => cases ha
          | succ j =>
            have e1 := Option.some.inj h
            have e2 := congrArg Prod.fst e1
            have e3 := congrArg Prod.snd e1
            exact va_iast hx hb hK hP hD hS j 0 (wsM_at hM) rfl hi hd (hst j _ (.inl (0, n, .inl (upd f x.toNatClampNeg v))) hM rfl r e2.symm e3.symm)
        · cases h
      · cases h
    · cases h
  · split at h
    · rename_i v x a r
      split at h
      · rename_i o n f hM
        split at h
        · rename_i hi
          rw [Bool.and_eq_true, Bool.or_eq_true] at hi
          obtain ⟨hi, hv⟩ := hi
          have hi := inA_in hi
          cases a with
          | zero =>
            rw [h0] at hM
            cases hM
          | succ j =>
            have e1 := Option.some.inj h
            have e2 := congrArg Prod.fst e1
            have e3 := congrArg Prod.snd e1
            have en : vp_nar .boolean v = v := by
              rcases hv with hv | hv <;> have hv := of_decide_eq_true hv <;> subst hv <;> decide
            have K := hst j _ (.inl (1, n, .inl (upd f x.toNatClampNeg (vp_nar .boolean v)))) hM rfl r e2.symm (by rw [en]; exact e3.symm)
            exact va_zast hx hb hK hP hD hS j 1 (wsM_at hM) rfl hi hd K
        · cases h
      · cases h
    · cases h
  · split at h
    · rename_i v x a r
      split at h
      · rename_i o1 o2 t n f ci fs hM hV
        split at h
        · rename_i hi
          rw [Bool.and_eq_true, Bool.or_eq_true, Bool.and_eq_true, Bool.and_eq_true] at hi
          obtain ⟨ht, hi⟩ := hi
          have hi := inA_in hi
          obtain ⟨jv, rfl⟩ := mem0 h0 hV
          cases a with
          | zero =>
            rw [h0] at hM
            cases hM
          | succ j =>
            have e1 := Option.some.inj h
            have e2 := congrArg Prod.fst e1
            have e3 := congrArg Prod.snd e1
            have K := hst j _ (.inl (t, n, .inr (.inr (.inr (.inr (va_up f x.toNatClampNeg (some (jv + 1)))))))) hM rfl r e2.symm e3.symm
            have eu : (fun k => (va_up f x.toNatClampNeg (some (jv + 1)) k).map (ad b sz)) = va_up (fun k => (f k).map (ad b sz)) x.toNatClampNeg (some (sz + jv)) := by
              funext n
              unfold va_up
              split <;> rfl
            have K2 : ∀ (H1 : Heap) (locs1 : List Loc), va_P D vwCl ((wsM cy b sz M).set j (sz + j, .inl (cy t, n, .inr (.inr (.inr (.inr (va_up (fun k => (f k).map (ad b sz)) x.toNatClampNeg (some (sz + jv))))))))) H1 → va_D (fun q : Nat => sz ≤ q) ((wsM cy b sz M).set j (sz + j, .inl (cy t, n, .inr (.inr (.inr (.inr (va_up (fun k => (f k).map (ad b sz)) x.toNatClampNeg (some (sz + jv))))))))) → va_S (fun q : Nat => sz ≤ q) s.heap H1 locs1 → W p l e R s m args below meth c H1 locs1 cells slots Q (F0 m (pc + 1) ls (r.map (cv b sz))) := by
              rw [← eu]
              exact K
            rcases ht with ⟨ht, hci⟩ | ⟨ht, hci⟩ <;> have ht := Nat.eq_of_beq_eq_true ht <;> have hci := Nat.eq_of_beq_eq_true hci <;> subst ht <;> subst hci
            · exact va_astq hx hb hK hP hD hS j 2 jv 6 (r := vcl 6) (wsM_at hM) rfl (wsM_at hV) rfl hi hd K2
            · exact va_astq hx hb hK hP hD hS j 3 jv 0 (r := vcl 0) (wsM_at hM) rfl (wsM_at hV) rfl hi hd K2
        · cases h
      · cases h
    · cases h
  · split at h
    · rename_i a r
      split at h
      · rename_i o t n f hM
        split at h
        · rename_i ht
          rw [Nat.blt_eq] at ht
          cases h
          have K := k H locs cells slots ⟨hP, hS, h0⟩ hcz rfl
          cases a with
          | zero =>
            rw [h0] at hM
            cases hM
            refine va_slen hx hb hX hbl hbA hS hd ?_
            rw [← Int32.ofInt_eq_ofNat]
            exact K
          | succ j =>
            have hy : ∃ ty, (tyl cy)[t]? = some (cy t, ty) := by
              rcases (show t = 0 ∨ t = 1 ∨ t = 2 ∨ t = 3 by omega) with rfl | rfl | rfl | rfl <;> exact ⟨_, rfl⟩
            obtain ⟨ty, hy⟩ := hy
            have hn : (cvA b sz (n, f)).1 = n := by
              rcases f with f | f | f | f | f <;> rfl
            refine va_alen hx hb hK hP j t (wsM_at hM) hy ?_ hd K
            rw [hn, Int32.ofInt_eq_ofNat]
        · cases h
      · cases h
    · cases h
  · split at h
    · rename_i x r
      split at h
      · cases h
      · rename_i hg
        rw [Bool.or_eq_false_iff] at hg
        obtain ⟨hg1, hg2⟩ := hg
        have hg1 := of_decide_eq_false hg1
        have hg3 : x.toNatClampNeg ≤ 134217728 := by
          rcases Nat.lt_or_ge 134217728 x.toNatClampNeg with q | q
          · rw [← Nat.blt_eq, hg2] at q
            cases q
          · exact q
        have fin : ∀ (t : Nat) (ty : FieldType) (H1 : Heap) (cA : ClassId), (tyl cy)[t]? = some (cy t, ty) → vp_cell (cy t) (x.toNatClampNeg, .inl (fun _ => 0)) = arrV (cy t) x.toNatClampNeg (fun _ => defaultValue ty) → s.vm.findClass ("[" ++ ty.toString) = some (cy t) → sk' = .ref M.length :: r → M' = M ++ [.inl (t, x.toNatClampNeg, .inl (fun _ => 0))] → H1[sz + (M.length - 1)]? = some (arrV cA x.toNatClampNeg (fun _ => defaultValue ty)) → H1.size = sz + (M.length - 1) + 1 → H.size = sz + (M.length - 1) → (∀ q, q < sz + (M.length - 1) → H1[q]? = H[q]?) → s.vm.findClass ("[" ++ ty.toString) = some cA → W p l e R s m args below meth c H1 locs (cells + 1) (slots + x.toNatClampNeg) Q (F0 m (pc + 2) ls (.ref (sz + (M.length - 1)) :: r.map (cv b sz))) := by
          intro t ty H1 cA hy hcell hRA hsk hM' e1 z1 hsz o1 hNm
          subst hsk
          subst hM'
          have ec : cA = cy t := Option.some.inj (hNm.symm.trans hRA)
          subst ec
          have hk : ∀ (n : Nat) (x : Nat × va_E), (wsM cy b sz M)[n]? = some x → H1[x.1]? = H[x.1]? := fun n x hx => o1 x.1 (by have := (hP n x hx).lt; omega)
          have hP1 : va_P D vwCl (wsM cy b sz (M ++ [.inl (t, x.toNatClampNeg, .inl (fun _ => 0))])) H1 := by
            rw [← wsM_push hM1]
            refine (hP.kept hk).app (fun n x hx => ?_)
            have hz : n < 1 := (List.getElem?_eq_some_iff.mp hx).1
            rw [show n = 0 by omega] at hx
            cases hx
            rw [← hcell] at e1
            exact e1
          have K := k H1 locs (cells + 1) (slots + x.toNatClampNeg) ⟨hP1, ⟨Nat.le_trans hS.1 (by omega), fun x h1 h2 => (o1 x (by have := hS.1; omega)).trans (hS.2.1 x h1 h2), hS.2.2⟩, app0 h0⟩ (by rw [List.length_append]; simp; omega) (by rw [szM_app]; simp only [szC]; omega)
          rw [List.map_cons, show cv b sz (.ref M.length) = .ref (ad b sz M.length) from rfl, szM_pos hM1] at K
          exact K
        split at h
        · have e1 := Option.some.inj h
          have e2 := (congrArg Prod.fst e1).symm
          have e3 := (congrArg Prod.snd e1).symm
          have e2 : sk' = .ref M.length :: r := e2
          have e3 : M' = M ++ [.inl (0, x.toNatClampNeg, .inl (fun _ => 0))] := e3
          have hlen : M'.length = M.length + 1 := by rw [e3]; simp
          have hszm : szM M' = szM M + x.toNatClampNeg := by rw [e3, szM_app]; rfl
          refine W.bound fun hub => ?_
          have hsz : H.size = sz + (M.length - 1) := by
            rcases sz_low hP hM1 hS.1 hcz with ⟨q1, q2, q3⟩ | q <;> omega
          refine va_newaK hx hb (atype := .int) (hts _ (wAt_in arrI_ok)) rfl hd rfl hg1 rfl (by show x.toNatClampNeg * 4 ≤ 536870912; omega) (by omega) (by omega) hsz fun H1 cA f1 f2 f3 f4 f5 => ?_
          exact fin 0 .int H1 cA rfl rfl (hK.2 0 _ rfl).2 e2 e3 f1 f2 hsz f3 f5
        · have e1 := Option.some.inj h
          have e2 := (congrArg Prod.fst e1).symm
          have e3 := (congrArg Prod.snd e1).symm
          have e2 : sk' = .ref M.length :: r := e2
          have e3 : M' = M ++ [.inl (1, x.toNatClampNeg, .inl (fun _ => 0))] := e3
          have hlen : M'.length = M.length + 1 := by rw [e3]; simp
          have hszm : szM M' = szM M + x.toNatClampNeg := by rw [e3, szM_app]; rfl
          refine W.bound fun hub => ?_
          have hsz : H.size = sz + (M.length - 1) := by
            rcases sz_low hP hM1 hS.1 hcz with ⟨q1, q2, q3⟩ | q <;> omega
          refine va_newaK hx hb (atype := .boolean) (hts _ (wAt_in arrZ_ok)) rfl hd rfl hg1 rfl (by show x.toNatClampNeg * 1 ≤ 536870912; omega) (by omega) (by omega) hsz fun H1 cA f1 f2 f3 f4 f5 => ?_
          exact fin 1 .boolean H1 cA rfl rfl (hK.2 1 _ rfl).2 e2 e3 f1 f2 hsz f3 f5
        · cases h
    · cases h
  · rename_i ix
    split at h
    · rename_i x r
      split at h
      · cases h
      · rename_i hg
        rw [Bool.or_eq_false_iff] at hg
        obtain ⟨hg1, hg2⟩ := hg
        have hg1 := of_decide_eq_false hg1
        have hg3 : x.toNatClampNeg ≤ 134217728 := by
          rcases Nat.lt_or_ge 134217728 x.toNatClampNeg with q | q
          · rw [← Nat.blt_eq, hg2] at q
            cases q
          · exact q
        obtain ⟨e2, e3⟩ := Prod.mk.inj (Option.some.inj h)
        subst e2
        subst e3
        have hlen : (M ++ [(Sum.inl (r1, x.toNatClampNeg, .inr (.inr (.inr (.inr (fun _ => none))))) : PC)]).length = M.length + 1 := by simp
        have hszm : szM (M ++ [(Sum.inl (r1, x.toNatClampNeg, .inr (.inr (.inr (.inr (fun _ => none))))) : PC)]) = szM M + x.toNatClampNeg := by rw [szM_app]; rfl
        refine W.bound fun hub => ?_
        have hsz : H.size = sz + (M.length - 1) := by
          rcases sz_low hP hM1 hS.1 hcz with ⟨q1, q2, q3⟩ | q <;> omega
        have fin : ∀ (C : String), (Cond.classLink q.1.cls ix C).before args s = true → va_AO C s → (tyl cy)[r1]? = some (cy r1, .object C) → W p l e R s m args below meth c H locs cells slots Q (F0 m pc ls (.int x :: r.map (cv b sz))) := by
          intro C hcl hAO hty
          obtain ⟨kA0, comp0, -, -, -, hRA⟩ := (hK.2 r1 _ hty).2
          refine W.anew hx hb hown hcl (va_AO.use hAO) rfl hd rfl hg1 (by omega) (by omega) (by omega) fun cA kA comp f1 f2 f3 f4 => ?_
          have ec : cA = cy r1 := Option.some.inj (f1.symm.trans hRA)
          subst ec
          generalize hH1 : H.push ({ cls := cy r1, slots := Array.replicate x.toNatClampNeg .null, vm := .none } : Cell) = H1
          have z1 : H1.size = H.size + 1 := by rw [← hH1, Array.size_push]
          have e1 : H1[H.size]? = some (arrV (cy r1) x.toNatClampNeg (fun _ => .null)) := by rw [← hH1, Array.getElem?_push_size, ← arrV_new]
          have o1 : ∀ q : Nat, q < H.size → H1[q]? = H[q]? := fun q hq => by rw [← hH1, Array.getElem?_push, if_neg (Nat.ne_of_lt hq)]
          have hk : ∀ (n : Nat) (x : Nat × va_E), (wsM cy b sz M)[n]? = some x → H1[x.1]? = H[x.1]? := fun n x hx => o1 x.1 ((hP n x hx).lt)
          have hP1 : va_P D vwCl (wsM cy b sz (M ++ [.inl (r1, x.toNatClampNeg, .inr (.inr (.inr (.inr (fun _ => none)))))])) H1 := by
            rw [← wsM_push hM1]
            refine (hP.kept hk).app (fun n x hx => ?_)
            have hz : n < 1 := (List.getElem?_eq_some_iff.mp hx).1
            rw [show n = 0 by omega] at hx
            cases hx
            rw [hsz] at e1
            exact e1
          have K := k H1 locs (cells + 1) (slots + x.toNatClampNeg) ⟨hP1, ⟨Nat.le_trans hS.1 (by omega), fun x h1 h2 => (o1 x (by have := hS.1; omega)).trans (hS.2.1 x h1 h2), hS.2.2⟩, app0 h0⟩ (by rw [hlen]; omega) (by rw [hszm]; omega)
          rw [List.map_cons, show cv b sz (.ref M.length) = .ref (ad b sz M.length) from rfl, szM_pos hM1, ← hsz] at K
          exact K
        rcases hF with ⟨rfl, hF⟩ | ⟨rfl, hF⟩
        · exact fin "PairGrammars$Row" hF hN.2.1 rfl
        · exact fin "PairGrammars$Grammar" hF hN.2.2 rfl
    · cases h
  · cases h
end SNQ
