section SOUND
theorem okE_I {q : MI} {pc ln nx tg r1 r2 r3 : Nat} {i : Instr} {s : State} {args : Array Value} (ho : own q.2.2.2.2.2.1 = q.1.cls) (hts : ∀ w ∈ gw, w.before args s = true) (hN : NX s) (h : okE q (pc, i, ln, nx, tg, r1, r2, r3) = true) {sk : List Value} {M : PM} {as r : List Value} (hg : gI i tg r2 r3 sk M = some (as, r)) : okI i tg r1 r2 r3 args s q := by
  obtain ⟨-, -, -, -, hk⟩ := gI_inv hg
  unfold okE at h
  have h := and2 h
  cases i <;> try exact hk.elim
  · rename_i ix
    obtain ⟨hk, -⟩ := hk
    obtain ⟨x, hx, hc⟩ := cll_of (and2 (and1 (and1 h)))
    have hmx := Nat.le_of_ble_eq_true (and2 h)
    rcases hk with hk | hk <;> subst hk
    · have hd := Nat.blt_eq.mp (and2 (and1 h))
      unfold clOk at hc
      have k1 := hts _ (wAt_in (and1 (and1 (and1 (and1 (and1 (and1 hc)))))))
      have k2 := hts _ (wAt_in (and2 (and1 (and1 (and1 (and1 (and1 hc)))))))
      have k3 := hts _ (wAt_in (and2 (and1 (and1 (and1 (and1 hc))))))
      have k4 := of_decide_eq_true (and2 (and1 (and1 (and1 hc))))
      have k5 := of_decide_eq_true (and2 (and1 (and1 hc)))
      have k6 := of_decide_eq_true (and2 (and1 hc))
      have k7 := of_decide_eq_true (and2 hc)
      rw [ho] at k1
      exact ⟨k7, hd, hmx, k2, k4, k5, k6, k3, fun _ => k1, fun e => (by cases e)⟩
    · have hd := Nat.blt_eq.mp (and2 (and1 h))
      have kn := hN.1 _ hx (Or.inl rfl)
      unfold clOk at hc
      have k2 := hts _ (wAt_in (and2 (and1 (and1 (and1 (and1 (and1 hc)))))))
      have k3 := hts _ (wAt_in (and2 (and1 (and1 (and1 (and1 hc))))))
      have k4 := of_decide_eq_true (and2 (and1 (and1 (and1 hc))))
      have k5 := of_decide_eq_true (and2 (and1 (and1 hc)))
      have k6 := of_decide_eq_true (and2 (and1 hc))
      have k7 := of_decide_eq_true (and2 hc)
      rw [ho] at kn
      exact ⟨k7, hd, hmx, k2, k4, k5, k6, k3, fun e => (by cases e), fun _ => kn⟩
  · rename_i ix
    obtain ⟨x, hx, hc⟩ := cll_of (and2 (and1 (and1 h)))
    have hmx := Nat.le_of_ble_eq_true (and2 h)
    rcases hk with hk | hk <;> subst hk
    · have hd := Nat.blt_eq.mp (and2 (and1 h))
      unfold clOk at hc
      have k1 := hts _ (wAt_in (and1 (and1 (and1 (and1 hc)))))
      have k2 := hts _ (wAt_in (and2 (and1 (and1 (and1 hc)))))
      have k3 := hts _ (wAt_in (and2 (and1 (and1 hc))))
      have k4 := of_decide_eq_true (and2 (and1 hc))
      have k7 := of_decide_eq_true (and2 hc)
      rw [ho] at k1
      exact ⟨k7, hd, hmx, k2, fun _ => ⟨k1, k3, k4⟩, fun e => (by cases e)⟩
    · have hd := Nat.blt_eq.mp (and2 (and1 h))
      have kn := hN.1 _ hx (Or.inr rfl)
      unfold clOk at hc
      have k2 := hts _ (wAt_in (and2 (and1 (and1 (and1 hc)))))
      have k3 := hts _ (wAt_in (and2 (and1 (and1 hc))))
      have k4 := of_decide_eq_true (and2 (and1 hc))
      have k7 := of_decide_eq_true (and2 hc)
      rw [ho] at kn
      exact ⟨k7, hd, hmx, k2, fun e => (by cases e), fun _ => ⟨kn, k3, k4⟩⟩
  · rename_i ix
    obtain ⟨hk, -⟩ := hk
    subst hk
    obtain ⟨x, hx, hc⟩ := cll_of (and2 (and1 (and1 h)))
    have hmx := Nat.le_of_ble_eq_true (and2 h)
    have hd := Nat.blt_eq.mp (and2 (and1 h))
    unfold clOk at hc
    have k1 := hts _ (wAt_in (and1 (and1 (and1 (and1 (and1 (and1 (and1 hc))))))))
    have k2 := hts _ (wAt_in (and2 (and1 (and1 (and1 (and1 (and1 (and1 hc))))))))
    have k3 := hts _ (wAt_in (and2 (and1 (and1 (and1 (and1 (and1 hc)))))))
    have k4 := hts _ (wAt_in (and2 (and1 (and1 (and1 (and1 hc))))))
    have k5 := of_decide_eq_true (and2 (and1 (and1 (and1 hc))))
    have k6 := of_decide_eq_true (and2 (and1 (and1 hc)))
    have k7 := of_decide_eq_true (and2 (and1 hc))
    have k8 := of_decide_eq_true (and2 hc)
    rw [ho] at k1
    exact ⟨k8, hd, hmx, k2, k1, k3, k4, k5, k6, k7⟩
theorem fe_mem : ∀ {l : List EN} {pc : Nat} {r : Instr × Nat × Nat × Nat × Nat × Nat × Nat}, fe l pc = some r → (pc, r) ∈ l
  | [], _, _, h => by cases h
  | e :: l, pc, r, h => by
    unfold fe at h
    split at h
    · rename_i hb
      have hb := Nat.eq_of_beq_eq_true hb
      cases h
      subst hb
      exact List.mem_cons_self
    · exact List.mem_cons_of_mem _ (fe_mem h)
theorem gB_noSw {i : Instr} {lv lv' : LV} {sk sk' : List Value} (h : gB i lv sk = some (lv', sk')) : isSw i = false := by
  cases i <;> first | rfl | cases h
theorem gG_noSw {i : Instr} {sk sk' : List Value} {t : Bool} (h : gG i sk = some (t, sk')) : isSw i = false := by
  cases i <;> first | rfl | cases h
theorem gK_noSw {i : Instr} {lv : LV} {r1 r2 : Nat} {sk sk' : List Value} (h : gK i lv r1 r2 sk = some sk') : isSw i = false := by
  cases i <;> first | rfl | cases h
theorem gH_noSw {i : Instr} {tg r1 r2 : Nat} {sk sk' : List Value} {M M' : PM} (h : gH i tg r1 r2 sk M = some (sk', M')) : isSw i = false := by
  cases i <;> first | rfl | cases h
theorem gR_noSw {ret : Option FieldType} {i : Instr} {sk : List Value} {v : Option Value} (h : gR ret i sk = some v) : isSw i = false := by
  cases i <;> first | rfl | cases h
theorem gI_noSw {i : Instr} {kd n rc : Nat} {sk : List Value} {M : PM} {as r : List Value} (h : gI i kd n rc sk M = some (as, r)) : isSw i = false := by
  have hk := (gI_inv h).2.2.2.2
  cases i <;> first | rfl | exact hk.elim
/-- what a run says of the machine, wherever it stands in its method -/
def Snd (y : Nat) (x : CF) (v : Option Value) (M' : PM) : Prop :=
  ∀ {p : Program} {l : Launch} {e : Env} {R : Room} {s : State} {m : MethodId} {args : Array Value} {below : List Frame} {meth : Method} {c : Code} {H : Heap} {locs : List Loc} {cells slots : Nat} {Q : State → Prop} {b sz L : Nat} {ls : Array Slot} {D : va_G} {cy : Nat → ClassId} {xs : Nat → Int32} {CN SN : Nat},
    Cx p s m args meth c (mi y) D cy b sz L xs → Wd D cy b sz L xs s.heap x.2.2.2 H locs → lv_has ls (mi y).2.2.1 (x.2.1.map (cvp b sz)) → s.heap.size + cells + 1 = sz + x.2.2.2.length → (mi y).2.2.2.2.1 ≤ R.frames → 35 * (mi y).2.2.2.2.1 ≤ R.locals →
    s.heap.size + CN + 1 = sz + M'.length → SN + szM x.2.2.2 = slots + szM M' → CN ≤ R.cells → SN ≤ R.slots →
    (∀ (i : Instr) (pc ln : Nat) (H1 : Heap) (locs1 : List Loc) (ls1 : Array Slot) (sk : List Value), decode (mi y).2.1 pc = .ok (i, ln) → ln = sLen i → gR (mm y).1 i sk = some v → Wd D cy b sz L xs s.heap M' H1 locs1 → W p l e R s m args below meth c H1 locs1 CN SN Q (F0 m pc ls1 (sk.map (cv b sz)))) →
    W p l e R s m args below meth c H locs cells slots Q (F0 m x.1 ls (x.2.2.1.map (cv b sz)))
theorem MetAt.of {l : Launch} {D : va_G} {cy : Nat → ClassId} {b sz L : Nat} {xs : Nat → Int32} {y : Nat} {as : List Value} {M M' : PM} {v : Option Value} (hy : y < 132) (hc : catS as ≤ (mi y).2.2.1) (hS : Snd y (0, lvs 0 as, [], M) v M') (hmo : Mono M M') : MetAt l D cy b sz L xs y as M v M' := by
  obtain ⟨hcode, hpl⟩ := cws_at hy
  obtain ⟨hp1, hp2, hp3⟩ := plainY_at hpl
  obtain ⟨-, hret, -, -⟩ := okm y (by omega)
  refine va_MetF (cc := (mi y).2.1) (maxL := (mi y).2.2.1) (ret := (mi y).2.2.2.1) hp3 rfl ?_
  intro p e s m args below meth c s₁ B hml hv
  obtain ⟨rfl, hP, hz, h0, hK, hX, hN, hb⟩ := hv
  have hts := atoms_spec (ws := wsY y) B.pre
  have hl := lv_entry (as.map (cv b sz)) (n := (mi y).2.2.1) (by rw [lg_len]; exact hc)
  rw [lg_entry_eq]
  rw [lvs_eq] at hl
  have hM1 : 1 ≤ M.length := by
    have := (List.getElem?_eq_some_iff.mp h0).1
    omega
  have mo2 := hmo.2.1
  have mo3 := hmo.2.2
  refine hS (CN := M'.length - M.length) (SN := szM M' - szM M) ⟨B.exec, B.bytes, hml, findClass_of_methodNamed B.named, fun w hw => hts w (List.mem_cons_of_mem _ hw), hK, hX, hb, by omega, hN, fun e => ((name_of_methodNamed B.named B.method).1).trans e⟩ ⟨hP, va_S.rf, h0⟩ hl hz (Nat.le_refl _) (Nat.le_refl _) (by first | omega | (dsimp only; omega)) (by first | omega | (dsimp only; omega)) (Nat.le_refl _) (Nat.le_refl _) ?_
  intro i pc ln H1 locs1 ls1 sk hd hln hg w
  obtain ⟨wP, wS, w0⟩ := w
  have hx := B.exec
  have hbb := B.bytes
  have hr := B.returns
  have hlocks := B.notSynchronized
  subst hln
  have hqc : ∀ t : State, t.heap = H1 → s.WarmedH t.vm → Qc0 D cy b sz v M' (as.map (cv b sz)).toArray s (.returned (v.map (cv b sz))) t := fun t ht _ => ⟨rfl, by rw [ht]; exact wP, wS.F ht⟩
  rw [← hret] at hr
  unfold gR at hg
  split at hg
  · split at hg
    · rename_i o1 o2 x e1
      cases hg
      exact W.iret hx hbb (hr.trans e1) hqc wS.2.2 hd
    · rename_i o1 o2 x e1
      split at hg
      · rename_i hv
        cases hg
        rw [Bool.or_eq_true] at hv
        refine W.zret (ty := .boolean) hx hbb (hr.trans e1) ?_ hqc wS.2.2 hd
        rcases hv with hv | hv <;> have hv := of_decide_eq_true hv <;> subst hv <;> decide
      · cases hg
    · cases hg
  · split at hg
    · rename_i o1 o2 x e1
      cases hg
      exact W.lret hx hbb (hr.trans e1) hqc wS.2.2 hd
    · cases hg
  · split at hg
    · rename_i o1 o2 x n e1
      cases hg
      exact W.aret hx hbb (hr.trans e1) (Or.inl ⟨_, rfl⟩) (Or.inr ⟨_, rfl⟩) hqc wS.2.2 hd
    · cases hg
  · split at hg
    · rename_i o1 o2 e1
      cases hg
      exact W.vret hx hbb (hr.trans e1) hqc wS.2.2 hd
    · cases hg
  · cases hg
/-- THE SMALL MACHINE IS SOUND -/
theorem run_sound (n : Nat) : ∀ (y : Nat) (x : CF) (v : Option Value) (M' : PM), y < 133 → run n (mm y) x = some (v, M') → Snd y x v M' := by
  induction n with
  | zero =>
    intro y x v M' hy h
    cases h
  | succ n IH =>
    intro y x v M' hy h
    obtain ⟨pc, lv, sk, M⟩ := x
    intro p l e R s m args below meth c H locs cells slots Q b sz L ls D cy xs CN SN X w hls hcz hR1 hR2 hCN hSN hCR hSR kr
    obtain ⟨hrows, hret, ho, hd1⟩ := okm y hy
    have ih := fun x v M' => IH y x v M' hy
    have mono := run_mono (n + 1) _ _ _ _ h
    dsimp only at w hls hcz hSN mono ⊢
    have X0 := X
    obtain ⟨hx, hb, hml, hown, hts, hK, hX, hbs, hss, hNX, hini⟩ := X0
    have hR35 : 35 ≤ R.locals := by omega
    have hR11 : 1 ≤ R.frames := by omega
    unfold run at h
    dsimp only [stp] at h
    cases hf : fe (mm y).2 pc with
    | none => rw [hf] at h; cases h
    | some t =>
      obtain ⟨i, ln, nx, tg, r1, r2, r3⟩ := t
      rw [hf] at h
      dsimp only at h
      have hE : okE (mi y) (pc, i, ln, nx, tg, r1, r2, r3) = true := List.all_eq_true.mp hrows _ (fe_mem hf)
      obtain ⟨hd, hnx⟩ := okE_dec hE
      subst hnx
      cases hg1 : gK i lv r1 r2 sk with
      | some sk' =>
        rw [hg1] at h
        dsimp only at h
        have hl := okE_len hE (gK_noSw hg1)
        have K := ih _ _ _ h X w hls hcz hR1 hR2 hCN hSN hCR hSR kr
        dsimp only at K
        unfold gK at hg1
        split at hg1
        · rename_i g1
          cases hg1
          exact snA hx hb hd hl g1 hls K
        · split at hg1
          · rename_i g1
            cases hg1
            exact snC hx hb hown hd hl g1 (okE_C ho hts hE) K
          · split at hg1
            · rename_i g1
              cases hg1
              exact snD hx hb hd hl g1 K
            · exact snE hx hb hd hl hg1 K
      | none =>
        rw [hg1] at h
        dsimp only at h
        cases hg2 : gB i lv sk with
        | some z =>
          obtain ⟨lv', sk'⟩ := z
          rw [hg2] at h
          dsimp only at h
          have hl := okE_len hE (gB_noSw hg2)
          exact snB hx hb hd hl hg2 hls (okE_B hE) fun ls' hls' => ih _ _ _ h X w hls' hcz hR1 hR2 hCN hSN hCR hSR kr
        | none =>
          rw [hg2] at h
          dsimp only at h
          cases hg3 : gG i sk with
          | some z =>
            obtain ⟨t, sk'⟩ := z
            rw [hg3] at h
            dsimp only at h
            have hl := okE_len hE (gG_noSw hg3)
            have K := ih _ _ _ h X w hls hcz hR1 hR2 hCN hSN hCR hSR kr
            exact snG hx hb hd hl hg3 (okE_G hE) K
          | none =>
            rw [hg3] at h
            dsimp only at h
            cases hg4 : gH i tg r1 r2 sk M with
            | some z =>
              obtain ⟨sk', M1⟩ := z
              rw [hg4] at h
              dsimp only at h
              have hl := okE_len hE (gH_noSw hg4)
              have mo := run_mono n _ _ _ _ h
              dsimp only at mo
              have m2 := mo.2.1
              have m3 := mo.2.2
              have K : ∀ (H1 : Heap) (locs1 : List Loc) (c1 s1 : Nat), Wd D cy b sz L xs s.heap M1 H1 locs1 → s.heap.size + c1 + 1 = sz + M1.length → s1 + szM M = slots + szM M1 → W p l e R s m args below meth c H1 locs1 c1 s1 Q (F0 m (pc + ln) ls (sk'.map (cv b sz))) :=
                fun H1 locs1 c1 s1 w1 hc1 hs1 => ih _ _ _ h X w1 hls hc1 hR1 hR2 hCN (by dsimp only; omega) hCR hSR kr
              unfold gH at hg4
              split at hg4
              · rename_i g1
                cases hg4
                exact snF X w hd hl g1 (okE_F ho hts hE) hcz (by omega) (by omega) K
              · split at hg4
                · rename_i g1
                  cases hg4
                  exact snM X w hd hl g1 (okE_F ho hts hE) hcz (by omega) (by omega) K
                · exact snN X w hls hd hl hg4 (okE_N ho hts hE) hR11 hR35 hcz K
            | none =>
              rw [hg4] at h
              dsimp only at h
              cases hg5 : gS i pc sk with
              | some z =>
                obtain ⟨pc', sk'⟩ := z
                rw [hg5] at h
                dsimp only at h
                have K := ih _ _ _ h X w hls hcz hR1 hR2 hCN hSN hCR hSR kr
                exact snS hx hb hd hg5 (okE_S hE) K
              | none =>
                rw [hg5] at h
                dsimp only at h
                cases hg6 : gR (mm y).1 i sk with
                | some z =>
                  rw [hg6] at h
                  dsimp only at h
                  cases h
                  have e1 : cells = CN := by omega
                  have e2 : slots = SN := by omega
                  subst e1
                  subst e2
                  exact kr i pc ln H locs ls sk hd (okE_len hE (gR_noSw hg6)) hg6 w
                | none =>
                  rw [hg6] at h
                  dsimp only at h
                  cases hg7 : gI i tg r2 r3 sk M with
                  | none => rw [hg7] at h; cases h
                  | some z =>
                    obtain ⟨as, r⟩ := z
                    rw [hg7] at h
                    dsimp only at h
                    have hl := okE_len hE (gI_noSw hg7)
                    have hI := okE_I ho hts hNX hE hg7
                    have hy1 := hI.1
                    split at h
                    · cases h
                    · rename_i hcat
                      have hcat := Nat.le_of_ble_eq_true hcat
                      split at h
                      · cases h
                      · rename_i v1 M1 h1
                        have mo1 := run_mono n _ _ _ _ h1
                        have mo := run_mono n _ _ _ _ h
                        dsimp only at mo mo1
                        have m2 := mo.2.1
                        have m3 := mo.2.2
                        have n2 := mo1.2.1
                        have n3 := mo1.2.2
                        have hS1 := @IH r1 (0, lvs 0 as, [], M) v1 M1 (by omega) h1
                        refine snI X w hls hd hl hg7 hI (MetAt.of hy1 hcat hS1 mo1) mo1 hR1 hR2 hcz (by omega) (by omega) ?_
                        intro H1 locs1 c1 s1 w1 hc1 hs1
                        exact ih _ _ _ h X w1 hls hc1 hR1 hR2 hCN (by dsimp only; omega) hCR hSR kr
end SOUND
