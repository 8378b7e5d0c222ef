/-! The Model opens on the way to a place; copies; its history. -/
theorem opnF_congr {f : Int → Int} {N : Nat} {X X' : Nat → List Int} (hX : ∀ k, k < N → X k = X' k) (q : Int) : ∀ (n : Nat) (xs : List Int), opnF N X f q n xs = opnF N X' f q n xs
  | 0, xs => by rw [opnF, opnF]
  | n + 1, xs => by
    rw [opnF, opnF]
    by_cases hc : 8 ≤ rat xs (posL f xs q) ∧ rat xs (posL f xs q) < 8 + N
    · rw [if_pos hc, if_pos hc, hX _ (by omega)]
      split
      · exact opnF_congr hX q n _
      · rfl
    · rw [if_neg hc, if_neg hc]
theorem opn_wfm {G : GS} (hW : WFG G) {z : Int} (h0 : 0 ≤ z) (h1 : z < G.2.length) (h2 : 8 ≤ rat G.2 z) : WFG (G.1, opM G z) := by
  refine ⟨hW.1, ?_, hW.2.2⟩
  have hx := hW.2.1 _ (rat_mem h0 h1)
  intro s hs
  dsimp only at hs ⊢
  unfold opM at hs
  rcases List.mem_append.mp hs with hs | hs
  · exact hW.2.1 s (List.mem_of_mem_take hs)
  · rcases List.mem_append.mp hs with hs | hs
    · have := hW.1 _ (by omega) s hs
      omega
    · exact hW.2.1 s (List.mem_of_mem_drop hs)
theorem Ga.move {f g : Nat → Int} {o o' : Nat} {G : GS} (h : Ga f o G) (e : ∀ k, k < 2188 → g (o' + k) = f (o + k)) : Ga g o' G := by
  obtain ⟨h1, h2, h3, h4⟩ := h
  have mv : ∀ {b : Nat} {xs : List Int}, b ≤ 2106 → Rf f (o + b) xs → Rf g (o' + b) xs := by
    rintro b xs hb ⟨w1, w2, w3⟩
    refine ⟨by rw [e b (by omega), w1], w2, fun k hk => ?_⟩
    rw [w3 k hk, Nat.add_assoc o', Nat.add_assoc o', e _ (by omega), Nat.add_assoc o, Nat.add_assoc o]
  refine ⟨by rw [e 2187 (by omega), h1], h2, fun k hk => mv (by omega) (h3 k hk), mv (by omega) h4⟩
def HG (f : Nat → Int) (hist : List GS) : Prop := ∀ (i : Nat) (G : GS), hist[i]? = some G → Ga f (2188 * i) G
def push (hist : List GS) (G : GS) : List GS := (if hist.length = 6 then hist.tail else hist) ++ [G]
section MD11
variable {M : PM} {m : Nat} {G : GS}
theorem lp_opensTo {hl pl sp q : Int} (hq : 0 ≤ q ∧ q ≤ 20000) (n : Nat) : ∀ (mn1 : List Int) (si re : Int) (M1 : PM), (n ≤ 27 ∧ 1 ≤ n ∧ Mr M1 m (G.1, mn1) ∧ MO M1 m hl si re pl sp ∧ WFG (G.1, mn1) ∧ Tr M1 m (G.1, mn1) ∧ q < sumL (lyG G) mn1 ∧ si = posL (lyG G) mn1 q ∧ rat mn1 si < 8 + ((n - 1 : Nat) : Int) ∧ Fr (fun z => z = m ∨ z = m + 1 ∨ z = m + 7) M M1) →
    Wp k_X10_opensTo (9, [(0, .ref m), (1, .int (I q))], [], M1) (fun v M' => Fr (fun z => z = m ∨ z = m + 1 ∨ z = m + 7) M M' ∧ ((∃ mn2 z re', opnF G.1.length (xof G.1) (lyG G) q n mn1 = some (mn2, z) ∧ v = some (.int (I 1)) ∧ 0 ≤ z ∧ z < mn2.length ∧ rat mn2 z < 8 ∧ Mr M' m (G.1, mn2) ∧ MO M' m hl z re' pl sp ∧ WFG (G.1, mn2)) ∨ (opnF G.1.length (xof G.1) (lyG G) q n mn1 = none ∧ v = some (.int (I 0)) ∧ ∃ si' re' mn2, MO M' m hl si' re' pl sp ∧ Mr M' m (G.1, mn2)))) := by
  induction n with
  | zero => intro mn1 si re M1 hi; exfalso; omega
  | succ n ih =>
    rintro mn1 si re M1 ⟨i1, i2, i3, i4, i5, i6, i8, i9, i10, i11⟩
    have ely : lyG (G.1, mn1) = lyG G := rfl
    have hN := i3.le
    have hml := i3.ml
    dsimp only at hN hml
    have hpl := posL_lt (fun s => (lyG_bd i5 s).1) mn1 q hq.1 i8
    rw [ely] at hpl
    have hpb := posL_bd (lyG G) mn1 q
    rw [← i9] at hpl hpb
    have hat := c_Md_at (p := si) i3 (vrM _) hpb.1 (by rw [rwM]; exact hpl.1)
    rw [rwM] at hat
    dsimp only at hat
    have hx := i5.2.1 _ (rat_mem hpb.1 hpl.1)
    dsimp only at hx
    have hil := c_Md_isLetter (M := M1) (s := rat mn1 si) ⟨by omega, by omega⟩
    rw [opnF, ← i9]
    repeat (refine wf rfl ?_; first | refine wq_iadd ?_ | refine wq_isub ?_ | refine wq_imul ?_ | refine wq_iinc rfl ?_ | refine wq_goto ?_ | refine wq_k rfl ?_ | refine wq_b rfl rfl ?_ | refine wq_getf (by assumption) rfl ?_ | refine wq_alen (by assumption) rfl ?_)
    refine wf rfl (wq_cv rfl rfl rfl i4 (hat.mono ?_))
    rintro v M1 ⟨rfl, rfl⟩
    refine wf rfl (wq_cs rfl rfl (hil.mono ?_))
    rintro v M1 ⟨rfl, rfl⟩
    by_cases hc : rat mn1 si < 8
    · rw [if_pos hc, if_neg (by omega)]
      repeat' (refine wf rfl ?_; first | refine wq_iadd ?_ | refine wq_isub ?_ | refine wq_imul ?_ | refine wq_iinc rfl ?_ | refine wq_goto ?_ | refine wq_k rfl ?_ | refine wq_b rfl rfl ?_ | refine wq_getf (by assumption) rfl ?_ | refine wq_alen (by assumption) rfl ?_ | (refine wq_eq ⟨by omega, by omega⟩ ⟨by omega, by omega⟩ (fun _ => ?_) (fun _ => ?_) <;> try (exfalso; omega)) | (refine wq_ne ⟨by omega, by omega⟩ ⟨by omega, by omega⟩ (fun _ => ?_) (fun _ => ?_) <;> try (exfalso; omega)) | (refine wq_lt ⟨by omega, by omega⟩ ⟨by omega, by omega⟩ (fun _ => ?_) (fun _ => ?_) <;> try (exfalso; omega)) | (refine wq_ge ⟨by omega, by omega⟩ ⟨by omega, by omega⟩ (fun _ => ?_) (fun _ => ?_) <;> try (exfalso; omega)) | (refine wq_gt ⟨by omega, by omega⟩ ⟨by omega, by omega⟩ (fun _ => ?_) (fun _ => ?_) <;> try (exfalso; omega)) | (refine wq_le ⟨by omega, by omega⟩ ⟨by omega, by omega⟩ (fun _ => ?_) (fun _ => ?_) <;> try (exfalso; omega)) | (refine wq_ifeq ⟨by omega, by omega⟩ (fun _ => ?_) (fun _ => ?_) <;> try (exfalso; omega)) | (refine wq_ifne ⟨by omega, by omega⟩ (fun _ => ?_) (fun _ => ?_) <;> try (exfalso; omega)) | (refine wq_iflt ⟨by omega, by omega⟩ (fun _ => ?_) (fun _ => ?_) <;> try (exfalso; omega)) | (refine wq_ifge ⟨by omega, by omega⟩ (fun _ => ?_) (fun _ => ?_) <;> try (exfalso; omega)) | (refine wq_ifgt ⟨by omega, by omega⟩ (fun _ => ?_) (fun _ => ?_) <;> try (exfalso; omega)) | (refine wq_ifle ⟨by omega, by omega⟩ (fun _ => ?_) (fun _ => ?_) <;> try (exfalso; omega)) | refine wq_r rfl rfl rfl rfl rfl rfl ?_)
      exact ⟨i11, Or.inl ⟨mn1, si, re, rfl, rfl, hpb.1, hpl.1, hc, i3, i4, i5⟩⟩
    · rw [if_neg hc, if_pos (by omega)]
      have hrm := c_Md_rowLong i3 (vrM _)
      rw [rwM] at hrm
      dsimp only at hrm
      have vr : vrG (G.1, mn1) (rat mn1 si - 8) := Or.inr ⟨by omega, by dsimp only; omega⟩
      have er : rwG (G.1, mn1) (rat mn1 si - 8) = xof G.1 (rat mn1 si - 8).toNat := if_neg (by omega)
      have hrr := c_Md_rowLong i3 vr
      have hrl := i3.rl vr
      rw [er] at hrr hrl
      refine wf rfl (wq_ifne ⟨by omega, by omega⟩ (fun c9 => absurd rfl c9) (fun _ => ?_))
      repeat (refine wf rfl ?_; first | refine wq_iadd ?_ | refine wq_isub ?_ | refine wq_imul ?_ | refine wq_iinc rfl ?_ | refine wq_goto ?_ | refine wq_k rfl ?_ | refine wq_b rfl rfl ?_ | refine wq_getf (by assumption) rfl ?_ | refine wq_alen (by assumption) rfl ?_)
      refine wf rfl (wq_cv rfl rfl rfl i4 (hrm.mono ?_))
      rintro v M1 ⟨rfl, rfl⟩
      repeat (refine wf rfl ?_; first | refine wq_iadd ?_ | refine wq_isub ?_ | refine wq_imul ?_ | refine wq_iinc rfl ?_ | refine wq_goto ?_ | refine wq_k rfl ?_ | refine wq_b rfl rfl ?_ | refine wq_getf (by assumption) rfl ?_ | refine wq_alen (by assumption) rfl ?_)
      refine wf rfl (wq_cv rfl rfl rfl i4 (hat.mono ?_))
      rintro v M1 ⟨rfl, rfl⟩
      refine wf rfl (wq_cs rfl rfl (c_Md_ruleOf.mono ?_))
      rintro v M1 ⟨rfl, rfl⟩
      repeat (refine wf rfl ?_; first | refine wq_iadd ?_ | refine wq_isub ?_ | refine wq_imul ?_ | refine wq_iinc rfl ?_ | refine wq_goto ?_ | refine wq_k rfl ?_ | refine wq_b rfl rfl ?_ | refine wq_getf (by assumption) rfl ?_ | refine wq_alen (by assumption) rfl ?_)
      refine wf rfl (wq_cv rfl rfl rfl i4 (hrr.mono ?_))
      rintro v M1 ⟨rfl, rfl⟩
      repeat (refine wf rfl ?_; first | refine wq_iadd ?_ | refine wq_isub ?_ | refine wq_imul ?_ | refine wq_iinc rfl ?_ | refine wq_goto ?_ | refine wq_k rfl ?_ | refine wq_b rfl rfl ?_ | refine wq_getf (by assumption) rfl ?_ | refine wq_alen (by assumption) rfl ?_)
      refine wf rfl (wq_le ⟨by omega, by omega⟩ ⟨by omega, by omega⟩ (fun c2 => ?_) (fun c2 => ?_))
      · rw [if_pos (by omega)]
        have hop := c_Md_opensAt (z := si) i3 i5 hpb.1 hpl.1 (by dsimp only; omega) (by dsimp only; omega)
        repeat (refine wf rfl ?_; first | refine wq_iadd ?_ | refine wq_isub ?_ | refine wq_imul ?_ | refine wq_iinc rfl ?_ | refine wq_goto ?_ | refine wq_k rfl ?_ | refine wq_b rfl rfl ?_ | refine wq_getf (by assumption) rfl ?_ | refine wq_alen (by assumption) rfl ?_)
        refine wf rfl (wq_cv rfl rfl rfl i4 (hop.mono ?_))
        rintro v M2 ⟨rfl, f2, h2⟩
        have hO2 : MO M2 m hl si re pl sp := f2.at (by omega) i4
        have hW2 := opn_wfm i5 (z := si) hpb.1 hpl.1 (by dsimp only; omega)
        dsimp only at h2 hW2
        obtain ⟨t, t1, t2⟩ := id i6
        have hT2 : Tr M2 m (G.1, opM (G.1, mn1) si) := ⟨t, f2.at (by omega) t1, t2⟩
        have hpo := posL_open (f := lyG G) (fun s => by rw [← ely]; exact (lyG_bd i5 s).1) (xs := mn1) (row := xof G.1 (rat mn1 si - 8).toNat) (q := q) hq.1 i8 (by
          rw [← i9]
          have e1 := ltG_fix i5 (j := (rat mn1 si - 8).toNat) (by dsimp only; omega)
          have e2 := lyG_rule (G := (G.1, mn1)) (s := rat mn1 si) (by omega) hx.2
          rw [ely] at e1 e2
          dsimp only at e1
          omega)
        rw [← i9] at hpo
        obtain ⟨p1, k, p2, p3, p4⟩ := hpo
        have hxk := i5.1 (rat mn1 si - 8).toNat (by dsimp only; omega) _ (rat_mem p2 p3)
        dsimp only at hxk
        have hsk := c_Md_seeks (q := q) h2 hO2 hW2 hT2 hq.1 p1 ⟨by omega, by omega⟩
        repeat (refine wf rfl ?_; first | refine wq_iadd ?_ | refine wq_isub ?_ | refine wq_imul ?_ | refine wq_iinc rfl ?_ | refine wq_goto ?_ | refine wq_k rfl ?_ | refine wq_b rfl rfl ?_ | refine wq_getf (by assumption) rfl ?_ | refine wq_alen (by assumption) rfl ?_)
        refine wf rfl (wq_cv rfl rfl rfl hO2 (hsk.mono ?_))
        rintro v M3 ⟨rfl, f3, hO3⟩
        have h3 := h2.2
        obtain ⟨f', g1, g2⟩ := h3
        have hst := fun (_ : True) => ih (opM (G.1, mn1) si) _ _ M3 ⟨by omega, by omega, ⟨⟨_, _, _, _, _, hO3⟩, f', f3.at (by omega) g1, g2⟩, hO3, hW2, ⟨t, f3.at (by omega) (f2.at (by omega) t1), t2⟩, p1, rfl, by
          have e : rat (opM (G.1, mn1) si) (posL (lyG G) (opM (G.1, mn1) si) q) = rat (xof G.1 (rat mn1 si - 8).toNat) k := p4
          show rat (opM (G.1, mn1) si) (posL (lyG G) (opM (G.1, mn1) si) q) < _
          rw [e]
          omega, (i11.tr (f2.mono (fun z hz => Or.inr (Or.inl hz)))).tr (f3.mono (fun z hz => Or.inl hz))⟩
        repeat' (first | (refine Wp.sub (hst  ?_) ⟨rfl, rfl, trivial⟩ rfl) | (refine wf rfl ?_; first | refine wq_iadd ?_ | refine wq_isub ?_ | refine wq_imul ?_ | refine wq_iinc rfl ?_ | refine wq_goto ?_ | refine wq_k rfl ?_ | refine wq_b rfl rfl ?_ | refine wq_getf (by assumption) rfl ?_ | refine wq_alen (by assumption) rfl ?_ | fail | (refine wq_eq ⟨by omega, by omega⟩ ⟨by omega, by omega⟩ (fun _ => ?_) (fun _ => ?_) <;> try (exfalso; omega)) | (refine wq_ne ⟨by omega, by omega⟩ ⟨by omega, by omega⟩ (fun _ => ?_) (fun _ => ?_) <;> try (exfalso; omega)) | (refine wq_lt ⟨by omega, by omega⟩ ⟨by omega, by omega⟩ (fun _ => ?_) (fun _ => ?_) <;> try (exfalso; omega)) | (refine wq_ge ⟨by omega, by omega⟩ ⟨by omega, by omega⟩ (fun _ => ?_) (fun _ => ?_) <;> try (exfalso; omega)) | (refine wq_gt ⟨by omega, by omega⟩ ⟨by omega, by omega⟩ (fun _ => ?_) (fun _ => ?_) <;> try (exfalso; omega)) | (refine wq_le ⟨by omega, by omega⟩ ⟨by omega, by omega⟩ (fun _ => ?_) (fun _ => ?_) <;> try (exfalso; omega)) | (refine wq_ifeq ⟨by omega, by omega⟩ (fun _ => ?_) (fun _ => ?_) <;> try (exfalso; omega)) | (refine wq_ifne ⟨by omega, by omega⟩ (fun _ => ?_) (fun _ => ?_) <;> try (exfalso; omega)) | (refine wq_iflt ⟨by omega, by omega⟩ (fun _ => ?_) (fun _ => ?_) <;> try (exfalso; omega)) | (refine wq_ifge ⟨by omega, by omega⟩ (fun _ => ?_) (fun _ => ?_) <;> try (exfalso; omega)) | (refine wq_ifgt ⟨by omega, by omega⟩ (fun _ => ?_) (fun _ => ?_) <;> try (exfalso; omega)) | (refine wq_ifle ⟨by omega, by omega⟩ (fun _ => ?_) (fun _ => ?_) <;> try (exfalso; omega)) | refine wq_r rfl rfl rfl rfl rfl rfl ?_))
        trivial
      · rw [if_neg (by omega)]
        repeat' (refine wf rfl ?_; first | refine wq_iadd ?_ | refine wq_isub ?_ | refine wq_imul ?_ | refine wq_iinc rfl ?_ | refine wq_goto ?_ | refine wq_k rfl ?_ | refine wq_b rfl rfl ?_ | refine wq_getf (by assumption) rfl ?_ | refine wq_alen (by assumption) rfl ?_ | (refine wq_eq ⟨by omega, by omega⟩ ⟨by omega, by omega⟩ (fun _ => ?_) (fun _ => ?_) <;> try (exfalso; omega)) | (refine wq_ne ⟨by omega, by omega⟩ ⟨by omega, by omega⟩ (fun _ => ?_) (fun _ => ?_) <;> try (exfalso; omega)) | (refine wq_lt ⟨by omega, by omega⟩ ⟨by omega, by omega⟩ (fun _ => ?_) (fun _ => ?_) <;> try (exfalso; omega)) | (refine wq_ge ⟨by omega, by omega⟩ ⟨by omega, by omega⟩ (fun _ => ?_) (fun _ => ?_) <;> try (exfalso; omega)) | (refine wq_gt ⟨by omega, by omega⟩ ⟨by omega, by omega⟩ (fun _ => ?_) (fun _ => ?_) <;> try (exfalso; omega)) | (refine wq_le ⟨by omega, by omega⟩ ⟨by omega, by omega⟩ (fun _ => ?_) (fun _ => ?_) <;> try (exfalso; omega)) | (refine wq_ifeq ⟨by omega, by omega⟩ (fun _ => ?_) (fun _ => ?_) <;> try (exfalso; omega)) | (refine wq_ifne ⟨by omega, by omega⟩ (fun _ => ?_) (fun _ => ?_) <;> try (exfalso; omega)) | (refine wq_iflt ⟨by omega, by omega⟩ (fun _ => ?_) (fun _ => ?_) <;> try (exfalso; omega)) | (refine wq_ifge ⟨by omega, by omega⟩ (fun _ => ?_) (fun _ => ?_) <;> try (exfalso; omega)) | (refine wq_ifgt ⟨by omega, by omega⟩ (fun _ => ?_) (fun _ => ?_) <;> try (exfalso; omega)) | (refine wq_ifle ⟨by omega, by omega⟩ (fun _ => ?_) (fun _ => ?_) <;> try (exfalso; omega)) | refine wq_r rfl rfl rfl rfl rfl rfl ?_)
        exact ⟨i11, Or.inr ⟨rfl, rfl, si, re, mn1, i4, i3⟩⟩
theorem c_Md_opensTo {hl si re pl sp q : Int} (hq : 0 ≤ q ∧ q < wlG G) (h : Mr M m G) (hO : MO M m hl si re pl sp) (hW : WFG G) (hT : ∃ t, M[m + 7]? = some (aJ 27 t)) : Wm 151 [.ref m, .int (I q)] M (fun v M' => Fr (fun z => z = m ∨ z = m + 1 ∨ z = m + 7) M M' ∧ ((∃ mn2 z re', opnF G.1.length (xof G.1) (lyG G) q 27 G.2 = some (mn2, z) ∧ v = some (.int (I 1)) ∧ 0 ≤ z ∧ z < mn2.length ∧ rat mn2 z < 8 ∧ Mr M' m (G.1, mn2) ∧ MO M' m hl z re' pl sp ∧ WFG (G.1, mn2)) ∨ (opnF G.1.length (xof G.1) (lyG G) q 27 G.2 = none ∧ v = some (.int (I 0)) ∧ ∃ si' re' mn2, MO M' m hl si' re' pl sp ∧ Mr M' m (G.1, mn2)))) := by
  have hwb := wlG_bd hW
  have hN := h.le
  have hw : wlG G = min (sumL (lyG G) G.2) 10000 := rfl
  have hpl := posL_lt (fun s => (lyG_bd hW s).1) G.2 q hq.1 (by omega)
  have hpb := posL_bd (lyG G) G.2 q
  have hx := hW.2.1 _ (rat_mem hpb.1 hpl.1)
  refine wm_in (lv := _) rfl rfl rfl ?_
  repeat (refine wf rfl ?_; first | refine wq_iadd ?_ | refine wq_isub ?_ | refine wq_imul ?_ | refine wq_iinc rfl ?_ | refine wq_goto ?_ | refine wq_k rfl ?_ | refine wq_b rfl rfl ?_ | refine wq_getf (by assumption) rfl ?_ | refine wq_alen (by assumption) rfl ?_)
  refine wf rfl (wq_cv rfl rfl rfl hO ((c_Md_measures h hW hT).mono ?_))
  rintro v M1 ⟨rfl, f1, hT1⟩
  have h1 := h.fr f1 (by omega) (by omega)
  have hO1 : MO M1 m hl si re pl sp := f1.at (by omega) hO
  have hsk := c_Md_seeks (q := q) h1 hO1 hW hT1.tr hq.1 (by omega) ⟨by omega, by omega⟩
  repeat (refine wf rfl ?_; first | refine wq_iadd ?_ | refine wq_isub ?_ | refine wq_imul ?_ | refine wq_iinc rfl ?_ | refine wq_goto ?_ | refine wq_k rfl ?_ | refine wq_b rfl rfl ?_ | refine wq_getf (by assumption) rfl ?_ | refine wq_alen (by assumption) rfl ?_)
  refine wf rfl (wq_cv rfl rfl rfl hO1 (hsk.mono ?_))
  rintro v M2 ⟨rfl, f2, hO2⟩
  obtain ⟨f', g1, g2⟩ := h1.2
  obtain ⟨t, t1, t2⟩ := hT1.tr
  have hst := fun (_ : True) => lp_opensTo (M := M) (G := G) (hl := hl) (pl := pl) (sp := sp) (q := q) (by omega) 27 G.2 _ _ M2 ⟨by omega, by omega, ⟨⟨_, _, _, _, _, hO2⟩, f', f2.at (by omega) g1, g2⟩, hO2, hW, ⟨t, f2.at (by omega) t1, t2⟩, by omega, rfl, by omega, (f1.mono (fun z hz => Or.inr (Or.inr hz))).tr (f2.mono (fun z hz => Or.inl hz))⟩
  repeat' (first | (refine Wp.sub (hst  ?_) ⟨rfl, rfl, trivial⟩ rfl) | (refine wf rfl ?_; first | refine wq_iadd ?_ | refine wq_isub ?_ | refine wq_imul ?_ | refine wq_iinc rfl ?_ | refine wq_goto ?_ | refine wq_k rfl ?_ | refine wq_b rfl rfl ?_ | refine wq_getf (by assumption) rfl ?_ | refine wq_alen (by assumption) rfl ?_ | fail | (refine wq_eq ⟨by omega, by omega⟩ ⟨by omega, by omega⟩ (fun _ => ?_) (fun _ => ?_) <;> try (exfalso; omega)) | (refine wq_ne ⟨by omega, by omega⟩ ⟨by omega, by omega⟩ (fun _ => ?_) (fun _ => ?_) <;> try (exfalso; omega)) | (refine wq_lt ⟨by omega, by omega⟩ ⟨by omega, by omega⟩ (fun _ => ?_) (fun _ => ?_) <;> try (exfalso; omega)) | (refine wq_ge ⟨by omega, by omega⟩ ⟨by omega, by omega⟩ (fun _ => ?_) (fun _ => ?_) <;> try (exfalso; omega)) | (refine wq_gt ⟨by omega, by omega⟩ ⟨by omega, by omega⟩ (fun _ => ?_) (fun _ => ?_) <;> try (exfalso; omega)) | (refine wq_le ⟨by omega, by omega⟩ ⟨by omega, by omega⟩ (fun _ => ?_) (fun _ => ?_) <;> try (exfalso; omega)) | (refine wq_ifeq ⟨by omega, by omega⟩ (fun _ => ?_) (fun _ => ?_) <;> try (exfalso; omega)) | (refine wq_ifne ⟨by omega, by omega⟩ (fun _ => ?_) (fun _ => ?_) <;> try (exfalso; omega)) | (refine wq_iflt ⟨by omega, by omega⟩ (fun _ => ?_) (fun _ => ?_) <;> try (exfalso; omega)) | (refine wq_ifge ⟨by omega, by omega⟩ (fun _ => ?_) (fun _ => ?_) <;> try (exfalso; omega)) | (refine wq_ifgt ⟨by omega, by omega⟩ (fun _ => ?_) (fun _ => ?_) <;> try (exfalso; omega)) | (refine wq_ifle ⟨by omega, by omega⟩ (fun _ => ?_) (fun _ => ?_) <;> try (exfalso; omega)) | refine wq_r rfl rfl rfl rfl rfl rfl ?_))
  trivial
theorem lp_mcopy {a b : Nat} {f : Nat → Int} (hb : Nat.blt 0 b = true) (ha : M[a]? = some (aJ 2188 f)) (hab : a ≠ b) (n : Nat) : ∀ (k : Int) (M1 : PM), (0 ≤ k ∧ k ≤ 2188 ∧ 2188 - k < n ∧ Fr (fun q => q = b) M M1 ∧ ∃ g, M1[b]? = some (aJ 2188 g) ∧ ∀ j : Nat, (j : Int) < k → g j = f j) →
    Wp k_X10_copy (2, [(0, .ref a), (1, .ref b), (2, .int (I k))], [], M1) (fun v M' => v = none ∧ Fr (fun q => q = b) M M' ∧ ∃ g, M'[b]? = some (aJ 2188 g) ∧ ∀ j : Nat, j < 2188 → g j = f j) := by
  induction n with
  | zero => intro k M1 hi; exfalso; omega
  | succ n ih =>
    rintro k M1 ⟨i1, i2, i3, i4, g, j1, j2⟩
    have ha1 := i4.at hab ha
    by_cases hk : k < 2188
    · repeat (refine wf rfl ?_; first | refine wq_iadd ?_ | refine wq_isub ?_ | refine wq_imul ?_ | refine wq_iinc rfl ?_ | refine wq_goto ?_ | refine wq_k rfl ?_ | refine wq_b rfl rfl ?_ | refine wq_getf (by assumption) rfl ?_ | refine wq_alen (by assumption) rfl ?_)
      refine wf rfl (wq_ge ⟨by omega, by omega⟩ ⟨by omega, by omega⟩ (fun c1 => by exfalso; omega) (fun c1 => ?_))
      repeat (refine wf rfl ?_; first | refine wq_iadd ?_ | refine wq_isub ?_ | refine wq_imul ?_ | refine wq_iinc rfl ?_ | refine wq_goto ?_ | refine wq_k rfl ?_ | refine wq_b rfl rfl ?_ | refine wq_getf (by assumption) rfl ?_ | refine wq_alen (by assumption) rfl ?_)
      refine wf rfl (wq_iald ha1 ⟨by omega, by omega⟩ (by omega) (by omega) ?_)
      refine wf rfl (wq_iast j1 hb ⟨by omega, by omega⟩ (by omega) (by omega) (fun M2 e2 f2 => ?_))
      repeat' (first | (refine Wp.sub (ih _ _ ?_) ⟨rfl, rfl, rfl, trivial⟩ rfl) | (refine wf rfl ?_; first | refine wq_iadd ?_ | refine wq_isub ?_ | refine wq_imul ?_ | refine wq_iinc rfl ?_ | refine wq_goto ?_ | refine wq_k rfl ?_ | refine wq_b rfl rfl ?_ | refine wq_getf (by assumption) rfl ?_ | refine wq_alen (by assumption) rfl ?_ | fail | (refine wq_eq ⟨by omega, by omega⟩ ⟨by omega, by omega⟩ (fun _ => ?_) (fun _ => ?_) <;> try (exfalso; omega)) | (refine wq_ne ⟨by omega, by omega⟩ ⟨by omega, by omega⟩ (fun _ => ?_) (fun _ => ?_) <;> try (exfalso; omega)) | (refine wq_lt ⟨by omega, by omega⟩ ⟨by omega, by omega⟩ (fun _ => ?_) (fun _ => ?_) <;> try (exfalso; omega)) | (refine wq_ge ⟨by omega, by omega⟩ ⟨by omega, by omega⟩ (fun _ => ?_) (fun _ => ?_) <;> try (exfalso; omega)) | (refine wq_gt ⟨by omega, by omega⟩ ⟨by omega, by omega⟩ (fun _ => ?_) (fun _ => ?_) <;> try (exfalso; omega)) | (refine wq_le ⟨by omega, by omega⟩ ⟨by omega, by omega⟩ (fun _ => ?_) (fun _ => ?_) <;> try (exfalso; omega)) | (refine wq_ifeq ⟨by omega, by omega⟩ (fun _ => ?_) (fun _ => ?_) <;> try (exfalso; omega)) | (refine wq_ifne ⟨by omega, by omega⟩ (fun _ => ?_) (fun _ => ?_) <;> try (exfalso; omega)) | (refine wq_iflt ⟨by omega, by omega⟩ (fun _ => ?_) (fun _ => ?_) <;> try (exfalso; omega)) | (refine wq_ifge ⟨by omega, by omega⟩ (fun _ => ?_) (fun _ => ?_) <;> try (exfalso; omega)) | (refine wq_ifgt ⟨by omega, by omega⟩ (fun _ => ?_) (fun _ => ?_) <;> try (exfalso; omega)) | (refine wq_ifle ⟨by omega, by omega⟩ (fun _ => ?_) (fun _ => ?_) <;> try (exfalso; omega)) | refine wq_r rfl rfl rfl rfl rfl rfl ?_))
      refine ⟨by omega, by omega, by omega, i4.tr f2, _, e2, fun j hj => ?_⟩
      by_cases he : j = k.toNat
      · subst he; rw [upz_at]
      · rw [upz_ne _ _ he]; exact j2 j (by omega)
    · repeat' (refine wf rfl ?_; first | refine wq_iadd ?_ | refine wq_isub ?_ | refine wq_imul ?_ | refine wq_iinc rfl ?_ | refine wq_goto ?_ | refine wq_k rfl ?_ | refine wq_b rfl rfl ?_ | refine wq_getf (by assumption) rfl ?_ | refine wq_alen (by assumption) rfl ?_ | (refine wq_eq ⟨by omega, by omega⟩ ⟨by omega, by omega⟩ (fun _ => ?_) (fun _ => ?_) <;> try (exfalso; omega)) | (refine wq_ne ⟨by omega, by omega⟩ ⟨by omega, by omega⟩ (fun _ => ?_) (fun _ => ?_) <;> try (exfalso; omega)) | (refine wq_lt ⟨by omega, by omega⟩ ⟨by omega, by omega⟩ (fun _ => ?_) (fun _ => ?_) <;> try (exfalso; omega)) | (refine wq_ge ⟨by omega, by omega⟩ ⟨by omega, by omega⟩ (fun _ => ?_) (fun _ => ?_) <;> try (exfalso; omega)) | (refine wq_gt ⟨by omega, by omega⟩ ⟨by omega, by omega⟩ (fun _ => ?_) (fun _ => ?_) <;> try (exfalso; omega)) | (refine wq_le ⟨by omega, by omega⟩ ⟨by omega, by omega⟩ (fun _ => ?_) (fun _ => ?_) <;> try (exfalso; omega)) | (refine wq_ifeq ⟨by omega, by omega⟩ (fun _ => ?_) (fun _ => ?_) <;> try (exfalso; omega)) | (refine wq_ifne ⟨by omega, by omega⟩ (fun _ => ?_) (fun _ => ?_) <;> try (exfalso; omega)) | (refine wq_iflt ⟨by omega, by omega⟩ (fun _ => ?_) (fun _ => ?_) <;> try (exfalso; omega)) | (refine wq_ifge ⟨by omega, by omega⟩ (fun _ => ?_) (fun _ => ?_) <;> try (exfalso; omega)) | (refine wq_ifgt ⟨by omega, by omega⟩ (fun _ => ?_) (fun _ => ?_) <;> try (exfalso; omega)) | (refine wq_ifle ⟨by omega, by omega⟩ (fun _ => ?_) (fun _ => ?_) <;> try (exfalso; omega)) | refine wq_r rfl rfl rfl rfl rfl rfl ?_)
      exact ⟨rfl, i4, g, j1, fun j hj => j2 j (by omega)⟩
theorem c_Md_copy {a b : Nat} {f g : Nat → Int} (hb : Nat.blt 0 b = true) (ha : M[a]? = some (aJ 2188 f)) (hB : M[b]? = some (aJ 2188 g)) (hab : a ≠ b) : Wm 124 [.ref a, .ref b] M (fun v M' => v = none ∧ Fr (fun q => q = b) M M' ∧ ∃ g, M'[b]? = some (aJ 2188 g) ∧ ∀ j : Nat, j < 2188 → g j = f j) := by
  refine wm_in (lv := _) rfl rfl rfl ?_
  repeat' (first | (refine Wp.sub (lp_mcopy hb ha hab 3000 _ _ ?_) ⟨rfl, rfl, rfl, trivial⟩ rfl) | (refine wf rfl ?_; first | refine wq_iadd ?_ | refine wq_isub ?_ | refine wq_imul ?_ | refine wq_iinc rfl ?_ | refine wq_goto ?_ | refine wq_k rfl ?_ | refine wq_b rfl rfl ?_ | refine wq_getf (by assumption) rfl ?_ | refine wq_alen (by assumption) rfl ?_ | fail | (refine wq_eq ⟨by omega, by omega⟩ ⟨by omega, by omega⟩ (fun _ => ?_) (fun _ => ?_) <;> try (exfalso; omega)) | (refine wq_ne ⟨by omega, by omega⟩ ⟨by omega, by omega⟩ (fun _ => ?_) (fun _ => ?_) <;> try (exfalso; omega)) | (refine wq_lt ⟨by omega, by omega⟩ ⟨by omega, by omega⟩ (fun _ => ?_) (fun _ => ?_) <;> try (exfalso; omega)) | (refine wq_ge ⟨by omega, by omega⟩ ⟨by omega, by omega⟩ (fun _ => ?_) (fun _ => ?_) <;> try (exfalso; omega)) | (refine wq_gt ⟨by omega, by omega⟩ ⟨by omega, by omega⟩ (fun _ => ?_) (fun _ => ?_) <;> try (exfalso; omega)) | (refine wq_le ⟨by omega, by omega⟩ ⟨by omega, by omega⟩ (fun _ => ?_) (fun _ => ?_) <;> try (exfalso; omega)) | (refine wq_ifeq ⟨by omega, by omega⟩ (fun _ => ?_) (fun _ => ?_) <;> try (exfalso; omega)) | (refine wq_ifne ⟨by omega, by omega⟩ (fun _ => ?_) (fun _ => ?_) <;> try (exfalso; omega)) | (refine wq_iflt ⟨by omega, by omega⟩ (fun _ => ?_) (fun _ => ?_) <;> try (exfalso; omega)) | (refine wq_ifge ⟨by omega, by omega⟩ (fun _ => ?_) (fun _ => ?_) <;> try (exfalso; omega)) | (refine wq_ifgt ⟨by omega, by omega⟩ (fun _ => ?_) (fun _ => ?_) <;> try (exfalso; omega)) | (refine wq_ifle ⟨by omega, by omega⟩ (fun _ => ?_) (fun _ => ?_) <;> try (exfalso; omega)) | refine wq_r rfl rfl rfl rfl rfl rfl ?_))
  exact ⟨by omega, by omega, by omega, Fr.rf, g, hB, fun j w => by omega⟩
theorem lp_chgA {hl si re pl sp rs : Int} {f : Nat → Int} (hO : MO M m hl si re pl sp) {Q : Option Value → PM → Prop}
    (hk : ∀ (M1 : PM) (g : Nat → Int), M1[m + 4]? = some (aJ 13128 g) → Fr (fun q => q = m + 4) M M1 → (∀ q : Nat, q < 10940 → g q = f (q + 2188)) → Wp k_X10_changed (40, [(0, .ref m), (1, .int (I rs))], [], M1) Q) (n : Nat) : ∀ (k : Int) (M1 : PM), (0 ≤ k ∧ k ≤ 10940 ∧ 10940 - k < n ∧ Fr (fun q => q = m + 4) M M1 ∧ ∃ g, M1[m + 4]? = some (aJ 13128 g) ∧ (∀ q : Nat, (q : Int) < k → g q = f (q + 2188)) ∧ ∀ q : Nat, k ≤ q → g q = f q) →
    Wp k_X10_changed (11, [(0, .ref m), (1, .int (I rs)), (2, .int (I k))], [], M1) Q := by
  induction n with
  | zero => intro k M1 hi; exfalso; omega
  | succ n ih =>
    rintro k M1 ⟨i1, i2, i3, i4, g, j1, j2, j3⟩
    have hO1 : MO M1 m hl si re pl sp := i4.at (by omega) hO
    repeat (refine wf rfl ?_; first | refine wq_iadd ?_ | refine wq_isub ?_ | refine wq_imul ?_ | refine wq_iinc rfl ?_ | refine wq_goto ?_ | refine wq_k rfl ?_ | refine wq_b rfl rfl ?_ | refine wq_getf (by assumption) rfl ?_ | refine wq_alen (by assumption) rfl ?_)
    refine wf rfl (wq_ge ⟨by omega, by omega⟩ ⟨by omega, by omega⟩ (fun c1 => ?_) (fun c1 => ?_))
    · have hst := fun (_ : True) => hk M1 g j1 i4 (fun q hq => j2 q (by omega))
      repeat' (first | (refine Wp.sub (hst  ?_) ⟨rfl, rfl, trivial⟩ rfl) | (refine wf rfl ?_; first | refine wq_iadd ?_ | refine wq_isub ?_ | refine wq_imul ?_ | refine wq_iinc rfl ?_ | refine wq_goto ?_ | refine wq_k rfl ?_ | refine wq_b rfl rfl ?_ | refine wq_getf (by assumption) rfl ?_ | refine wq_alen (by assumption) rfl ?_ | fail | (refine wq_eq ⟨by omega, by omega⟩ ⟨by omega, by omega⟩ (fun _ => ?_) (fun _ => ?_) <;> try (exfalso; omega)) | (refine wq_ne ⟨by omega, by omega⟩ ⟨by omega, by omega⟩ (fun _ => ?_) (fun _ => ?_) <;> try (exfalso; omega)) | (refine wq_lt ⟨by omega, by omega⟩ ⟨by omega, by omega⟩ (fun _ => ?_) (fun _ => ?_) <;> try (exfalso; omega)) | (refine wq_ge ⟨by omega, by omega⟩ ⟨by omega, by omega⟩ (fun _ => ?_) (fun _ => ?_) <;> try (exfalso; omega)) | (refine wq_gt ⟨by omega, by omega⟩ ⟨by omega, by omega⟩ (fun _ => ?_) (fun _ => ?_) <;> try (exfalso; omega)) | (refine wq_le ⟨by omega, by omega⟩ ⟨by omega, by omega⟩ (fun _ => ?_) (fun _ => ?_) <;> try (exfalso; omega)) | (refine wq_ifeq ⟨by omega, by omega⟩ (fun _ => ?_) (fun _ => ?_) <;> try (exfalso; omega)) | (refine wq_ifne ⟨by omega, by omega⟩ (fun _ => ?_) (fun _ => ?_) <;> try (exfalso; omega)) | (refine wq_iflt ⟨by omega, by omega⟩ (fun _ => ?_) (fun _ => ?_) <;> try (exfalso; omega)) | (refine wq_ifge ⟨by omega, by omega⟩ (fun _ => ?_) (fun _ => ?_) <;> try (exfalso; omega)) | (refine wq_ifgt ⟨by omega, by omega⟩ (fun _ => ?_) (fun _ => ?_) <;> try (exfalso; omega)) | (refine wq_ifle ⟨by omega, by omega⟩ (fun _ => ?_) (fun _ => ?_) <;> try (exfalso; omega)) | refine wq_r rfl rfl rfl rfl rfl rfl ?_))
      trivial
    · repeat (refine wf rfl ?_; first | refine wq_iadd ?_ | refine wq_isub ?_ | refine wq_imul ?_ | refine wq_iinc rfl ?_ | refine wq_goto ?_ | refine wq_k rfl ?_ | refine wq_b rfl rfl ?_ | refine wq_getf (by assumption) rfl ?_ | refine wq_alen (by assumption) rfl ?_)
      refine wf rfl (wq_iald j1 ⟨by omega, by omega⟩ (by omega) (by omega) ?_)
      refine wf rfl (wq_iast j1 rfl ⟨by omega, by omega⟩ (by omega) (by omega) (fun M2 e2 f2 => ?_))
      repeat' (first | (refine Wp.sub (ih _ _ ?_) ⟨rfl, rfl, rfl, trivial⟩ rfl) | (refine wf rfl ?_; first | refine wq_iadd ?_ | refine wq_isub ?_ | refine wq_imul ?_ | refine wq_iinc rfl ?_ | refine wq_goto ?_ | refine wq_k rfl ?_ | refine wq_b rfl rfl ?_ | refine wq_getf (by assumption) rfl ?_ | refine wq_alen (by assumption) rfl ?_ | fail | (refine wq_eq ⟨by omega, by omega⟩ ⟨by omega, by omega⟩ (fun _ => ?_) (fun _ => ?_) <;> try (exfalso; omega)) | (refine wq_ne ⟨by omega, by omega⟩ ⟨by omega, by omega⟩ (fun _ => ?_) (fun _ => ?_) <;> try (exfalso; omega)) | (refine wq_lt ⟨by omega, by omega⟩ ⟨by omega, by omega⟩ (fun _ => ?_) (fun _ => ?_) <;> try (exfalso; omega)) | (refine wq_ge ⟨by omega, by omega⟩ ⟨by omega, by omega⟩ (fun _ => ?_) (fun _ => ?_) <;> try (exfalso; omega)) | (refine wq_gt ⟨by omega, by omega⟩ ⟨by omega, by omega⟩ (fun _ => ?_) (fun _ => ?_) <;> try (exfalso; omega)) | (refine wq_le ⟨by omega, by omega⟩ ⟨by omega, by omega⟩ (fun _ => ?_) (fun _ => ?_) <;> try (exfalso; omega)) | (refine wq_ifeq ⟨by omega, by omega⟩ (fun _ => ?_) (fun _ => ?_) <;> try (exfalso; omega)) | (refine wq_ifne ⟨by omega, by omega⟩ (fun _ => ?_) (fun _ => ?_) <;> try (exfalso; omega)) | (refine wq_iflt ⟨by omega, by omega⟩ (fun _ => ?_) (fun _ => ?_) <;> try (exfalso; omega)) | (refine wq_ifge ⟨by omega, by omega⟩ (fun _ => ?_) (fun _ => ?_) <;> try (exfalso; omega)) | (refine wq_ifgt ⟨by omega, by omega⟩ (fun _ => ?_) (fun _ => ?_) <;> try (exfalso; omega)) | (refine wq_ifle ⟨by omega, by omega⟩ (fun _ => ?_) (fun _ => ?_) <;> try (exfalso; omega)) | refine wq_r rfl rfl rfl rfl rfl rfl ?_))
      refine ⟨by omega, by omega, by omega, i4.tr f2, _, e2, fun q hq => ?_, fun q hq => ?_⟩
      · by_cases he : q = k.toNat
        · subst he
          rw [upz_at, j3 _ (by omega)]
          congr 1
          omega
        · rw [upz_ne _ _ he]; exact j2 q (by omega)
      · rw [upz_ne _ _ (by omega)]; exact j3 q (by omega)
theorem lp_chgB {h si re pl sp rs : Int} {f fk : Nat → Int} (hh : 0 ≤ h ∧ h ≤ 5) (hO : MO M m h si re pl sp) (hK : M[m + 2]? = some (aJ 2188 fk)) (n : Nat) : ∀ (k : Int) (M1 : PM), (0 ≤ k ∧ k ≤ 2188 ∧ 2188 - k < n ∧ Fr (fun q => q = m + 4) M M1 ∧ ∃ g, M1[m + 4]? = some (aJ 13128 g) ∧ (∀ j : Nat, (j : Int) < k → g ((2188 * h).toNat + j) = fk j) ∧ ∀ q : Nat, ((q : Int) < 2188 * h) → g q = f q) →
    Wp k_X10_changed (52, [(0, .ref m), (1, .int (I rs)), (2, .int (I k))], [], M1) (fun v M' => v = some (.int (I rs)) ∧ Fr (fun q => q = m ∨ q = m + 4) M M' ∧ MO M' m (h + 1) si re pl sp ∧ ∃ g, M'[m + 4]? = some (aJ 13128 g) ∧ (∀ j : Nat, j < 2188 → g ((2188 * h).toNat + j) = fk j) ∧ ∀ q : Nat, ((q : Int) < 2188 * h) → g q = f q) := by
  induction n with
  | zero => intro k M1 hi; exfalso; omega
  | succ n ih =>
    rintro k M1 ⟨i1, i2, i3, i4, g, j1, j2, j3⟩
    have hO1 : MO M1 m h si re pl sp := i4.at (by omega) hO
    have hK1 := i4.at (by omega) hK
    repeat (refine wf rfl ?_; first | refine wq_iadd ?_ | refine wq_isub ?_ | refine wq_imul ?_ | refine wq_iinc rfl ?_ | refine wq_goto ?_ | refine wq_k rfl ?_ | refine wq_b rfl rfl ?_ | refine wq_getf (by assumption) rfl ?_ | refine wq_alen (by assumption) rfl ?_)
    refine wf rfl (wq_ge ⟨by omega, by omega⟩ ⟨by omega, by omega⟩ (fun c1 => ?_) (fun c1 => ?_))
    · repeat (refine wf rfl ?_; first | refine wq_iadd ?_ | refine wq_isub ?_ | refine wq_imul ?_ | refine wq_iinc rfl ?_ | refine wq_goto ?_ | refine wq_k rfl ?_ | refine wq_b rfl rfl ?_ | refine wq_getf (by assumption) rfl ?_ | refine wq_alen (by assumption) rfl ?_)
      refine wf rfl (wq_putf hO1 rfl (fun M2 e2 f2 => ?_))
      repeat' (refine wf rfl ?_; first | refine wq_iadd ?_ | refine wq_isub ?_ | refine wq_imul ?_ | refine wq_iinc rfl ?_ | refine wq_goto ?_ | refine wq_k rfl ?_ | refine wq_b rfl rfl ?_ | refine wq_getf (by assumption) rfl ?_ | refine wq_alen (by assumption) rfl ?_ | (refine wq_eq ⟨by omega, by omega⟩ ⟨by omega, by omega⟩ (fun _ => ?_) (fun _ => ?_) <;> try (exfalso; omega)) | (refine wq_ne ⟨by omega, by omega⟩ ⟨by omega, by omega⟩ (fun _ => ?_) (fun _ => ?_) <;> try (exfalso; omega)) | (refine wq_lt ⟨by omega, by omega⟩ ⟨by omega, by omega⟩ (fun _ => ?_) (fun _ => ?_) <;> try (exfalso; omega)) | (refine wq_ge ⟨by omega, by omega⟩ ⟨by omega, by omega⟩ (fun _ => ?_) (fun _ => ?_) <;> try (exfalso; omega)) | (refine wq_gt ⟨by omega, by omega⟩ ⟨by omega, by omega⟩ (fun _ => ?_) (fun _ => ?_) <;> try (exfalso; omega)) | (refine wq_le ⟨by omega, by omega⟩ ⟨by omega, by omega⟩ (fun _ => ?_) (fun _ => ?_) <;> try (exfalso; omega)) | (refine wq_ifeq ⟨by omega, by omega⟩ (fun _ => ?_) (fun _ => ?_) <;> try (exfalso; omega)) | (refine wq_ifne ⟨by omega, by omega⟩ (fun _ => ?_) (fun _ => ?_) <;> try (exfalso; omega)) | (refine wq_iflt ⟨by omega, by omega⟩ (fun _ => ?_) (fun _ => ?_) <;> try (exfalso; omega)) | (refine wq_ifge ⟨by omega, by omega⟩ (fun _ => ?_) (fun _ => ?_) <;> try (exfalso; omega)) | (refine wq_ifgt ⟨by omega, by omega⟩ (fun _ => ?_) (fun _ => ?_) <;> try (exfalso; omega)) | (refine wq_ifle ⟨by omega, by omega⟩ (fun _ => ?_) (fun _ => ?_) <;> try (exfalso; omega)) | refine wq_r rfl rfl rfl rfl rfl rfl ?_)
      exact ⟨rfl, (i4.mono (fun q hq => Or.inr hq)).tr (f2.mono (fun q hq => Or.inl hq)), e2, g, f2.at (by omega) j1, fun j hj => j2 j (by omega), j3⟩
    · repeat (refine wf rfl ?_; first | refine wq_iadd ?_ | refine wq_isub ?_ | refine wq_imul ?_ | refine wq_iinc rfl ?_ | refine wq_goto ?_ | refine wq_k rfl ?_ | refine wq_b rfl rfl ?_ | refine wq_getf (by assumption) rfl ?_ | refine wq_alen (by assumption) rfl ?_)
      refine wf rfl (wq_iald hK1 ⟨by omega, by omega⟩ (by omega) (by omega) ?_)
      refine wf rfl (wq_iast j1 rfl ⟨by omega, by omega⟩ (by omega) (by omega) (fun M2 e2 f2 => ?_))
      repeat' (first | (refine Wp.sub (ih _ _ ?_) ⟨rfl, rfl, rfl, trivial⟩ rfl) | (refine wf rfl ?_; first | refine wq_iadd ?_ | refine wq_isub ?_ | refine wq_imul ?_ | refine wq_iinc rfl ?_ | refine wq_goto ?_ | refine wq_k rfl ?_ | refine wq_b rfl rfl ?_ | refine wq_getf (by assumption) rfl ?_ | refine wq_alen (by assumption) rfl ?_ | fail | (refine wq_eq ⟨by omega, by omega⟩ ⟨by omega, by omega⟩ (fun _ => ?_) (fun _ => ?_) <;> try (exfalso; omega)) | (refine wq_ne ⟨by omega, by omega⟩ ⟨by omega, by omega⟩ (fun _ => ?_) (fun _ => ?_) <;> try (exfalso; omega)) | (refine wq_lt ⟨by omega, by omega⟩ ⟨by omega, by omega⟩ (fun _ => ?_) (fun _ => ?_) <;> try (exfalso; omega)) | (refine wq_ge ⟨by omega, by omega⟩ ⟨by omega, by omega⟩ (fun _ => ?_) (fun _ => ?_) <;> try (exfalso; omega)) | (refine wq_gt ⟨by omega, by omega⟩ ⟨by omega, by omega⟩ (fun _ => ?_) (fun _ => ?_) <;> try (exfalso; omega)) | (refine wq_le ⟨by omega, by omega⟩ ⟨by omega, by omega⟩ (fun _ => ?_) (fun _ => ?_) <;> try (exfalso; omega)) | (refine wq_ifeq ⟨by omega, by omega⟩ (fun _ => ?_) (fun _ => ?_) <;> try (exfalso; omega)) | (refine wq_ifne ⟨by omega, by omega⟩ (fun _ => ?_) (fun _ => ?_) <;> try (exfalso; omega)) | (refine wq_iflt ⟨by omega, by omega⟩ (fun _ => ?_) (fun _ => ?_) <;> try (exfalso; omega)) | (refine wq_ifge ⟨by omega, by omega⟩ (fun _ => ?_) (fun _ => ?_) <;> try (exfalso; omega)) | (refine wq_ifgt ⟨by omega, by omega⟩ (fun _ => ?_) (fun _ => ?_) <;> try (exfalso; omega)) | (refine wq_ifle ⟨by omega, by omega⟩ (fun _ => ?_) (fun _ => ?_) <;> try (exfalso; omega)) | refine wq_r rfl rfl rfl rfl rfl rfl ?_))
      refine ⟨by omega, by omega, by omega, i4.tr f2, _, e2, fun j hj => ?_, fun q hq => ?_⟩
      · by_cases he : j = k.toNat
        · subst he
          rw [show (2188 * h + k).toNat = (2188 * h).toNat + k.toNat by omega, upz_at]
        · rw [upz_ne _ _ (by omega)]; exact j2 j (by omega)
      · rw [upz_ne _ _ (by omega)]; exact j3 q hq
theorem c_Md_changed {si re pl sp rs : Int} {hist : List GS} {f fk : Nat → Int} (hO : MO M m (hist.length : Nat) si re pl sp) (hh : hist.length ≤ 6) (hH : M[m + 4]? = some (aJ 13128 f)) (hg : HG f hist) (hK : M[m + 2]? = some (aJ 2188 fk)) (hGa : Ga fk 0 G) : Wm 125 [.ref m, .int (I rs)] M (fun v M' => v = some (.int (I rs)) ∧ Fr (fun q => q = m ∨ q = m + 4) M M' ∧ MO M' m ((push hist G).length : Nat) si re pl sp ∧ ∃ g, M'[m + 4]? = some (aJ 13128 g) ∧ HG g (push hist G)) := by
  have fin : ∀ (hs : List GS) (g g1 : Nat → Int), hs.length ≤ 5 → HG g1 hs → (∀ j : Nat, j < 2188 → g ((2188 * (hs.length : Int)).toNat + j) = fk j) → (∀ q : Nat, ((q : Int) < 2188 * (hs.length : Int)) → g q = g1 q) → HG g (hs ++ [G]) := by
    intro hs g g1 hl h1 h2 h3 i G' hi
    by_cases he : i < hs.length
    · rw [List.getElem?_append_left he] at hi
      exact (h1 i G' hi).move (fun k hk => h3 _ (by omega))
    · rw [List.getElem?_append_right (by omega)] at hi
      have e0 : i - hs.length = 0 := by
        rcases Nat.eq_zero_or_pos (i - hs.length) with w | w
        · exact w
        · rw [List.getElem?_eq_none (by simp; omega)] at hi; cases hi
      rw [e0] at hi
      cases hi
      exact hGa.move (fun k hk => by rw [Nat.zero_add, ← h2 k hk]; congr 1; omega)
  by_cases h6 : hist.length = 6
  · have hp : push hist G = hist.tail ++ [G] := by unfold push; rw [if_pos h6]
    have ht : hist.tail.length = 5 := by rw [List.length_tail]; omega
    rw [hp, List.length_append, ht]
    rw [h6] at hO
    have hst := fun (_ : True) => lp_chgA (rs := rs) (f := f) (Q := fun v M' => v = some (.int (I rs)) ∧ Fr (fun q => q = m ∨ q = m + 4) M M' ∧ MO M' m ((5 + 1 : Nat) : Int) si re pl sp ∧ ∃ g, M'[m + 4]? = some (aJ 13128 g) ∧ HG g (hist.tail ++ [G])) hO (fun M1 g e1 f1 k1 => by
      have hO1 : MO M1 m _ si re pl sp := f1.at (by omega) hO
      repeat (refine wf rfl ?_; first | refine wq_iadd ?_ | refine wq_isub ?_ | refine wq_imul ?_ | refine wq_iinc rfl ?_ | refine wq_goto ?_ | refine wq_k rfl ?_ | refine wq_b rfl rfl ?_ | refine wq_getf (by assumption) rfl ?_ | refine wq_alen (by assumption) rfl ?_)
      refine wf rfl (wq_putf hO1 rfl (fun M2 e2 f2 => ?_))
      have hO2 : MO M2 m 5 si re pl sp := e2
      have hst2 := fun (_ : True) => lp_chgB (rs := rs) (f := g) (h := 5) (by omega) hO2 (f2.at (by omega) (f1.at (by omega) hK)) 3000 0 M2 ⟨by omega, by omega, by omega, Fr.rf, g, f2.at (by omega) e1, fun j w => by omega, fun q _ => rfl⟩
      refine Wp.mono (Q := fun v M' => v = some (.int (I rs)) ∧ Fr (fun q => q = m ∨ q = m + 4) M2 M' ∧ MO M' m (5 + 1) si re pl sp ∧ ∃ g', M'[m + 4]? = some (aJ 13128 g') ∧ (∀ j : Nat, j < 2188 → g' ((2188 * (5 : Int)).toNat + j) = fk j) ∧ ∀ q : Nat, ((q : Int) < 2188 * 5) → g' q = g q) ?_ ?_
      · repeat' (first | (refine Wp.sub (hst2  ?_) ⟨rfl, rfl, rfl, trivial⟩ rfl) | (refine wf rfl ?_; first | refine wq_iadd ?_ | refine wq_isub ?_ | refine wq_imul ?_ | refine wq_iinc rfl ?_ | refine wq_goto ?_ | refine wq_k rfl ?_ | refine wq_b rfl rfl ?_ | refine wq_getf (by assumption) rfl ?_ | refine wq_alen (by assumption) rfl ?_ | fail | (refine wq_eq ⟨by omega, by omega⟩ ⟨by omega, by omega⟩ (fun _ => ?_) (fun _ => ?_) <;> try (exfalso; omega)) | (refine wq_ne ⟨by omega, by omega⟩ ⟨by omega, by omega⟩ (fun _ => ?_) (fun _ => ?_) <;> try (exfalso; omega)) | (refine wq_lt ⟨by omega, by omega⟩ ⟨by omega, by omega⟩ (fun _ => ?_) (fun _ => ?_) <;> try (exfalso; omega)) | (refine wq_ge ⟨by omega, by omega⟩ ⟨by omega, by omega⟩ (fun _ => ?_) (fun _ => ?_) <;> try (exfalso; omega)) | (refine wq_gt ⟨by omega, by omega⟩ ⟨by omega, by omega⟩ (fun _ => ?_) (fun _ => ?_) <;> try (exfalso; omega)) | (refine wq_le ⟨by omega, by omega⟩ ⟨by omega, by omega⟩ (fun _ => ?_) (fun _ => ?_) <;> try (exfalso; omega)) | (refine wq_ifeq ⟨by omega, by omega⟩ (fun _ => ?_) (fun _ => ?_) <;> try (exfalso; omega)) | (refine wq_ifne ⟨by omega, by omega⟩ (fun _ => ?_) (fun _ => ?_) <;> try (exfalso; omega)) | (refine wq_iflt ⟨by omega, by omega⟩ (fun _ => ?_) (fun _ => ?_) <;> try (exfalso; omega)) | (refine wq_ifge ⟨by omega, by omega⟩ (fun _ => ?_) (fun _ => ?_) <;> try (exfalso; omega)) | (refine wq_ifgt ⟨by omega, by omega⟩ (fun _ => ?_) (fun _ => ?_) <;> try (exfalso; omega)) | (refine wq_ifle ⟨by omega, by omega⟩ (fun _ => ?_) (fun _ => ?_) <;> try (exfalso; omega)) | refine wq_r rfl rfl rfl rfl rfl rfl ?_))
        trivial
      · rintro v M3 ⟨rfl, f3, hO3, g', e3, k2, k3⟩
        refine ⟨rfl, ((f1.mono (fun q hq => Or.inr hq)).tr (f2.mono (fun q hq => Or.inl hq))).tr f3, hO3, g', e3, fin hist.tail g' g (by omega) ?_ (by rw [ht]; exact k2) (by rw [ht]; exact k3)⟩
        intro i G' hi
        have hi5 : i < 5 := by
          rcases Nat.lt_or_ge i 5 with w | w
          · exact w
          · rw [List.getElem?_eq_none (by omega)] at hi; cases hi
        rw [List.getElem?_tail] at hi
        exact (hg _ _ hi).move (fun k hk => by rw [k1 _ (by omega)]; congr 1; omega)) 20000 0 M ⟨by omega, by omega, by omega, Fr.rf, f, hH, fun q w => by omega, fun q _ => rfl⟩
    refine wm_in (lv := _) rfl rfl rfl ?_
    repeat (refine wf rfl ?_; first | refine wq_iadd ?_ | refine wq_isub ?_ | refine wq_imul ?_ | refine wq_iinc rfl ?_ | refine wq_goto ?_ | refine wq_k rfl ?_ | refine wq_b rfl rfl ?_ | refine wq_getf (by assumption) rfl ?_ | refine wq_alen (by assumption) rfl ?_)
    refine wf rfl (wq_ne ⟨by omega, by omega⟩ ⟨by omega, by omega⟩ (fun c1 => by exfalso; omega) (fun c1 => ?_))
    repeat' (first | (refine Wp.sub (hst  ?_) ⟨rfl, rfl, rfl, trivial⟩ rfl) | (refine wf rfl ?_; first | refine wq_iadd ?_ | refine wq_isub ?_ | refine wq_imul ?_ | refine wq_iinc rfl ?_ | refine wq_goto ?_ | refine wq_k rfl ?_ | refine wq_b rfl rfl ?_ | refine wq_getf (by assumption) rfl ?_ | refine wq_alen (by assumption) rfl ?_ | fail | (refine wq_eq ⟨by omega, by omega⟩ ⟨by omega, by omega⟩ (fun _ => ?_) (fun _ => ?_) <;> try (exfalso; omega)) | (refine wq_ne ⟨by omega, by omega⟩ ⟨by omega, by omega⟩ (fun _ => ?_) (fun _ => ?_) <;> try (exfalso; omega)) | (refine wq_lt ⟨by omega, by omega⟩ ⟨by omega, by omega⟩ (fun _ => ?_) (fun _ => ?_) <;> try (exfalso; omega)) | (refine wq_ge ⟨by omega, by omega⟩ ⟨by omega, by omega⟩ (fun _ => ?_) (fun _ => ?_) <;> try (exfalso; omega)) | (refine wq_gt ⟨by omega, by omega⟩ ⟨by omega, by omega⟩ (fun _ => ?_) (fun _ => ?_) <;> try (exfalso; omega)) | (refine wq_le ⟨by omega, by omega⟩ ⟨by omega, by omega⟩ (fun _ => ?_) (fun _ => ?_) <;> try (exfalso; omega)) | (refine wq_ifeq ⟨by omega, by omega⟩ (fun _ => ?_) (fun _ => ?_) <;> try (exfalso; omega)) | (refine wq_ifne ⟨by omega, by omega⟩ (fun _ => ?_) (fun _ => ?_) <;> try (exfalso; omega)) | (refine wq_iflt ⟨by omega, by omega⟩ (fun _ => ?_) (fun _ => ?_) <;> try (exfalso; omega)) | (refine wq_ifge ⟨by omega, by omega⟩ (fun _ => ?_) (fun _ => ?_) <;> try (exfalso; omega)) | (refine wq_ifgt ⟨by omega, by omega⟩ (fun _ => ?_) (fun _ => ?_) <;> try (exfalso; omega)) | (refine wq_ifle ⟨by omega, by omega⟩ (fun _ => ?_) (fun _ => ?_) <;> try (exfalso; omega)) | refine wq_r rfl rfl rfl rfl rfl rfl ?_))
    trivial
  · have hp : push hist G = hist ++ [G] := by unfold push; rw [if_neg h6]
    rw [hp, List.length_append]
    have hst2 := fun (_ : True) => lp_chgB (rs := rs) (f := f) (h := (hist.length : Int)) (by omega) hO hK 3000 0 M ⟨by omega, by omega, by omega, Fr.rf, f, hH, fun j w => by omega, fun q _ => rfl⟩
    refine Wm.mono (Q := fun v M' => v = some (.int (I rs)) ∧ Fr (fun q => q = m ∨ q = m + 4) M M' ∧ MO M' m ((hist.length : Int) + 1) si re pl sp ∧ ∃ g', M'[m + 4]? = some (aJ 13128 g') ∧ (∀ j : Nat, j < 2188 → g' ((2188 * (hist.length : Int)).toNat + j) = fk j) ∧ ∀ q : Nat, ((q : Int) < 2188 * (hist.length : Int)) → g' q = f q) ?_ ?_
    · refine wm_in (lv := _) rfl rfl rfl ?_
      repeat (refine wf rfl ?_; first | refine wq_iadd ?_ | refine wq_isub ?_ | refine wq_imul ?_ | refine wq_iinc rfl ?_ | refine wq_goto ?_ | refine wq_k rfl ?_ | refine wq_b rfl rfl ?_ | refine wq_getf (by assumption) rfl ?_ | refine wq_alen (by assumption) rfl ?_)
      refine wf rfl (wq_ne ⟨by omega, by omega⟩ ⟨by omega, by omega⟩ (fun c1 => ?_) (fun c1 => by exfalso; omega))
      repeat' (first | (refine Wp.sub (hst2  ?_) ⟨rfl, rfl, rfl, trivial⟩ rfl) | (refine wf rfl ?_; first | refine wq_iadd ?_ | refine wq_isub ?_ | refine wq_imul ?_ | refine wq_iinc rfl ?_ | refine wq_goto ?_ | refine wq_k rfl ?_ | refine wq_b rfl rfl ?_ | refine wq_getf (by assumption) rfl ?_ | refine wq_alen (by assumption) rfl ?_ | fail | (refine wq_eq ⟨by omega, by omega⟩ ⟨by omega, by omega⟩ (fun _ => ?_) (fun _ => ?_) <;> try (exfalso; omega)) | (refine wq_ne ⟨by omega, by omega⟩ ⟨by omega, by omega⟩ (fun _ => ?_) (fun _ => ?_) <;> try (exfalso; omega)) | (refine wq_lt ⟨by omega, by omega⟩ ⟨by omega, by omega⟩ (fun _ => ?_) (fun _ => ?_) <;> try (exfalso; omega)) | (refine wq_ge ⟨by omega, by omega⟩ ⟨by omega, by omega⟩ (fun _ => ?_) (fun _ => ?_) <;> try (exfalso; omega)) | (refine wq_gt ⟨by omega, by omega⟩ ⟨by omega, by omega⟩ (fun _ => ?_) (fun _ => ?_) <;> try (exfalso; omega)) | (refine wq_le ⟨by omega, by omega⟩ ⟨by omega, by omega⟩ (fun _ => ?_) (fun _ => ?_) <;> try (exfalso; omega)) | (refine wq_ifeq ⟨by omega, by omega⟩ (fun _ => ?_) (fun _ => ?_) <;> try (exfalso; omega)) | (refine wq_ifne ⟨by omega, by omega⟩ (fun _ => ?_) (fun _ => ?_) <;> try (exfalso; omega)) | (refine wq_iflt ⟨by omega, by omega⟩ (fun _ => ?_) (fun _ => ?_) <;> try (exfalso; omega)) | (refine wq_ifge ⟨by omega, by omega⟩ (fun _ => ?_) (fun _ => ?_) <;> try (exfalso; omega)) | (refine wq_ifgt ⟨by omega, by omega⟩ (fun _ => ?_) (fun _ => ?_) <;> try (exfalso; omega)) | (refine wq_ifle ⟨by omega, by omega⟩ (fun _ => ?_) (fun _ => ?_) <;> try (exfalso; omega)) | refine wq_r rfl rfl rfl rfl rfl rfl ?_))
      trivial
    · rintro v M3 ⟨rfl, f3, hO3, g', e3, k2, k3⟩
      exact ⟨rfl, f3, hO3, g', e3, fin hist g' f (by omega) hg k2 k3⟩
end MD11
