section CLS2
variable {M : PM} {c : Nat} {S : ST}
theorem sumL_ins {f : Int → Int} (xs : List Int) (k : Nat) (l : Int) : sumL f (xs.take k ++ l :: xs.drop k) = sumL f xs + f l := by
  rw [sumL_app, sumL]
  have : sumL f xs = sumL f (xs.take k) + sumL f (xs.drop k) := by rw [← sumL_app, List.take_append_drop]
  omega
theorem wlG_mn {G : GS} {mn : List Int} : wlG (G.1, mn) = min (sumL (lyG G) mn) 10000 := rfl
theorem tooB_mn {G : GS} (hK : OKG G) {mn : List Int} : tooB (G.1, mn) = true ↔ 9999 < sumL (lyG G) mn := by
  rw [tooB_iff, wlG_mn]
  constructor
  · rintro (h | ⟨j, h1, h2⟩)
    · omega
    · have : ltG (G.1, mn) j = ltG G j := rfl
      have := hK.2.2 j h1
      omega
  · intro h
    exact Or.inl (by omega)
theorem c_PG_insert {p l : Int} (hp : inR p) (hl : inR l) (h : CS M c S) (hK : OKG S.1) : Wm 96 [.ref c, .int (I p), .int (I l)] M (fun v M' => v = some (.int (I (spInsert p l S).1)) ∧ Fr (inC c) M M' ∧ CS M' c (spInsert p l S).2) := by
  obtain ⟨hp1, hp2⟩ := id hp
  obtain ⟨hl1, hl2⟩ := id hl
  obtain ⟨a1, a2, a3, a4, a5, a6, a7, a8⟩ := id h
  obtain ⟨ft, ht0⟩ := a3.obj
  obtain ⟨fn, hn0⟩ := a2.obj
  have hW := a2.wf
  have hwb := wlG_bd hW
  have hwl := hK.2.1
  have hwk := hK.wl
  have hpb := posL_bd (lyG S.1) S.1.2 p
  unfold spInsert
  -- behind the checks of the place
  have main : 0 ≤ p → p ≤ wlG S.1 → Wp k_X9_insert (24, [(0, .ref c), (1, .int (I p)), (2, .int (I l))], [], M) (fun v M' => v = some (.int (I (if 0 ≤ l ∧ l < 8 then (match spotI S.1 p with
    | none => ((-4, S) : Int × ST)
    | some z => if wlG S.1 = 9999 ∨ z.1.length = 80 then (-4, S) else (wlG S.1 + 1, accS S (S.1.1, z.1.take z.2.toNat ++ l :: z.1.drop z.2.toNat))) else (-2, S)).1)) ∧ Fr (inC c) M M' ∧ CS M' c (if 0 ≤ l ∧ l < 8 then (match spotI S.1 p with
    | none => ((-4, S) : Int × ST)
    | some z => if wlG S.1 = 9999 ∨ z.1.length = 80 then (-4, S) else (wlG S.1 + 1, accS S (S.1.1, z.1.take z.2.toNat ++ l :: z.1.drop z.2.toNat))) else (-2, S)).2) := by
    intro q0 q1
    repeat (refine wf rfl ?_; first | refine wq_iadd ?_ | refine wq_isub ?_ | refine wq_imul ?_ | refine wq_iinc rfl ?_ | refine wq_goto ?_ | refine wq_k rfl ?_ | refine wq_b rfl rfl ?_ | refine wq_getf (by assumption) rfl ?_ | refine wq_alen (by assumption) rfl ?_)
    refine wf rfl (wq_cs rfl rfl ((c_isLetter8 hl).mono ?_))
    rintro v M ⟨rfl, rfl⟩
    by_cases hc : 0 ≤ l ∧ l < 8
    · rw [if_pos hc, if_pos hc]
      refine wf rfl (wq_ifne ⟨by omega, by omega⟩ (fun _ => ?_) (fun c9 => by exfalso; omega))
      repeat (refine wf rfl ?_; first | refine wq_iadd ?_ | refine wq_isub ?_ | refine wq_imul ?_ | refine wq_iinc rfl ?_ | refine wq_goto ?_ | refine wq_k rfl ?_ | refine wq_b rfl rfl ?_ | refine wq_getf (by assumption) rfl ?_ | refine wq_alen (by assumption) rfl ?_)
      refine wf rfl (wq_cv rfl rfl rfl ht0 ((c_GM_copy (M := M) (g := c + 60) (h := c + 1) (by omega) a3 a2).mono ?_))
      rintro v M1 ⟨rfl, f1, k1⟩
      have a11 : CO M1 c := f1.at (by unfold inG; omega) a1
      obtain ⟨ft1, ht1'⟩ := k1.obj
      obtain ⟨p', X', lt', dp', us', y1, y2, y3, y4, y5⟩ := k1.gv
      have hml := y1.main.len
      have hN := y1.le
      have hib := c_Gr_isBoundary y1 (hW.2.1.sb hN) (fun s _ => by rw [y5]; exact lyG_bd hW s) hp
      have hpi := c_Gr_positionInMain y1 (hW.2.1.sb hN) (fun s _ => by rw [y5]; exact lyG_bd hW s) hp
      rw [y5] at hib hpi
      -- the letter comes in, at the place z of the main row mn2
      have put : ∀ (mn2 : List Int) (z : Int) (P : Nat → Prop) (M2 : PM), Fr P M M2 → (∀ q, P q → inG (c + 60) q) → CO M2 c → GL M2 (c + 60) (S.1.1, mn2) → 0 ≤ z → z ≤ mn2.length → sumL (lyG S.1) mn2 = wlG S.1 → Wp k_X9_insert (75, [(0, .ref c), (1, .int (I p)), (2, .int (I l))], [.int (I z)], M2) (fun v M' => v = some (.int (I (if wlG S.1 = 9999 ∨ mn2.length = 80 then ((-4, S) : Int × ST) else (wlG S.1 + 1, accS S (S.1.1, mn2.take z.toNat ++ l :: mn2.drop z.toNat))).1)) ∧ Fr (inC c) M M' ∧ CS M' c (if wlG S.1 = 9999 ∨ mn2.length = 80 then ((-4, S) : Int × ST) else (wlG S.1 + 1, accS S (S.1.1, mn2.take z.toNat ++ l :: mn2.drop z.toNat))).2) := by
        intro mn2 z P M2 f2 hP a12 k2 z0 z1 hsum
        obtain ⟨ft2, ht2'⟩ := k2.ge.obj
        have hml2 : mn2.length ≤ 80 := by
          obtain ⟨p', X', lt', dp', us', W', y1, -⟩ := id k2
          exact y1.main.len
        have hP' : ∀ q, P q → inT c q := fun q hq => by have := hP q hq; unfold inG at this; unfold inT; omega
        have fail : ∀ M3 : PM, Fr (inG (c + 60)) M2 M3 → GE M3 (c + 60) → Fr (inC c) M M3 ∧ CS M3 c S := by
          intro M3 f3 k3
          have f23 := f2.tr2 f3
          have hP23 : ∀ q, (P q ∨ inG (c + 60) q) → inG (c + 60) q := fun q hq => by rcases hq with hq | hq; exact hP q hq; exact hq
          exact ⟨f23.mono (fun q hq => by have := hP23 q hq; unfold inG at this; unfold inC; omega), h.trial f23 (fun q hq => by have := hP23 q hq; unfold inG at this; unfold inT; omega) k3 (a7.fr f23 (fun q q1 q2 w => by have := hP23 q w; unfold inG at this; omega)) (a8.fr f23 (fun q q1 q2 w => by have := hP23 q w; unfold inG at this; omega))⟩
        repeat (refine wf rfl ?_; first | refine wq_iadd ?_ | refine wq_isub ?_ | refine wq_imul ?_ | refine wq_iinc rfl ?_ | refine wq_goto ?_ | refine wq_k rfl ?_ | refine wq_b rfl rfl ?_ | refine wq_getf (by assumption) rfl ?_ | refine wq_alen (by assumption) rfl ?_)
        refine wf rfl (wq_iflt ⟨by omega, by omega⟩ (fun c9 => by exfalso; omega) (fun _ => ?_))
        repeat (refine wf rfl ?_; first | refine wq_iadd ?_ | refine wq_isub ?_ | refine wq_imul ?_ | refine wq_iinc rfl ?_ | refine wq_goto ?_ | refine wq_k rfl ?_ | refine wq_b rfl rfl ?_ | refine wq_getf (by assumption) rfl ?_ | refine wq_alen (by assumption) rfl ?_)
        refine wf rfl (wq_cv rfl rfl rfl ht2' ((c_GL_put (k := z) (s := l) ⟨z0, z1⟩ hc k2).mono ?_))
        rintro v M3 ⟨f3, ⟨w1, rfl, k3⟩ | ⟨w1, rfl, k3⟩⟩
        · dsimp only at w1
          rw [if_pos (Or.inr w1)]
          repeat' (refine wf rfl ?_; first | refine wq_iadd ?_ | refine wq_isub ?_ | refine wq_imul ?_ | refine wq_iinc rfl ?_ | refine wq_goto ?_ | refine wq_k rfl ?_ | refine wq_b rfl rfl ?_ | refine wq_getf (by assumption) rfl ?_ | refine wq_alen (by assumption) rfl ?_ | (refine wq_eq ⟨by omega, by omega⟩ ⟨by omega, by omega⟩ (fun _ => ?_) (fun _ => ?_) <;> try (exfalso; omega)) | (refine wq_ne ⟨by omega, by omega⟩ ⟨by omega, by omega⟩ (fun _ => ?_) (fun _ => ?_) <;> try (exfalso; omega)) | (refine wq_lt ⟨by omega, by omega⟩ ⟨by omega, by omega⟩ (fun _ => ?_) (fun _ => ?_) <;> try (exfalso; omega)) | (refine wq_ge ⟨by omega, by omega⟩ ⟨by omega, by omega⟩ (fun _ => ?_) (fun _ => ?_) <;> try (exfalso; omega)) | (refine wq_gt ⟨by omega, by omega⟩ ⟨by omega, by omega⟩ (fun _ => ?_) (fun _ => ?_) <;> try (exfalso; omega)) | (refine wq_le ⟨by omega, by omega⟩ ⟨by omega, by omega⟩ (fun _ => ?_) (fun _ => ?_) <;> try (exfalso; omega)) | (refine wq_ifeq ⟨by omega, by omega⟩ (fun _ => ?_) (fun _ => ?_) <;> try (exfalso; omega)) | (refine wq_ifne ⟨by omega, by omega⟩ (fun _ => ?_) (fun _ => ?_) <;> try (exfalso; omega)) | (refine wq_iflt ⟨by omega, by omega⟩ (fun _ => ?_) (fun _ => ?_) <;> try (exfalso; omega)) | (refine wq_ifge ⟨by omega, by omega⟩ (fun _ => ?_) (fun _ => ?_) <;> try (exfalso; omega)) | (refine wq_ifgt ⟨by omega, by omega⟩ (fun _ => ?_) (fun _ => ?_) <;> try (exfalso; omega)) | (refine wq_ifle ⟨by omega, by omega⟩ (fun _ => ?_) (fun _ => ?_) <;> try (exfalso; omega)) | refine wq_r rfl rfl rfl rfl rfl rfl ?_)
          exact ⟨rfl, fail M3 f3 k3⟩
        · dsimp only at w1 k3
          have a13 : CO M3 c := f3.at (by unfold inG; omega) a12
          obtain ⟨ft3, ht3'⟩ := k3.obj
          have hsi := sumL_ins (f := lyG S.1) mn2 z.toNat l
          rw [lyG_letter hc.2] at hsi
          have htb := tooB_mn hK (mn := mn2.take z.toNat ++ l :: mn2.drop z.toNat)
          refine wf rfl (wq_ifeq ⟨by omega, by omega⟩ (fun c9 => by exfalso; omega) (fun _ => ?_))
          repeat (refine wf rfl ?_; first | refine wq_iadd ?_ | refine wq_isub ?_ | refine wq_imul ?_ | refine wq_iinc rfl ?_ | refine wq_goto ?_ | refine wq_k rfl ?_ | refine wq_b rfl rfl ?_ | refine wq_getf (by assumption) rfl ?_ | refine wq_alen (by assumption) rfl ?_)
          refine wf rfl (wq_cv rfl rfl rfl ht3' ((c_GM_tooMuch k3).mono ?_))
          rintro v M3 ⟨rfl, rfl⟩
          by_cases h99 : wlG S.1 = 9999
          · rw [if_pos (htb.mpr (by omega)), if_pos (Or.inl h99)]
            repeat' (refine wf rfl ?_; first | refine wq_iadd ?_ | refine wq_isub ?_ | refine wq_imul ?_ | refine wq_iinc rfl ?_ | refine wq_goto ?_ | refine wq_k rfl ?_ | refine wq_b rfl rfl ?_ | refine wq_getf (by assumption) rfl ?_ | refine wq_alen (by assumption) rfl ?_ | (refine wq_eq ⟨by omega, by omega⟩ ⟨by omega, by omega⟩ (fun _ => ?_) (fun _ => ?_) <;> try (exfalso; omega)) | (refine wq_ne ⟨by omega, by omega⟩ ⟨by omega, by omega⟩ (fun _ => ?_) (fun _ => ?_) <;> try (exfalso; omega)) | (refine wq_lt ⟨by omega, by omega⟩ ⟨by omega, by omega⟩ (fun _ => ?_) (fun _ => ?_) <;> try (exfalso; omega)) | (refine wq_ge ⟨by omega, by omega⟩ ⟨by omega, by omega⟩ (fun _ => ?_) (fun _ => ?_) <;> try (exfalso; omega)) | (refine wq_gt ⟨by omega, by omega⟩ ⟨by omega, by omega⟩ (fun _ => ?_) (fun _ => ?_) <;> try (exfalso; omega)) | (refine wq_le ⟨by omega, by omega⟩ ⟨by omega, by omega⟩ (fun _ => ?_) (fun _ => ?_) <;> try (exfalso; omega)) | (refine wq_ifeq ⟨by omega, by omega⟩ (fun _ => ?_) (fun _ => ?_) <;> try (exfalso; omega)) | (refine wq_ifne ⟨by omega, by omega⟩ (fun _ => ?_) (fun _ => ?_) <;> try (exfalso; omega)) | (refine wq_iflt ⟨by omega, by omega⟩ (fun _ => ?_) (fun _ => ?_) <;> try (exfalso; omega)) | (refine wq_ifge ⟨by omega, by omega⟩ (fun _ => ?_) (fun _ => ?_) <;> try (exfalso; omega)) | (refine wq_ifgt ⟨by omega, by omega⟩ (fun _ => ?_) (fun _ => ?_) <;> try (exfalso; omega)) | (refine wq_ifle ⟨by omega, by omega⟩ (fun _ => ?_) (fun _ => ?_) <;> try (exfalso; omega)) | refine wq_r rfl rfl rfl rfl rfl rfl ?_)
            exact ⟨rfl, fail M3 f3 k3.ge⟩
          · rw [if_neg (fun w => by have := htb.mp w; omega), if_neg (by omega)]
            have ew : wlG (S.1.1, mn2.take z.toNat ++ l :: mn2.drop z.toNat) = wlG S.1 + 1 := by rw [wlG_mn, hsi]; omega
            have hwlc := c_GM_wordLetters k3
            rw [ew] at hwlc
            have f23 := f2.tr2 f3
            have hP23 : ∀ q, (P q ∨ inG (c + 60) q) → inG (c + 60) q := fun q hq => by rcases hq with hq | hq; exact hP q hq; exact hq
            refine wf rfl (wq_ifeq ⟨by omega, by omega⟩ (fun _ => ?_) (fun c9 => absurd rfl c9))
            repeat (refine wf rfl ?_; first | refine wq_iadd ?_ | refine wq_isub ?_ | refine wq_imul ?_ | refine wq_iinc rfl ?_ | refine wq_goto ?_ | refine wq_k rfl ?_ | refine wq_b rfl rfl ?_ | refine wq_getf (by assumption) rfl ?_ | refine wq_alen (by assumption) rfl ?_)
            refine wf rfl (wq_cv rfl rfl rfl ht3' (hwlc.mono ?_))
            rintro v M3 ⟨rfl, rfl⟩
            repeat (refine wf rfl ?_; first | refine wq_iadd ?_ | refine wq_isub ?_ | refine wq_imul ?_ | refine wq_iinc rfl ?_ | refine wq_goto ?_ | refine wq_k rfl ?_ | refine wq_b rfl rfl ?_ | refine wq_getf (by assumption) rfl ?_ | refine wq_alen (by assumption) rfl ?_)
            refine wf rfl (wq_cv rfl rfl rfl a13 ((c_acc h f23 (fun q hq => by have := hP23 q hq; unfold inG at this; unfold inT; omega) (a7.fr f23 (fun q q1 q2 w => by have := hP23 q w; unfold inG at this; omega)) (a8.fr f23 (fun q q1 q2 w => by have := hP23 q w; unfold inG at this; omega)) k3).mono ?_))
            rintro v M4 ⟨rfl, f4, h4⟩
            repeat' (refine wf rfl ?_; first | refine wq_iadd ?_ | refine wq_isub ?_ | refine wq_imul ?_ | refine wq_iinc rfl ?_ | refine wq_goto ?_ | refine wq_k rfl ?_ | refine wq_b rfl rfl ?_ | refine wq_getf (by assumption) rfl ?_ | refine wq_alen (by assumption) rfl ?_ | (refine wq_eq ⟨by omega, by omega⟩ ⟨by omega, by omega⟩ (fun _ => ?_) (fun _ => ?_) <;> try (exfalso; omega)) | (refine wq_ne ⟨by omega, by omega⟩ ⟨by omega, by omega⟩ (fun _ => ?_) (fun _ => ?_) <;> try (exfalso; omega)) | (refine wq_lt ⟨by omega, by omega⟩ ⟨by omega, by omega⟩ (fun _ => ?_) (fun _ => ?_) <;> try (exfalso; omega)) | (refine wq_ge ⟨by omega, by omega⟩ ⟨by omega, by omega⟩ (fun _ => ?_) (fun _ => ?_) <;> try (exfalso; omega)) | (refine wq_gt ⟨by omega, by omega⟩ ⟨by omega, by omega⟩ (fun _ => ?_) (fun _ => ?_) <;> try (exfalso; omega)) | (refine wq_le ⟨by omega, by omega⟩ ⟨by omega, by omega⟩ (fun _ => ?_) (fun _ => ?_) <;> try (exfalso; omega)) | (refine wq_ifeq ⟨by omega, by omega⟩ (fun _ => ?_) (fun _ => ?_) <;> try (exfalso; omega)) | (refine wq_ifne ⟨by omega, by omega⟩ (fun _ => ?_) (fun _ => ?_) <;> try (exfalso; omega)) | (refine wq_iflt ⟨by omega, by omega⟩ (fun _ => ?_) (fun _ => ?_) <;> try (exfalso; omega)) | (refine wq_ifge ⟨by omega, by omega⟩ (fun _ => ?_) (fun _ => ?_) <;> try (exfalso; omega)) | (refine wq_ifgt ⟨by omega, by omega⟩ (fun _ => ?_) (fun _ => ?_) <;> try (exfalso; omega)) | (refine wq_ifle ⟨by omega, by omega⟩ (fun _ => ?_) (fun _ => ?_) <;> try (exfalso; omega)) | refine wq_r rfl rfl rfl rfl rfl rfl ?_)
            exact ⟨rfl, f4, h4⟩
      repeat (refine wf rfl ?_; first | refine wq_iadd ?_ | refine wq_isub ?_ | refine wq_imul ?_ | refine wq_iinc rfl ?_ | refine wq_goto ?_ | refine wq_k rfl ?_ | refine wq_b rfl rfl ?_ | refine wq_getf (by assumption) rfl ?_ | refine wq_alen (by assumption) rfl ?_)
      refine wf rfl (wq_cv rfl rfl rfl ht1' (hib.mono ?_))
      rintro v M1 ⟨rfl, rfl⟩
      by_cases hb : sumL (lyG S.1) (S.1.2.take (posL (lyG S.1) S.1.2 p).toNat) = p
      · have es : spotI S.1 p = some (S.1.2, posL (lyG S.1) S.1.2 p) := if_pos hb
        rw [es, if_pos (by omega)]
        have hst := fun (_ : True) => put S.1.2 (posL (lyG S.1) S.1.2 p) _ M1 f1 (fun q hq => hq) a11 k1.gl hpb.1 hpb.2 hwk.symm
        refine wf rfl (wq_ifeq ⟨by omega, by omega⟩ (fun c9 => by exfalso; omega) (fun _ => ?_))
        repeat (refine wf rfl ?_; first | refine wq_iadd ?_ | refine wq_isub ?_ | refine wq_imul ?_ | refine wq_iinc rfl ?_ | refine wq_goto ?_ | refine wq_k rfl ?_ | refine wq_b rfl rfl ?_ | refine wq_getf (by assumption) rfl ?_ | refine wq_alen (by assumption) rfl ?_)
        refine wf rfl (wq_cv rfl rfl rfl ht1' (hpi.mono ?_))
        rintro v M1 ⟨rfl, rfl⟩
        repeat' (first | (refine Wp.sub (hst  ?_) ⟨rfl, rfl, rfl, trivial⟩ rfl) | (refine wf rfl ?_; first | refine wq_iadd ?_ | refine wq_isub ?_ | refine wq_imul ?_ | refine wq_iinc rfl ?_ | refine wq_goto ?_ | refine wq_k rfl ?_ | refine wq_b rfl rfl ?_ | refine wq_getf (by assumption) rfl ?_ | refine wq_alen (by assumption) rfl ?_ | fail | (refine wq_eq ⟨by omega, by omega⟩ ⟨by omega, by omega⟩ (fun _ => ?_) (fun _ => ?_) <;> try (exfalso; omega)) | (refine wq_ne ⟨by omega, by omega⟩ ⟨by omega, by omega⟩ (fun _ => ?_) (fun _ => ?_) <;> try (exfalso; omega)) | (refine wq_lt ⟨by omega, by omega⟩ ⟨by omega, by omega⟩ (fun _ => ?_) (fun _ => ?_) <;> try (exfalso; omega)) | (refine wq_ge ⟨by omega, by omega⟩ ⟨by omega, by omega⟩ (fun _ => ?_) (fun _ => ?_) <;> try (exfalso; omega)) | (refine wq_gt ⟨by omega, by omega⟩ ⟨by omega, by omega⟩ (fun _ => ?_) (fun _ => ?_) <;> try (exfalso; omega)) | (refine wq_le ⟨by omega, by omega⟩ ⟨by omega, by omega⟩ (fun _ => ?_) (fun _ => ?_) <;> try (exfalso; omega)) | (refine wq_ifeq ⟨by omega, by omega⟩ (fun _ => ?_) (fun _ => ?_) <;> try (exfalso; omega)) | (refine wq_ifne ⟨by omega, by omega⟩ (fun _ => ?_) (fun _ => ?_) <;> try (exfalso; omega)) | (refine wq_iflt ⟨by omega, by omega⟩ (fun _ => ?_) (fun _ => ?_) <;> try (exfalso; omega)) | (refine wq_ifge ⟨by omega, by omega⟩ (fun _ => ?_) (fun _ => ?_) <;> try (exfalso; omega)) | (refine wq_ifgt ⟨by omega, by omega⟩ (fun _ => ?_) (fun _ => ?_) <;> try (exfalso; omega)) | (refine wq_ifle ⟨by omega, by omega⟩ (fun _ => ?_) (fun _ => ?_) <;> try (exfalso; omega)) | refine wq_r rfl rfl rfl rfl rfl rfl ?_))
        trivial
      · have hlt : p < wlG S.1 := by
          rcases Int.lt_or_le p (wlG S.1) with w | w
          · exact w
          · exfalso
            apply hb
            rw [posL_ge (fun s => (lyG_bd hW s).1) S.1.2 p (by omega), List.take_of_length_le (by omega)]
            omega
        have es : spotI S.1 p = opn S.1 p := if_neg hb
        have hsn := sumL_nn (lyG S.1) (S.1.2.take (posL (lyG S.1) S.1.2 p).toNat) (fun s _ => (lyG_bd hW s).1)
        rw [es, if_neg (by omega)]
        refine wf rfl (wq_ifeq ⟨by omega, by omega⟩ (fun _ => ?_) (fun c9 => absurd rfl c9))
        repeat (refine wf rfl ?_; first | refine wq_iadd ?_ | refine wq_isub ?_ | refine wq_imul ?_ | refine wq_iinc rfl ?_ | refine wq_goto ?_ | refine wq_k rfl ?_ | refine wq_b rfl rfl ?_ | refine wq_getf (by assumption) rfl ?_ | refine wq_alen (by assumption) rfl ?_)
        refine wf rfl (wq_cv rfl rfl rfl ht1' ((c_GM_open hp k1).mono ?_))
        rintro v M2 ⟨f2, ⟨mn2, z, o1, rfl, o2, o3, k2⟩ | ⟨o1, rfl, k2⟩⟩
        · have f12 := f1.tr2 f2
          have a12 : CO M2 c := f2.at (by unfold inG; omega) a11
          obtain ⟨b1, b2, b3, b4, b5⟩ := opn_some hW ⟨q0, hlt⟩ o1
          rw [o1]
          have hst := put mn2 z _ M2 f12 (fun q hq => by rcases hq with hq | hq; exact hq; exact hq) a12 k2 b2 (by omega) (by rw [b5 hK, hwk])
          exact hst.sub ⟨rfl, rfl, rfl, trivial⟩ rfl
        · have f12 := f1.tr2 f2
          rw [o1]
          repeat' (refine wf rfl ?_; first | refine wq_iadd ?_ | refine wq_isub ?_ | refine wq_imul ?_ | refine wq_iinc rfl ?_ | refine wq_goto ?_ | refine wq_k rfl ?_ | refine wq_b rfl rfl ?_ | refine wq_getf (by assumption) rfl ?_ | refine wq_alen (by assumption) rfl ?_ | (refine wq_eq ⟨by omega, by omega⟩ ⟨by omega, by omega⟩ (fun _ => ?_) (fun _ => ?_) <;> try (exfalso; omega)) | (refine wq_ne ⟨by omega, by omega⟩ ⟨by omega, by omega⟩ (fun _ => ?_) (fun _ => ?_) <;> try (exfalso; omega)) | (refine wq_lt ⟨by omega, by omega⟩ ⟨by omega, by omega⟩ (fun _ => ?_) (fun _ => ?_) <;> try (exfalso; omega)) | (refine wq_ge ⟨by omega, by omega⟩ ⟨by omega, by omega⟩ (fun _ => ?_) (fun _ => ?_) <;> try (exfalso; omega)) | (refine wq_gt ⟨by omega, by omega⟩ ⟨by omega, by omega⟩ (fun _ => ?_) (fun _ => ?_) <;> try (exfalso; omega)) | (refine wq_le ⟨by omega, by omega⟩ ⟨by omega, by omega⟩ (fun _ => ?_) (fun _ => ?_) <;> try (exfalso; omega)) | (refine wq_ifeq ⟨by omega, by omega⟩ (fun _ => ?_) (fun _ => ?_) <;> try (exfalso; omega)) | (refine wq_ifne ⟨by omega, by omega⟩ (fun _ => ?_) (fun _ => ?_) <;> try (exfalso; omega)) | (refine wq_iflt ⟨by omega, by omega⟩ (fun _ => ?_) (fun _ => ?_) <;> try (exfalso; omega)) | (refine wq_ifge ⟨by omega, by omega⟩ (fun _ => ?_) (fun _ => ?_) <;> try (exfalso; omega)) | (refine wq_ifgt ⟨by omega, by omega⟩ (fun _ => ?_) (fun _ => ?_) <;> try (exfalso; omega)) | (refine wq_ifle ⟨by omega, by omega⟩ (fun _ => ?_) (fun _ => ?_) <;> try (exfalso; omega)) | refine wq_r rfl rfl rfl rfl rfl rfl ?_)
          exact ⟨rfl, f12.mono (fun q hq => by unfold inG at hq; unfold inC; omega), h.trial f12 (fun q hq => by unfold inG at hq; unfold inT; omega) k2 (a7.fr f12 (fun q q1 q2 => by unfold inG; omega)) (a8.fr f12 (fun q q1 q2 => by unfold inG; omega))⟩
    · rw [if_neg hc, if_neg hc]
      repeat' (refine wf rfl ?_; first | refine wq_iadd ?_ | refine wq_isub ?_ | refine wq_imul ?_ | refine wq_iinc rfl ?_ | refine wq_goto ?_ | refine wq_k rfl ?_ | refine wq_b rfl rfl ?_ | refine wq_getf (by assumption) rfl ?_ | refine wq_alen (by assumption) rfl ?_ | (refine wq_eq ⟨by omega, by omega⟩ ⟨by omega, by omega⟩ (fun _ => ?_) (fun _ => ?_) <;> try (exfalso; omega)) | (refine wq_ne ⟨by omega, by omega⟩ ⟨by omega, by omega⟩ (fun _ => ?_) (fun _ => ?_) <;> try (exfalso; omega)) | (refine wq_lt ⟨by omega, by omega⟩ ⟨by omega, by omega⟩ (fun _ => ?_) (fun _ => ?_) <;> try (exfalso; omega)) | (refine wq_ge ⟨by omega, by omega⟩ ⟨by omega, by omega⟩ (fun _ => ?_) (fun _ => ?_) <;> try (exfalso; omega)) | (refine wq_gt ⟨by omega, by omega⟩ ⟨by omega, by omega⟩ (fun _ => ?_) (fun _ => ?_) <;> try (exfalso; omega)) | (refine wq_le ⟨by omega, by omega⟩ ⟨by omega, by omega⟩ (fun _ => ?_) (fun _ => ?_) <;> try (exfalso; omega)) | (refine wq_ifeq ⟨by omega, by omega⟩ (fun _ => ?_) (fun _ => ?_) <;> try (exfalso; omega)) | (refine wq_ifne ⟨by omega, by omega⟩ (fun _ => ?_) (fun _ => ?_) <;> try (exfalso; omega)) | (refine wq_iflt ⟨by omega, by omega⟩ (fun _ => ?_) (fun _ => ?_) <;> try (exfalso; omega)) | (refine wq_ifge ⟨by omega, by omega⟩ (fun _ => ?_) (fun _ => ?_) <;> try (exfalso; omega)) | (refine wq_ifgt ⟨by omega, by omega⟩ (fun _ => ?_) (fun _ => ?_) <;> try (exfalso; omega)) | (refine wq_ifle ⟨by omega, by omega⟩ (fun _ => ?_) (fun _ => ?_) <;> try (exfalso; omega)) | refine wq_r rfl rfl rfl rfl rfl rfl ?_)
      exact ⟨rfl, Fr.rf, h⟩
  refine wm_in (lv := _) rfl rfl rfl ?_
  repeat (refine wf rfl ?_; first | refine wq_iadd ?_ | refine wq_isub ?_ | refine wq_imul ?_ | refine wq_iinc rfl ?_ | refine wq_goto ?_ | refine wq_k rfl ?_ | refine wq_b rfl rfl ?_ | refine wq_getf (by assumption) rfl ?_ | refine wq_alen (by assumption) rfl ?_)
  refine wf rfl (wq_cv rfl rfl rfl hn0 ((c_GM_wordLetters a2).mono ?_))
  rintro v M ⟨rfl, rfl⟩
  refine wf rfl (wq_eq ⟨by omega, by omega⟩ ⟨by omega, by omega⟩ (fun c1 => ?_) (fun c1 => ?_))
  · have hst := fun (_ : True) => main (by omega) (by omega)
    rw [if_pos (by omega)]
    repeat' (first | (refine Wp.sub (hst  ?_) ⟨rfl, rfl, rfl, trivial⟩ rfl) | (refine wf rfl ?_; first | refine wq_iadd ?_ | refine wq_isub ?_ | refine wq_imul ?_ | refine wq_iinc rfl ?_ | refine wq_goto ?_ | refine wq_k rfl ?_ | refine wq_b rfl rfl ?_ | refine wq_getf (by assumption) rfl ?_ | refine wq_alen (by assumption) rfl ?_ | fail | (refine wq_eq ⟨by omega, by omega⟩ ⟨by omega, by omega⟩ (fun _ => ?_) (fun _ => ?_) <;> try (exfalso; omega)) | (refine wq_ne ⟨by omega, by omega⟩ ⟨by omega, by omega⟩ (fun _ => ?_) (fun _ => ?_) <;> try (exfalso; omega)) | (refine wq_lt ⟨by omega, by omega⟩ ⟨by omega, by omega⟩ (fun _ => ?_) (fun _ => ?_) <;> try (exfalso; omega)) | (refine wq_ge ⟨by omega, by omega⟩ ⟨by omega, by omega⟩ (fun _ => ?_) (fun _ => ?_) <;> try (exfalso; omega)) | (refine wq_gt ⟨by omega, by omega⟩ ⟨by omega, by omega⟩ (fun _ => ?_) (fun _ => ?_) <;> try (exfalso; omega)) | (refine wq_le ⟨by omega, by omega⟩ ⟨by omega, by omega⟩ (fun _ => ?_) (fun _ => ?_) <;> try (exfalso; omega)) | (refine wq_ifeq ⟨by omega, by omega⟩ (fun _ => ?_) (fun _ => ?_) <;> try (exfalso; omega)) | (refine wq_ifne ⟨by omega, by omega⟩ (fun _ => ?_) (fun _ => ?_) <;> try (exfalso; omega)) | (refine wq_iflt ⟨by omega, by omega⟩ (fun _ => ?_) (fun _ => ?_) <;> try (exfalso; omega)) | (refine wq_ifge ⟨by omega, by omega⟩ (fun _ => ?_) (fun _ => ?_) <;> try (exfalso; omega)) | (refine wq_ifgt ⟨by omega, by omega⟩ (fun _ => ?_) (fun _ => ?_) <;> try (exfalso; omega)) | (refine wq_ifle ⟨by omega, by omega⟩ (fun _ => ?_) (fun _ => ?_) <;> try (exfalso; omega)) | refine wq_r rfl rfl rfl rfl rfl rfl ?_))
    trivial
  · repeat (refine wf rfl ?_; first | refine wq_iadd ?_ | refine wq_isub ?_ | refine wq_imul ?_ | refine wq_iinc rfl ?_ | refine wq_goto ?_ | refine wq_k rfl ?_ | refine wq_b rfl rfl ?_ | refine wq_getf (by assumption) rfl ?_ | refine wq_alen (by assumption) rfl ?_)
    refine wf rfl (wq_cv rfl rfl rfl hn0 ((c_GM_hasPlace hp a2).mono ?_))
    rintro v M ⟨rfl, rfl⟩
    by_cases hq : 0 ≤ p ∧ p < wlG S.1
    · have hst := fun (_ : True) => main (by omega) (by omega)
      rw [if_pos hq, if_pos (by omega)]
      refine wf rfl (wq_ifne ⟨by omega, by omega⟩ (fun _ => ?_) (fun c9 => by exfalso; omega))
      repeat' (first | (refine Wp.sub (hst  ?_) ⟨rfl, rfl, rfl, trivial⟩ rfl) | (refine wf rfl ?_; first | refine wq_iadd ?_ | refine wq_isub ?_ | refine wq_imul ?_ | refine wq_iinc rfl ?_ | refine wq_goto ?_ | refine wq_k rfl ?_ | refine wq_b rfl rfl ?_ | refine wq_getf (by assumption) rfl ?_ | refine wq_alen (by assumption) rfl ?_ | fail | (refine wq_eq ⟨by omega, by omega⟩ ⟨by omega, by omega⟩ (fun _ => ?_) (fun _ => ?_) <;> try (exfalso; omega)) | (refine wq_ne ⟨by omega, by omega⟩ ⟨by omega, by omega⟩ (fun _ => ?_) (fun _ => ?_) <;> try (exfalso; omega)) | (refine wq_lt ⟨by omega, by omega⟩ ⟨by omega, by omega⟩ (fun _ => ?_) (fun _ => ?_) <;> try (exfalso; omega)) | (refine wq_ge ⟨by omega, by omega⟩ ⟨by omega, by omega⟩ (fun _ => ?_) (fun _ => ?_) <;> try (exfalso; omega)) | (refine wq_gt ⟨by omega, by omega⟩ ⟨by omega, by omega⟩ (fun _ => ?_) (fun _ => ?_) <;> try (exfalso; omega)) | (refine wq_le ⟨by omega, by omega⟩ ⟨by omega, by omega⟩ (fun _ => ?_) (fun _ => ?_) <;> try (exfalso; omega)) | (refine wq_ifeq ⟨by omega, by omega⟩ (fun _ => ?_) (fun _ => ?_) <;> try (exfalso; omega)) | (refine wq_ifne ⟨by omega, by omega⟩ (fun _ => ?_) (fun _ => ?_) <;> try (exfalso; omega)) | (refine wq_iflt ⟨by omega, by omega⟩ (fun _ => ?_) (fun _ => ?_) <;> try (exfalso; omega)) | (refine wq_ifge ⟨by omega, by omega⟩ (fun _ => ?_) (fun _ => ?_) <;> try (exfalso; omega)) | (refine wq_ifgt ⟨by omega, by omega⟩ (fun _ => ?_) (fun _ => ?_) <;> try (exfalso; omega)) | (refine wq_ifle ⟨by omega, by omega⟩ (fun _ => ?_) (fun _ => ?_) <;> try (exfalso; omega)) | refine wq_r rfl rfl rfl rfl rfl rfl ?_))
      trivial
    · rw [if_neg hq, if_neg (by omega)]
      repeat' (refine wf rfl ?_; first | refine wq_iadd ?_ | refine wq_isub ?_ | refine wq_imul ?_ | refine wq_iinc rfl ?_ | refine wq_goto ?_ | refine wq_k rfl ?_ | refine wq_b rfl rfl ?_ | refine wq_getf (by assumption) rfl ?_ | refine wq_alen (by assumption) rfl ?_ | (refine wq_eq ⟨by omega, by omega⟩ ⟨by omega, by omega⟩ (fun _ => ?_) (fun _ => ?_) <;> try (exfalso; omega)) | (refine wq_ne ⟨by omega, by omega⟩ ⟨by omega, by omega⟩ (fun _ => ?_) (fun _ => ?_) <;> try (exfalso; omega)) | (refine wq_lt ⟨by omega, by omega⟩ ⟨by omega, by omega⟩ (fun _ => ?_) (fun _ => ?_) <;> try (exfalso; omega)) | (refine wq_ge ⟨by omega, by omega⟩ ⟨by omega, by omega⟩ (fun _ => ?_) (fun _ => ?_) <;> try (exfalso; omega)) | (refine wq_gt ⟨by omega, by omega⟩ ⟨by omega, by omega⟩ (fun _ => ?_) (fun _ => ?_) <;> try (exfalso; omega)) | (refine wq_le ⟨by omega, by omega⟩ ⟨by omega, by omega⟩ (fun _ => ?_) (fun _ => ?_) <;> try (exfalso; omega)) | (refine wq_ifeq ⟨by omega, by omega⟩ (fun _ => ?_) (fun _ => ?_) <;> try (exfalso; omega)) | (refine wq_ifne ⟨by omega, by omega⟩ (fun _ => ?_) (fun _ => ?_) <;> try (exfalso; omega)) | (refine wq_iflt ⟨by omega, by omega⟩ (fun _ => ?_) (fun _ => ?_) <;> try (exfalso; omega)) | (refine wq_ifge ⟨by omega, by omega⟩ (fun _ => ?_) (fun _ => ?_) <;> try (exfalso; omega)) | (refine wq_ifgt ⟨by omega, by omega⟩ (fun _ => ?_) (fun _ => ?_) <;> try (exfalso; omega)) | (refine wq_ifle ⟨by omega, by omega⟩ (fun _ => ?_) (fun _ => ?_) <;> try (exfalso; omega)) | refine wq_r rfl rfl rfl rfl rfl rfl ?_)
      exact ⟨rfl, Fr.rf, h⟩
/-- only helpers changed -/
theorem CS.help {P : Nat → Prop} {M' : PM} (h : CS M c S) (f : Fr P M M') (hP : ∀ q, P q → c + 482 ≤ q ∧ q < c + 494) (hw : CW M' c) : Fr (inC c) M M' ∧ CS M' c S :=
  ⟨f.mono (fun q hq => by have := hP q hq; unfold inC; omega), h.trial f (fun q hq => by have := hP q hq; unfold inT; omega) (h.2.2.1.fr f (fun q hq w => by have := hP q w; unfold inG at hq; omega)) (h.2.2.2.2.2.2.1.fr f (fun q q1 q2 w => by have := hP q w; omega)) hw⟩
theorem c_follow {q : Int} {fl rp : Int} (hq : 0 ≤ q ∧ q ≤ 20000) (hb : Ph M (c + 487) fl rp) (h : GM M (c + 1) S.1) : Wm 56 [.ref (c + 487), .ref (c + 1), .int (I q)] M (fun v M' => v = none ∧ Fr (fun z => z = c + 487) M M' ∧ Ph M' (c + 487) (fol (lyG S.1) (xof S.1.1) S.1.1.length S.1.2 q).1 (fol (lyG S.1) (xof S.1.1) S.1.1.length S.1.2 q).2) := by
  obtain ⟨p, X, lt, dp, us, h1, h2, h3, h4, h5⟩ := h.gv
  have hX : WFX S.1.1.length X := fun k hk s hs => h3.1 k hk s (by rw [← h2 k hk]; exact hs)
  have e : fol (lsy S.1.1.length lt) X S.1.1.length S.1.2 q = fol (lyG S.1) (xof S.1.1) S.1.1.length S.1.2 q := by
    rw [h5]
    exact fol_congr h2 hX _ _ _ (Nat.le_refl _) h3.2.1
  have := c_Path_follow hq hb h1 hX h3.2.1 (fun j hj => by rw [(h4 j hj).1]; exact ltG_bd h3 j hj) (by omega)
  rw [e] at this
  exact this
theorem c_PG_letter {q : Int} (hq : inR q) (h : CS M c S) : Wm 98 [.ref c, .int (I q)] M (fun v M' => v = some (.int (I (spLetter q S.1))) ∧ Fr (inC c) M M' ∧ CS M' c S) := by
  obtain ⟨a1, a2, a3, a4, a5, a6, a7, a8⟩ := id h
  obtain ⟨fn, hn0⟩ := a2.obj
  have hwb := wlG_bd a2.wf
  obtain ⟨w1, w2, ⟨fl, rp, w3⟩, w4, w5⟩ := id a8
  unfold spLetter
  refine wm_in (lv := _) rfl rfl rfl ?_
  repeat (refine wf rfl ?_; first | refine wq_iadd ?_ | refine wq_isub ?_ | refine wq_imul ?_ | refine wq_iinc rfl ?_ | refine wq_goto ?_ | refine wq_k rfl ?_ | refine wq_b rfl rfl ?_ | refine wq_getf (by assumption) rfl ?_ | refine wq_alen (by assumption) rfl ?_)
  refine wf rfl (wq_cv rfl rfl rfl hn0 ((c_GM_hasPlace hq a2).mono ?_))
  rintro v M ⟨rfl, rfl⟩
  by_cases hc : 0 ≤ q ∧ q < wlG S.1
  · rw [if_pos hc, if_pos hc]
    refine wf rfl (wq_ifne ⟨by omega, by omega⟩ (fun _ => ?_) (fun c9 => by exfalso; omega))
    have w3' : M[c + 487]? = some (.inr (4, [.int (I fl), .int (I rp)])) := w3
    repeat (refine wf rfl ?_; first | refine wq_iadd ?_ | refine wq_isub ?_ | refine wq_imul ?_ | refine wq_iinc rfl ?_ | refine wq_goto ?_ | refine wq_k rfl ?_ | refine wq_b rfl rfl ?_ | refine wq_getf (by assumption) rfl ?_ | refine wq_alen (by assumption) rfl ?_)
    refine wf rfl (wq_cv rfl rfl rfl w3' ((c_follow (S := S) (by omega) w3 a2).mono ?_))
    rintro v M1 ⟨rfl, f1, k1⟩
    have a11 : CO M1 c := f1.at (by omega) a1
    have k1' : M1[c + 487]? = some (.inr (4, [.int (I (fol (lyG S.1) (xof S.1.1) S.1.1.length S.1.2 q).1), .int (I (fol (lyG S.1) (xof S.1.1) S.1.1.length S.1.2 q).2)])) := k1
    repeat (refine wf rfl ?_; first | refine wq_iadd ?_ | refine wq_isub ?_ | refine wq_imul ?_ | refine wq_iinc rfl ?_ | refine wq_goto ?_ | refine wq_k rfl ?_ | refine wq_b rfl rfl ?_ | refine wq_getf (by assumption) rfl ?_ | refine wq_alen (by assumption) rfl ?_)
    refine wf rfl (wq_cv rfl rfl rfl k1' ((c_Path_foundLetter k1).mono ?_))
    rintro v M1 ⟨rfl, rfl⟩
    repeat' (refine wf rfl ?_; first | refine wq_iadd ?_ | refine wq_isub ?_ | refine wq_imul ?_ | refine wq_iinc rfl ?_ | refine wq_goto ?_ | refine wq_k rfl ?_ | refine wq_b rfl rfl ?_ | refine wq_getf (by assumption) rfl ?_ | refine wq_alen (by assumption) rfl ?_ | (refine wq_eq ⟨by omega, by omega⟩ ⟨by omega, by omega⟩ (fun _ => ?_) (fun _ => ?_) <;> try (exfalso; omega)) | (refine wq_ne ⟨by omega, by omega⟩ ⟨by omega, by omega⟩ (fun _ => ?_) (fun _ => ?_) <;> try (exfalso; omega)) | (refine wq_lt ⟨by omega, by omega⟩ ⟨by omega, by omega⟩ (fun _ => ?_) (fun _ => ?_) <;> try (exfalso; omega)) | (refine wq_ge ⟨by omega, by omega⟩ ⟨by omega, by omega⟩ (fun _ => ?_) (fun _ => ?_) <;> try (exfalso; omega)) | (refine wq_gt ⟨by omega, by omega⟩ ⟨by omega, by omega⟩ (fun _ => ?_) (fun _ => ?_) <;> try (exfalso; omega)) | (refine wq_le ⟨by omega, by omega⟩ ⟨by omega, by omega⟩ (fun _ => ?_) (fun _ => ?_) <;> try (exfalso; omega)) | (refine wq_ifeq ⟨by omega, by omega⟩ (fun _ => ?_) (fun _ => ?_) <;> try (exfalso; omega)) | (refine wq_ifne ⟨by omega, by omega⟩ (fun _ => ?_) (fun _ => ?_) <;> try (exfalso; omega)) | (refine wq_iflt ⟨by omega, by omega⟩ (fun _ => ?_) (fun _ => ?_) <;> try (exfalso; omega)) | (refine wq_ifge ⟨by omega, by omega⟩ (fun _ => ?_) (fun _ => ?_) <;> try (exfalso; omega)) | (refine wq_ifgt ⟨by omega, by omega⟩ (fun _ => ?_) (fun _ => ?_) <;> try (exfalso; omega)) | (refine wq_ifle ⟨by omega, by omega⟩ (fun _ => ?_) (fun _ => ?_) <;> try (exfalso; omega)) | refine wq_r rfl rfl rfl rfl rfl rfl ?_)
    obtain ⟨ro, po, o, w4⟩ := w4
    obtain ⟨ro', po', o', w5⟩ := w5
    obtain ⟨fa, su, ff, s, w2⟩ := w2
    exact ⟨rfl, h.help f1 (fun z hz => by omega) ⟨w1.fr f1 (by omega) (by omega), ⟨fa, su, ff, s, w2.fr f1 (by omega) (by omega) (by omega)⟩, ⟨_, _, k1⟩, ⟨ro, po, o, w4.fr f1 (by omega) (by omega) (by omega)⟩, ⟨ro', po', o', w5.fr f1 (by omega) (by omega) (by omega)⟩⟩⟩
  · rw [if_neg hc, if_neg hc]
    repeat' (refine wf rfl ?_; first | refine wq_iadd ?_ | refine wq_isub ?_ | refine wq_imul ?_ | refine wq_iinc rfl ?_ | refine wq_goto ?_ | refine wq_k rfl ?_ | refine wq_b rfl rfl ?_ | refine wq_getf (by assumption) rfl ?_ | refine wq_alen (by assumption) rfl ?_ | (refine wq_eq ⟨by omega, by omega⟩ ⟨by omega, by omega⟩ (fun _ => ?_) (fun _ => ?_) <;> try (exfalso; omega)) | (refine wq_ne ⟨by omega, by omega⟩ ⟨by omega, by omega⟩ (fun _ => ?_) (fun _ => ?_) <;> try (exfalso; omega)) | (refine wq_lt ⟨by omega, by omega⟩ ⟨by omega, by omega⟩ (fun _ => ?_) (fun _ => ?_) <;> try (exfalso; omega)) | (refine wq_ge ⟨by omega, by omega⟩ ⟨by omega, by omega⟩ (fun _ => ?_) (fun _ => ?_) <;> try (exfalso; omega)) | (refine wq_gt ⟨by omega, by omega⟩ ⟨by omega, by omega⟩ (fun _ => ?_) (fun _ => ?_) <;> try (exfalso; omega)) | (refine wq_le ⟨by omega, by omega⟩ ⟨by omega, by omega⟩ (fun _ => ?_) (fun _ => ?_) <;> try (exfalso; omega)) | (refine wq_ifeq ⟨by omega, by omega⟩ (fun _ => ?_) (fun _ => ?_) <;> try (exfalso; omega)) | (refine wq_ifne ⟨by omega, by omega⟩ (fun _ => ?_) (fun _ => ?_) <;> try (exfalso; omega)) | (refine wq_iflt ⟨by omega, by omega⟩ (fun _ => ?_) (fun _ => ?_) <;> try (exfalso; omega)) | (refine wq_ifge ⟨by omega, by omega⟩ (fun _ => ?_) (fun _ => ?_) <;> try (exfalso; omega)) | (refine wq_ifgt ⟨by omega, by omega⟩ (fun _ => ?_) (fun _ => ?_) <;> try (exfalso; omega)) | (refine wq_ifle ⟨by omega, by omega⟩ (fun _ => ?_) (fun _ => ?_) <;> try (exfalso; omega)) | refine wq_r rfl rfl rfl rfl rfl rfl ?_)
    exact ⟨rfl, Fr.rf, h⟩
theorem c_PG_opens {q : Int} (hq : inR q) (h : CS M c S) : Wm 109 [.ref c, .int (I q)] M (fun v M' => v = some (.int (I (spOpens q S.1))) ∧ Fr (inC c) M M' ∧ CS M' c S) := by
  obtain ⟨a1, a2, a3, a4, a5, a6, a7, a8⟩ := id h
  obtain ⟨fn, hn0⟩ := a2.obj
  have hwb := wlG_bd a2.wf
  obtain ⟨w1, w2, ⟨fl, rp, w3⟩, w4, w5⟩ := id a8
  unfold spOpens
  refine wm_in (lv := _) rfl rfl rfl ?_
  repeat (refine wf rfl ?_; first | refine wq_iadd ?_ | refine wq_isub ?_ | refine wq_imul ?_ | refine wq_iinc rfl ?_ | refine wq_goto ?_ | refine wq_k rfl ?_ | refine wq_b rfl rfl ?_ | refine wq_getf (by assumption) rfl ?_ | refine wq_alen (by assumption) rfl ?_)
  refine wf rfl (wq_cv rfl rfl rfl hn0 ((c_GM_hasPlace hq a2).mono ?_))
  rintro v M ⟨rfl, rfl⟩
  by_cases hc : 0 ≤ q ∧ q < wlG S.1
  · rw [if_pos hc, if_pos hc]
    refine wf rfl (wq_ifne ⟨by omega, by omega⟩ (fun _ => ?_) (fun c9 => by exfalso; omega))
    have w3' : M[c + 487]? = some (.inr (4, [.int (I fl), .int (I rp)])) := w3
    repeat (refine wf rfl ?_; first | refine wq_iadd ?_ | refine wq_isub ?_ | refine wq_imul ?_ | refine wq_iinc rfl ?_ | refine wq_goto ?_ | refine wq_k rfl ?_ | refine wq_b rfl rfl ?_ | refine wq_getf (by assumption) rfl ?_ | refine wq_alen (by assumption) rfl ?_)
    refine wf rfl (wq_cv rfl rfl rfl w3' ((c_follow (S := S) (by omega) w3 a2).mono ?_))
    rintro v M1 ⟨rfl, f1, k1⟩
    have a11 : CO M1 c := f1.at (by omega) a1
    have k1' : M1[c + 487]? = some (.inr (4, [.int (I (fol (lyG S.1) (xof S.1.1) S.1.1.length S.1.2 q).1), .int (I (fol (lyG S.1) (xof S.1.1) S.1.1.length S.1.2 q).2)])) := k1
    repeat (refine wf rfl ?_; first | refine wq_iadd ?_ | refine wq_isub ?_ | refine wq_imul ?_ | refine wq_iinc rfl ?_ | refine wq_goto ?_ | refine wq_k rfl ?_ | refine wq_b rfl rfl ?_ | refine wq_getf (by assumption) rfl ?_ | refine wq_alen (by assumption) rfl ?_)
    refine wf rfl (wq_cv rfl rfl rfl k1' ((c_Path_rulesPassed k1).mono ?_))
    rintro v M1 ⟨rfl, rfl⟩
    repeat' (refine wf rfl ?_; first | refine wq_iadd ?_ | refine wq_isub ?_ | refine wq_imul ?_ | refine wq_iinc rfl ?_ | refine wq_goto ?_ | refine wq_k rfl ?_ | refine wq_b rfl rfl ?_ | refine wq_getf (by assumption) rfl ?_ | refine wq_alen (by assumption) rfl ?_ | (refine wq_eq ⟨by omega, by omega⟩ ⟨by omega, by omega⟩ (fun _ => ?_) (fun _ => ?_) <;> try (exfalso; omega)) | (refine wq_ne ⟨by omega, by omega⟩ ⟨by omega, by omega⟩ (fun _ => ?_) (fun _ => ?_) <;> try (exfalso; omega)) | (refine wq_lt ⟨by omega, by omega⟩ ⟨by omega, by omega⟩ (fun _ => ?_) (fun _ => ?_) <;> try (exfalso; omega)) | (refine wq_ge ⟨by omega, by omega⟩ ⟨by omega, by omega⟩ (fun _ => ?_) (fun _ => ?_) <;> try (exfalso; omega)) | (refine wq_gt ⟨by omega, by omega⟩ ⟨by omega, by omega⟩ (fun _ => ?_) (fun _ => ?_) <;> try (exfalso; omega)) | (refine wq_le ⟨by omega, by omega⟩ ⟨by omega, by omega⟩ (fun _ => ?_) (fun _ => ?_) <;> try (exfalso; omega)) | (refine wq_ifeq ⟨by omega, by omega⟩ (fun _ => ?_) (fun _ => ?_) <;> try (exfalso; omega)) | (refine wq_ifne ⟨by omega, by omega⟩ (fun _ => ?_) (fun _ => ?_) <;> try (exfalso; omega)) | (refine wq_iflt ⟨by omega, by omega⟩ (fun _ => ?_) (fun _ => ?_) <;> try (exfalso; omega)) | (refine wq_ifge ⟨by omega, by omega⟩ (fun _ => ?_) (fun _ => ?_) <;> try (exfalso; omega)) | (refine wq_ifgt ⟨by omega, by omega⟩ (fun _ => ?_) (fun _ => ?_) <;> try (exfalso; omega)) | (refine wq_ifle ⟨by omega, by omega⟩ (fun _ => ?_) (fun _ => ?_) <;> try (exfalso; omega)) | refine wq_r rfl rfl rfl rfl rfl rfl ?_)
    obtain ⟨ro, po, o, w4⟩ := w4
    obtain ⟨ro', po', o', w5⟩ := w5
    obtain ⟨fa, su, ff, s, w2⟩ := w2
    exact ⟨rfl, h.help f1 (fun z hz => by omega) ⟨w1.fr f1 (by omega) (by omega), ⟨fa, su, ff, s, w2.fr f1 (by omega) (by omega) (by omega)⟩, ⟨_, _, k1⟩, ⟨ro, po, o, w4.fr f1 (by omega) (by omega) (by omega)⟩, ⟨ro', po', o', w5.fr f1 (by omega) (by omega) (by omega)⟩⟩⟩
  · rw [if_neg hc, if_neg hc]
    repeat' (refine wf rfl ?_; first | refine wq_iadd ?_ | refine wq_isub ?_ | refine wq_imul ?_ | refine wq_iinc rfl ?_ | refine wq_goto ?_ | refine wq_k rfl ?_ | refine wq_b rfl rfl ?_ | refine wq_getf (by assumption) rfl ?_ | refine wq_alen (by assumption) rfl ?_ | (refine wq_eq ⟨by omega, by omega⟩ ⟨by omega, by omega⟩ (fun _ => ?_) (fun _ => ?_) <;> try (exfalso; omega)) | (refine wq_ne ⟨by omega, by omega⟩ ⟨by omega, by omega⟩ (fun _ => ?_) (fun _ => ?_) <;> try (exfalso; omega)) | (refine wq_lt ⟨by omega, by omega⟩ ⟨by omega, by omega⟩ (fun _ => ?_) (fun _ => ?_) <;> try (exfalso; omega)) | (refine wq_ge ⟨by omega, by omega⟩ ⟨by omega, by omega⟩ (fun _ => ?_) (fun _ => ?_) <;> try (exfalso; omega)) | (refine wq_gt ⟨by omega, by omega⟩ ⟨by omega, by omega⟩ (fun _ => ?_) (fun _ => ?_) <;> try (exfalso; omega)) | (refine wq_le ⟨by omega, by omega⟩ ⟨by omega, by omega⟩ (fun _ => ?_) (fun _ => ?_) <;> try (exfalso; omega)) | (refine wq_ifeq ⟨by omega, by omega⟩ (fun _ => ?_) (fun _ => ?_) <;> try (exfalso; omega)) | (refine wq_ifne ⟨by omega, by omega⟩ (fun _ => ?_) (fun _ => ?_) <;> try (exfalso; omega)) | (refine wq_iflt ⟨by omega, by omega⟩ (fun _ => ?_) (fun _ => ?_) <;> try (exfalso; omega)) | (refine wq_ifge ⟨by omega, by omega⟩ (fun _ => ?_) (fun _ => ?_) <;> try (exfalso; omega)) | (refine wq_ifgt ⟨by omega, by omega⟩ (fun _ => ?_) (fun _ => ?_) <;> try (exfalso; omega)) | (refine wq_ifle ⟨by omega, by omega⟩ (fun _ => ?_) (fun _ => ?_) <;> try (exfalso; omega)) | refine wq_r rfl rfl rfl rfl rfl rfl ?_)
    exact ⟨rfl, Fr.rf, h⟩
end CLS2
