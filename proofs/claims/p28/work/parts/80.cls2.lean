/-! The class walks through a word. -/
def WkS (G : GS) (ro po : Nat → Int) (o : Nat) : Prop := o ≤ 27 ∧ ∀ i, i < o → (i = 0 → ro i = -6) ∧ (1 ≤ i → 0 ≤ ro i ∧ ro i + (i : Int) ≤ G.1.length) ∧ 0 ≤ po i ∧ po i ≤ (spRow G (ro i)).length
def rem (G : GS) (ro po : Nat → Int) : Nat → List Int
  | 0 => []
  | o + 1 => tel (xof G.1) G.1.length ((spRow G (ro o)).drop (po o).toNat) ++ rem G ro po o
theorem rem_congr {G : GS} {ro po ro' po' : Nat → Int} : ∀ o : Nat, (∀ i, i < o → ro i = ro' i ∧ po i = po' i) → rem G ro po o = rem G ro' po' o
  | 0, _ => rfl
  | o + 1, h => by
    rw [rem, rem, (h o (by omega)).1, (h o (by omega)).2, rem_congr o (fun i hi => h i (by omega))]
def hd6 : List Int → Int
  | [] => -6
  | x :: _ => x
theorem spRow_sym {G : GS} (hW : WFG G) (r : Int) : ∀ s ∈ spRow G r, 0 ≤ s ∧ s < 8 + (G.1.length : Int) := by
  unfold spRow
  split
  · intro s hs
    have := hW.1 r.toNat (by omega) s hs
    omega
  · exact hW.2.1
theorem spRow_low {G : GS} (hW : WFG G) {r : Int} (hr : 0 ≤ r ∧ r < G.1.length) : ∀ s ∈ spRow G r, 0 ≤ s ∧ s < 8 + r := by
  unfold spRow
  rw [if_pos hr]
  intro s hs
  have := hW.1 r.toNat (by omega) s hs
  omega
abbrev nxtPost (M : PM) (w : Nat) (G : GS) (R : List Int) : Option Value → PM → Prop := fun v M' => v = some (.int (I (hd6 R))) ∧ Fr (inW w) M M' ∧ ∃ ro po, ∃ o : Nat, Wk M' w ro po o ∧ WkS G ro po o ∧ rem G ro po o = R.tail
section NXT
variable {M : PM} {w g : Nat} {G : GS} {p : Nat → Nat} {X : Nat → List Int} {lt dp us : Nat → Int}
theorem c_GV_row {r : Int} (hr : inR r) (h : GV M g G p X lt dp us) : ∃ a, Wm 9 [.ref g, .int (I r)] M (fun v M' => v = some (.ref a) ∧ M' = M) ∧ Rw M a (spRow G r) := by
  obtain ⟨h1, h2, h3, -⟩ := h
  have hN := h1.le
  refine ⟨_, c_Gr_ruleRow hr h1, ?_⟩
  unfold spRow
  by_cases hq : 0 ≤ r ∧ r < G.1.length
  · rw [if_pos hq, if_pos hq, ← h2 _ (by omega)]
    exact h1.row (by omega)
  · rw [if_neg hq, if_neg hq]
    exact h1.main
/-- one step at the top of the stack, its symbol s taken -/
theorem nxt_step {ro po : Nat → Int} {o : Nat} {st : Int} {Q : Option Value → PM → Prop} (h : GV M g G p X lt dp us) (hd : w + 2 < g ∨ g + 59 ≤ w) {M1 : PM} (f1 : Fr (inW w) M M1) (hw : Wk M1 w ro po ((o + 1 : Nat) : Int)) (hS : WkS G ro po (o + 1)) (hst : 0 ≤ st ∧ st < 78)
    (hk : ∀ M2 : PM, Fr (inW w) M M2 → Wk M2 w ro (upz po o (po o + 1)) ((o + 1 : Nat) : Int) → Wp k_X8_next (62, [(0, .ref w), (1, .ref g), (2, .int (I st)), (3, .int (I (o : Int))), (4, .int (I (rat (spRow G (ro o)) (po o))))], [], M2) Q) : Wp k_X8_next (2, [(0, .ref w), (1, .ref g), (2, .int (I st))], [], M1) Q := by
  obtain ⟨s1, s2⟩ := hS
  obtain ⟨t1, t2, t3, t4⟩ := s2 o (by omega)
  have hrng : -6 ≤ ro o ∧ ro o ≤ 100 := by
    have hN := h.1.le
    rcases Nat.eq_zero_or_pos o with w | w
    · have := t1 w; omega
    · have := t2 w; omega
  have h1 : GV M1 g G p X lt dp us := ⟨h.1.fr f1 (fun z z1 z2 => by unfold inW; omega), h.2⟩
  obtain ⟨a, ha, hr⟩ := c_GV_row (r := ro o) ⟨by omega, by omega⟩ h1
  have hl := hr.len
  have hat := c_Row_at (p := po o) ⟨by omega, by omega⟩ hr
  obtain ⟨gr, r1, -, -, -⟩ := id hr
  have hg1 := h1.1.obj
  obtain ⟨p1, p2, p3⟩ := id hw
  repeat (refine wf rfl ?_; first | refine wq_iadd ?_ | refine wq_isub ?_ | refine wq_imul ?_ | refine wq_iinc rfl ?_ | refine wq_goto ?_ | refine wq_k rfl ?_ | refine wq_b rfl rfl ?_ | refine wq_getf (by assumption) rfl ?_ | refine wq_alen (by assumption) rfl ?_)
  refine wf rfl (wq_ge ⟨by omega, by omega⟩ ⟨by omega, by omega⟩ (fun c9 => by exfalso; omega) (fun _ => ?_))
  repeat (refine wf rfl ?_; first | refine wq_iadd ?_ | refine wq_isub ?_ | refine wq_imul ?_ | refine wq_iinc rfl ?_ | refine wq_goto ?_ | refine wq_k rfl ?_ | refine wq_b rfl rfl ?_ | refine wq_getf (by assumption) rfl ?_ | refine wq_alen (by assumption) rfl ?_)
  refine wf rfl (wq_iflt ⟨by omega, by omega⟩ (fun c9 => by exfalso; omega) (fun _ => ?_))
  repeat (refine wf rfl ?_; first | refine wq_iadd ?_ | refine wq_isub ?_ | refine wq_imul ?_ | refine wq_iinc rfl ?_ | refine wq_goto ?_ | refine wq_k rfl ?_ | refine wq_b rfl rfl ?_ | refine wq_getf (by assumption) rfl ?_ | refine wq_alen (by assumption) rfl ?_)
  refine wf rfl (wq_lt ⟨by omega, by omega⟩ ⟨by omega, by omega⟩ (fun _ => ?_) (fun c9 => by exfalso; omega))
  rw [show ((o + 1 : Nat) : Int) - 1 = (o : Int) by omega]
  repeat (refine wf rfl ?_; first | refine wq_iadd ?_ | refine wq_isub ?_ | refine wq_imul ?_ | refine wq_iinc rfl ?_ | refine wq_goto ?_ | refine wq_k rfl ?_ | refine wq_b rfl rfl ?_ | refine wq_getf (by assumption) rfl ?_ | refine wq_alen (by assumption) rfl ?_)
  refine wf rfl (wq_iald p2 ⟨by omega, by omega⟩ (by omega) (by omega) ?_)
  rw [show ((o : Int)).toNat = o by omega]
  refine wf rfl (wq_cv rfl rfl rfl hg1 (ha.mono ?_))
  rintro v M1 ⟨rfl, rfl⟩
  repeat (refine wf rfl ?_; first | refine wq_iadd ?_ | refine wq_isub ?_ | refine wq_imul ?_ | refine wq_iinc rfl ?_ | refine wq_goto ?_ | refine wq_k rfl ?_ | refine wq_b rfl rfl ?_ | refine wq_getf (by assumption) rfl ?_ | refine wq_alen (by assumption) rfl ?_)
  refine wf rfl (wq_iald p3 ⟨by omega, by omega⟩ (by omega) (by omega) ?_)
  rw [show ((o : Int)).toNat = o by omega]
  refine wf rfl (wq_cv rfl rfl rfl r1 (hat.mono ?_))
  rintro v M1 ⟨rfl, rfl⟩
  repeat (refine wf rfl ?_; first | refine wq_iadd ?_ | refine wq_isub ?_ | refine wq_imul ?_ | refine wq_iinc rfl ?_ | refine wq_goto ?_ | refine wq_k rfl ?_ | refine wq_b rfl rfl ?_ | refine wq_getf (by assumption) rfl ?_ | refine wq_alen (by assumption) rfl ?_)
  refine wf rfl (wq_iald p3 ⟨by omega, by omega⟩ (by omega) (by omega) ?_)
  rw [show ((o : Int)).toNat = o by omega]
  repeat (refine wf rfl ?_; first | refine wq_iadd ?_ | refine wq_isub ?_ | refine wq_imul ?_ | refine wq_iinc rfl ?_ | refine wq_goto ?_ | refine wq_k rfl ?_ | refine wq_b rfl rfl ?_ | refine wq_getf (by assumption) rfl ?_ | refine wq_alen (by assumption) rfl ?_)
  refine wf rfl (wq_iast p3 rfl ⟨by omega, by omega⟩ (by omega) (by omega) (fun M2 e2 f2 => ?_))
  rw [show ((o : Int)).toNat = o by omega] at e2
  have hst2 := fun (_ : True) => hk M2 (f1.tr (f2.mono (fun z hz => by unfold inW; omega))) ⟨f2.at (by omega) p1, f2.at (by omega) p2, e2⟩
  repeat' (first | (refine Wp.sub (hst2  ?_) ⟨rfl, rfl, rfl, rfl, rfl, trivial⟩ rfl) | (refine wf rfl ?_; first | refine wq_iadd ?_ | refine wq_isub ?_ | refine wq_imul ?_ | refine wq_iinc rfl ?_ | refine wq_goto ?_ | refine wq_k rfl ?_ | refine wq_b rfl rfl ?_ | refine wq_getf (by assumption) rfl ?_ | refine wq_alen (by assumption) rfl ?_ | fail | (refine wq_eq ⟨by omega, by omega⟩ ⟨by omega, by omega⟩ (fun _ => ?_) (fun _ => ?_) <;> try (exfalso; omega)) | (refine wq_ne ⟨by omega, by omega⟩ ⟨by omega, by omega⟩ (fun _ => ?_) (fun _ => ?_) <;> try (exfalso; omega)) | (refine wq_lt ⟨by omega, by omega⟩ ⟨by omega, by omega⟩ (fun _ => ?_) (fun _ => ?_) <;> try (exfalso; omega)) | (refine wq_ge ⟨by omega, by omega⟩ ⟨by omega, by omega⟩ (fun _ => ?_) (fun _ => ?_) <;> try (exfalso; omega)) | (refine wq_gt ⟨by omega, by omega⟩ ⟨by omega, by omega⟩ (fun _ => ?_) (fun _ => ?_) <;> try (exfalso; omega)) | (refine wq_le ⟨by omega, by omega⟩ ⟨by omega, by omega⟩ (fun _ => ?_) (fun _ => ?_) <;> try (exfalso; omega)) | (refine wq_ifeq ⟨by omega, by omega⟩ (fun _ => ?_) (fun _ => ?_) <;> try (exfalso; omega)) | (refine wq_ifne ⟨by omega, by omega⟩ (fun _ => ?_) (fun _ => ?_) <;> try (exfalso; omega)) | (refine wq_iflt ⟨by omega, by omega⟩ (fun _ => ?_) (fun _ => ?_) <;> try (exfalso; omega)) | (refine wq_ifge ⟨by omega, by omega⟩ (fun _ => ?_) (fun _ => ?_) <;> try (exfalso; omega)) | (refine wq_ifgt ⟨by omega, by omega⟩ (fun _ => ?_) (fun _ => ?_) <;> try (exfalso; omega)) | (refine wq_ifle ⟨by omega, by omega⟩ (fun _ => ?_) (fun _ => ?_) <;> try (exfalso; omega)) | refine wq_r rfl rfl rfl rfl rfl rfl ?_))
  trivial
theorem drop_rat {xs : List Int} {p : Int} (h0 : 0 ≤ p) (h1 : p < xs.length) : xs.drop p.toNat = rat xs p :: xs.drop (p + 1).toNat := drop_at h0 h1
theorem WkS.adv {ro po : Nat → Int} {o : Nat} (hS : WkS G ro po (o + 1)) (hp : po o < (spRow G (ro o)).length) : WkS G ro (upz po o (po o + 1)) (o + 1) := by
  obtain ⟨s1, s2⟩ := hS
  refine ⟨s1, fun i hi => ?_⟩
  obtain ⟨t1, t2, t3, t4⟩ := s2 i hi
  by_cases he : i = o
  · subst he
    rw [upz_at]
    exact ⟨t1, t2, by omega, by omega⟩
  · rw [upz_ne _ _ he]
    exact ⟨t1, t2, t3, t4⟩
/-- the top's symbol is below 8 + k -/
theorem lp_push (h : GV M g G p X lt dp us) (hd : w + 2 < g ∨ g + 59 ≤ w) (k : Nat) : ∀ (ro po : Nat → Int) (o : Nat) (st : Int) (M1 : PM), (Fr (inW w) M M1 ∧ Wk M1 w ro po ((o + 1 : Nat) : Int) ∧ WkS G ro po (o + 1) ∧ po o < (spRow G (ro o)).length ∧ rat (spRow G (ro o)) (po o) < 8 + (k : Int) ∧ 0 ≤ st ∧ st + k + 1 ≤ 78) →
    Wp k_X8_next (2, [(0, .ref w), (1, .ref g), (2, .int (I st))], [], M1) (nxtPost M w G (rem G ro po (o + 1))) := by
  have hN := h.1.le
  have hW := h.2.2.1
  induction k with
  | zero =>
    rintro ro po o st M1 ⟨f1, hw, hS, hp, hs, i1, i2⟩
    obtain ⟨t1, t2, t3, t4⟩ := hS.2 o (by omega)
    have hsy := spRow_sym hW (ro o) _ (rat_mem t3 hp)
    have hdr := drop_rat t3 hp
    generalize hss : rat (spRow G (ro o)) (po o) = s at *
    refine nxt_step h hd f1 hw hS (by omega) (fun M2 f2 hw2 => ?_)
    rw [hss]
    have hil := c_isLetter (M := M2) (x := s) ⟨by omega, by omega⟩
    rw [if_pos (by omega)] at hil
    repeat (refine wf rfl ?_; first | refine wq_iadd ?_ | refine wq_isub ?_ | refine wq_imul ?_ | refine wq_iinc rfl ?_ | refine wq_goto ?_ | refine wq_k rfl ?_ | refine wq_b rfl rfl ?_ | refine wq_getf (by assumption) rfl ?_ | refine wq_alen (by assumption) rfl ?_)
    refine wf rfl (wq_cs rfl rfl (hil.mono ?_))
    rintro v M2 ⟨rfl, rfl⟩
    repeat' (refine wf rfl ?_; first | refine wq_iadd ?_ | refine wq_isub ?_ | refine wq_imul ?_ | refine wq_iinc rfl ?_ | refine wq_goto ?_ | refine wq_k rfl ?_ | refine wq_b rfl rfl ?_ | refine wq_getf (by assumption) rfl ?_ | refine wq_alen (by assumption) rfl ?_ | (refine wq_eq ⟨by omega, by omega⟩ ⟨by omega, by omega⟩ (fun _ => ?_) (fun _ => ?_) <;> try (exfalso; omega)) | (refine wq_ne ⟨by omega, by omega⟩ ⟨by omega, by omega⟩ (fun _ => ?_) (fun _ => ?_) <;> try (exfalso; omega)) | (refine wq_lt ⟨by omega, by omega⟩ ⟨by omega, by omega⟩ (fun _ => ?_) (fun _ => ?_) <;> try (exfalso; omega)) | (refine wq_ge ⟨by omega, by omega⟩ ⟨by omega, by omega⟩ (fun _ => ?_) (fun _ => ?_) <;> try (exfalso; omega)) | (refine wq_gt ⟨by omega, by omega⟩ ⟨by omega, by omega⟩ (fun _ => ?_) (fun _ => ?_) <;> try (exfalso; omega)) | (refine wq_le ⟨by omega, by omega⟩ ⟨by omega, by omega⟩ (fun _ => ?_) (fun _ => ?_) <;> try (exfalso; omega)) | (refine wq_ifeq ⟨by omega, by omega⟩ (fun _ => ?_) (fun _ => ?_) <;> try (exfalso; omega)) | (refine wq_ifne ⟨by omega, by omega⟩ (fun _ => ?_) (fun _ => ?_) <;> try (exfalso; omega)) | (refine wq_iflt ⟨by omega, by omega⟩ (fun _ => ?_) (fun _ => ?_) <;> try (exfalso; omega)) | (refine wq_ifge ⟨by omega, by omega⟩ (fun _ => ?_) (fun _ => ?_) <;> try (exfalso; omega)) | (refine wq_ifgt ⟨by omega, by omega⟩ (fun _ => ?_) (fun _ => ?_) <;> try (exfalso; omega)) | (refine wq_ifle ⟨by omega, by omega⟩ (fun _ => ?_) (fun _ => ?_) <;> try (exfalso; omega)) | refine wq_r rfl rfl rfl rfl rfl rfl ?_)
    rw [rem, hdr, tel_cons, tel_letter (by omega)]
    refine ⟨rfl, f2, ro, upz po o (po o + 1), o + 1, hw2, hS.adv hp, ?_⟩
    rw [rem, upz_at, rem_congr o (ro' := ro) (po' := po) (fun i hi => ⟨rfl, upz_ne _ _ (by omega)⟩)]
    rfl
  | succ k ih =>
    rintro ro po o st M1 ⟨f1, hw, hS, hp, hs, i1, i2⟩
    obtain ⟨t1, t2, t3, t4⟩ := hS.2 o (by omega)
    have hsy := spRow_sym hW (ro o) _ (rat_mem t3 hp)
    have hlow : 0 ≤ ro o ∧ ro o < G.1.length → rat (spRow G (ro o)) (po o) < 8 + ro o := fun hr => (spRow_low hW hr _ (rat_mem t3 hp)).2
    have hdr := drop_rat t3 hp
    generalize hss : rat (spRow G (ro o)) (po o) = s at *
    by_cases hs8 : s < 8 + (k : Int)
    · exact ih ro po o st M1 ⟨f1, hw, hS, hp, by rw [hss]; exact hs8, i1, by omega⟩
    · refine nxt_step h hd f1 hw hS (by omega) (fun M2 f2 hw2 => ?_)
      rw [hss]
      have hil := c_isLetter (M := M2) (x := s) ⟨by omega, by omega⟩
      by_cases hl8 : s < 8
      · exfalso; omega
      · rw [if_neg (by omega)] at hil
        have h2 : Gm M2 g G.1.length p X G.2 lt dp us (wlG G) := h.1.fr f2 (fun z z1 z2 => by unfold inW; omega)
        have hir := c_Gr_isRule (k := s) ⟨by omega, by omega⟩ h2
        rw [if_pos (by omega)] at hir
        have hg2 := h2.obj
        have ho26 : o + 1 ≤ 26 := by
          rcases Nat.eq_zero_or_pos o with w | w
          · omega
          · have := t2 w
            have := hlow ⟨this.1, by omega⟩
            omega
        have hen := c_Walk_enter (r := s - 8) hw2 (by omega)
        rw [show (((o + 1 : Nat) : Int)).toNat = o + 1 by omega, show ((o + 1 : Nat) : Int) + 1 = ((o + 1 + 1 : Nat) : Int) by omega] at hen
        repeat (refine wf rfl ?_; first | refine wq_iadd ?_ | refine wq_isub ?_ | refine wq_imul ?_ | refine wq_iinc rfl ?_ | refine wq_goto ?_ | refine wq_k rfl ?_ | refine wq_b rfl rfl ?_ | refine wq_getf (by assumption) rfl ?_ | refine wq_alen (by assumption) rfl ?_)
        refine wf rfl (wq_cs rfl rfl (hil.mono ?_))
        rintro v M2 ⟨rfl, rfl⟩
        refine wf rfl (wq_ifeq ⟨by omega, by omega⟩ (fun _ => ?_) (fun c9 => absurd rfl c9))
        repeat (refine wf rfl ?_; first | refine wq_iadd ?_ | refine wq_isub ?_ | refine wq_imul ?_ | refine wq_iinc rfl ?_ | refine wq_goto ?_ | refine wq_k rfl ?_ | refine wq_b rfl rfl ?_ | refine wq_getf (by assumption) rfl ?_ | refine wq_alen (by assumption) rfl ?_)
        refine wf rfl (wq_cv rfl rfl rfl hg2 (hir.mono ?_))
        rintro v M2 ⟨rfl, rfl⟩
        refine wf rfl (wq_ifeq ⟨by omega, by omega⟩ (fun c9 => by exfalso; omega) (fun _ => ?_))
        repeat (refine wf rfl ?_; first | refine wq_iadd ?_ | refine wq_isub ?_ | refine wq_imul ?_ | refine wq_iinc rfl ?_ | refine wq_goto ?_ | refine wq_k rfl ?_ | refine wq_b rfl rfl ?_ | refine wq_getf (by assumption) rfl ?_ | refine wq_alen (by assumption) rfl ?_)
        refine wf rfl (wq_cv rfl rfl rfl hw2.1 (hen.mono ?_))
        rintro v M3 ⟨rfl, f3, hw3⟩
        have hj : (s - 8).toNat < G.1.length := by omega
        have esr : spRow G (s - 8) = xof G.1 (s - 8).toNat := if_pos (by omega)
        have hne := hW.2.2 (s - 8).toNat hj
        have hxs := hW.1 (s - 8).toNat hj
        have ero : upz ro (o + 1) (s - 8) (o + 1) = s - 8 := upz_at _ _ _
        have epo : upz (upz po o (po o + 1)) (o + 1) 0 (o + 1) = 0 := upz_at _ _ _
        have hS2 : WkS G (upz ro (o + 1) (s - 8)) (upz (upz po o (po o + 1)) (o + 1) 0) (o + 1 + 1) := by
          refine ⟨by omega, fun i hi => ?_⟩
          by_cases he : i = o + 1
          · subst he
            rw [ero, epo]
            refine ⟨fun z => by omega, fun _ => ⟨by omega, ?_⟩, by omega, by omega⟩
            rcases Nat.eq_zero_or_pos o with w | w
            · omega
            · have := t2 w
              have := hlow ⟨this.1, by omega⟩
              omega
          · rw [upz_ne _ _ he, upz_ne _ _ he]
            exact (hS.adv hp).2 i (by omega)
        have hrem : rem G (upz ro (o + 1) (s - 8)) (upz (upz po o (po o + 1)) (o + 1) 0) (o + 1 + 1) = rem G ro po (o + 1) := by
          rw [rem, ero, epo, esr, show (0 : Int).toNat = 0 from rfl, List.drop_zero]
          have e1 : upz ro (o + 1) (s - 8) o = ro o := upz_ne _ _ (by omega)
          have e2 : upz (upz po o (po o + 1)) (o + 1) 0 o = po o + 1 := by rw [upz_ne _ _ (by omega), upz_at]
          rw [rem, e1, e2]
          rw [rem, hdr, tel_cons, rem_congr o (ro' := ro) (po' := po) (fun i hi => ⟨upz_ne _ _ (by omega), by rw [upz_ne _ _ (by omega), upz_ne _ _ (by omega)]⟩)]
          rw [List.append_assoc]
          congr 1
          have e1 := tel_rule (X := xof G.1) hj
          rw [show (8 : Int) + (((s - 8).toNat : Nat) : Int) = s by omega] at e1
          rw [e1]
          exact tel_low (fun x hx => (hxs x hx).2) _ (by omega)
        have hst := fun (_ : True) => ih (upz ro (o + 1) (s - 8)) (upz (upz po o (po o + 1)) (o + 1) 0) (o + 1) (st + 1) M3 ⟨f2.tr f3, hw3, hS2, by rw [ero, epo, esr]; omega, by
          rw [ero, epo, esr]
          have := hxs _ (rat_mem (p := 0) (by omega) (show (0 : Int) < (xof G.1 (s - 8).toNat).length by omega))
          omega, by omega, by omega⟩
        rw [hrem] at hst
        repeat' (first | (refine Wp.sub (hst  ?_) ⟨rfl, rfl, rfl, trivial⟩ rfl) | (refine wf rfl ?_; first | refine wq_iadd ?_ | refine wq_isub ?_ | refine wq_imul ?_ | refine wq_iinc rfl ?_ | refine wq_goto ?_ | refine wq_k rfl ?_ | refine wq_b rfl rfl ?_ | refine wq_getf (by assumption) rfl ?_ | refine wq_alen (by assumption) rfl ?_ | fail | (refine wq_eq ⟨by omega, by omega⟩ ⟨by omega, by omega⟩ (fun _ => ?_) (fun _ => ?_) <;> try (exfalso; omega)) | (refine wq_ne ⟨by omega, by omega⟩ ⟨by omega, by omega⟩ (fun _ => ?_) (fun _ => ?_) <;> try (exfalso; omega)) | (refine wq_lt ⟨by omega, by omega⟩ ⟨by omega, by omega⟩ (fun _ => ?_) (fun _ => ?_) <;> try (exfalso; omega)) | (refine wq_ge ⟨by omega, by omega⟩ ⟨by omega, by omega⟩ (fun _ => ?_) (fun _ => ?_) <;> try (exfalso; omega)) | (refine wq_gt ⟨by omega, by omega⟩ ⟨by omega, by omega⟩ (fun _ => ?_) (fun _ => ?_) <;> try (exfalso; omega)) | (refine wq_le ⟨by omega, by omega⟩ ⟨by omega, by omega⟩ (fun _ => ?_) (fun _ => ?_) <;> try (exfalso; omega)) | (refine wq_ifeq ⟨by omega, by omega⟩ (fun _ => ?_) (fun _ => ?_) <;> try (exfalso; omega)) | (refine wq_ifne ⟨by omega, by omega⟩ (fun _ => ?_) (fun _ => ?_) <;> try (exfalso; omega)) | (refine wq_iflt ⟨by omega, by omega⟩ (fun _ => ?_) (fun _ => ?_) <;> try (exfalso; omega)) | (refine wq_ifge ⟨by omega, by omega⟩ (fun _ => ?_) (fun _ => ?_) <;> try (exfalso; omega)) | (refine wq_ifgt ⟨by omega, by omega⟩ (fun _ => ?_) (fun _ => ?_) <;> try (exfalso; omega)) | (refine wq_ifle ⟨by omega, by omega⟩ (fun _ => ?_) (fun _ => ?_) <;> try (exfalso; omega)) | refine wq_r rfl rfl rfl rfl rfl rfl ?_))
        trivial
theorem lp_pop (h : GV M g G p X lt dp us) (hd : w + 2 < g ∨ g + 59 ≤ w) (o : Nat) : ∀ (ro po : Nat → Int) (st : Int) (M1 : PM), (Fr (inW w) M M1 ∧ Wk M1 w ro po (o : Int) ∧ WkS G ro po o ∧ 0 ≤ st ∧ st + o + 28 ≤ 78) →
    Wp k_X8_next (2, [(0, .ref w), (1, .ref g), (2, .int (I st))], [], M1) (nxtPost M w G (rem G ro po o)) := by
  have hN := h.1.le
  have hW := h.2.2.1
  induction o with
  | zero =>
    rintro ro po st M1 ⟨f1, hw, hS, i1, i2⟩
    obtain ⟨p1, p2, p3⟩ := id hw
    repeat (refine wf rfl ?_; first | refine wq_iadd ?_ | refine wq_isub ?_ | refine wq_imul ?_ | refine wq_iinc rfl ?_ | refine wq_goto ?_ | refine wq_k rfl ?_ | refine wq_b rfl rfl ?_ | refine wq_getf (by assumption) rfl ?_ | refine wq_alen (by assumption) rfl ?_)
    refine wf rfl (wq_ge ⟨by omega, by omega⟩ ⟨by omega, by omega⟩ (fun c9 => by exfalso; omega) (fun _ => ?_))
    repeat (refine wf rfl ?_; first | refine wq_iadd ?_ | refine wq_isub ?_ | refine wq_imul ?_ | refine wq_iinc rfl ?_ | refine wq_goto ?_ | refine wq_k rfl ?_ | refine wq_b rfl rfl ?_ | refine wq_getf (by assumption) rfl ?_ | refine wq_alen (by assumption) rfl ?_)
    refine wf rfl (wq_iflt ⟨by omega, by omega⟩ (fun _ => ?_) (fun c9 => by exfalso; omega))
    repeat' (refine wf rfl ?_; first | refine wq_iadd ?_ | refine wq_isub ?_ | refine wq_imul ?_ | refine wq_iinc rfl ?_ | refine wq_goto ?_ | refine wq_k rfl ?_ | refine wq_b rfl rfl ?_ | refine wq_getf (by assumption) rfl ?_ | refine wq_alen (by assumption) rfl ?_ | (refine wq_eq ⟨by omega, by omega⟩ ⟨by omega, by omega⟩ (fun _ => ?_) (fun _ => ?_) <;> try (exfalso; omega)) | (refine wq_ne ⟨by omega, by omega⟩ ⟨by omega, by omega⟩ (fun _ => ?_) (fun _ => ?_) <;> try (exfalso; omega)) | (refine wq_lt ⟨by omega, by omega⟩ ⟨by omega, by omega⟩ (fun _ => ?_) (fun _ => ?_) <;> try (exfalso; omega)) | (refine wq_ge ⟨by omega, by omega⟩ ⟨by omega, by omega⟩ (fun _ => ?_) (fun _ => ?_) <;> try (exfalso; omega)) | (refine wq_gt ⟨by omega, by omega⟩ ⟨by omega, by omega⟩ (fun _ => ?_) (fun _ => ?_) <;> try (exfalso; omega)) | (refine wq_le ⟨by omega, by omega⟩ ⟨by omega, by omega⟩ (fun _ => ?_) (fun _ => ?_) <;> try (exfalso; omega)) | (refine wq_ifeq ⟨by omega, by omega⟩ (fun _ => ?_) (fun _ => ?_) <;> try (exfalso; omega)) | (refine wq_ifne ⟨by omega, by omega⟩ (fun _ => ?_) (fun _ => ?_) <;> try (exfalso; omega)) | (refine wq_iflt ⟨by omega, by omega⟩ (fun _ => ?_) (fun _ => ?_) <;> try (exfalso; omega)) | (refine wq_ifge ⟨by omega, by omega⟩ (fun _ => ?_) (fun _ => ?_) <;> try (exfalso; omega)) | (refine wq_ifgt ⟨by omega, by omega⟩ (fun _ => ?_) (fun _ => ?_) <;> try (exfalso; omega)) | (refine wq_ifle ⟨by omega, by omega⟩ (fun _ => ?_) (fun _ => ?_) <;> try (exfalso; omega)) | refine wq_r rfl rfl rfl rfl rfl rfl ?_)
    exact ⟨rfl, f1, ro, po, 0, hw, hS, rfl⟩
  | succ o ih =>
    rintro ro po st M1 ⟨f1, hw, hS, i1, i2⟩
    obtain ⟨s1, s2⟩ := id hS
    obtain ⟨t1, t2, t3, t4⟩ := s2 o (by omega)
    by_cases hp : po o < (spRow G (ro o)).length
    · have hsy := spRow_sym hW (ro o) _ (rat_mem t3 hp)
      exact lp_push h hd 26 ro po o st M1 ⟨f1, hw, hS, hp, by omega, i1, by omega⟩
    · have hd0 : (spRow G (ro o)).drop (po o).toNat = [] := List.drop_eq_nil_of_le (by omega)
      have hout := rat_out (xs := spRow G (ro o)) (p := po o) (Or.inr (by omega))
      refine nxt_step h hd f1 hw hS (by omega) (fun M2 f2 hw2 => ?_)
      rw [hout]
      have hil := c_isLetter (M := M2) (x := -6) ⟨by omega, by omega⟩
      rw [if_neg (by omega)] at hil
      have h2 : Gm M2 g G.1.length p X G.2 lt dp us (wlG G) := h.1.fr f2 (fun z z1 z2 => by unfold inW; omega)
      have hir := c_Gr_isRule (k := -6) ⟨by omega, by omega⟩ h2
      rw [if_neg (by omega)] at hir
      have hg2 := h2.obj
      obtain ⟨p1, p2, p3⟩ := id hw2
      repeat (refine wf rfl ?_; first | refine wq_iadd ?_ | refine wq_isub ?_ | refine wq_imul ?_ | refine wq_iinc rfl ?_ | refine wq_goto ?_ | refine wq_k rfl ?_ | refine wq_b rfl rfl ?_ | refine wq_getf (by assumption) rfl ?_ | refine wq_alen (by assumption) rfl ?_)
      refine wf rfl (wq_cs rfl rfl (hil.mono ?_))
      rintro v M2 ⟨rfl, rfl⟩
      refine wf rfl (wq_ifeq ⟨by omega, by omega⟩ (fun _ => ?_) (fun c9 => absurd rfl c9))
      repeat (refine wf rfl ?_; first | refine wq_iadd ?_ | refine wq_isub ?_ | refine wq_imul ?_ | refine wq_iinc rfl ?_ | refine wq_goto ?_ | refine wq_k rfl ?_ | refine wq_b rfl rfl ?_ | refine wq_getf (by assumption) rfl ?_ | refine wq_alen (by assumption) rfl ?_)
      refine wf rfl (wq_cv rfl rfl rfl hg2 (hir.mono ?_))
      rintro v M2 ⟨rfl, rfl⟩
      refine wf rfl (wq_ifeq ⟨by omega, by omega⟩ (fun _ => ?_) (fun c9 => absurd rfl c9))
      repeat (refine wf rfl ?_; first | refine wq_iadd ?_ | refine wq_isub ?_ | refine wq_imul ?_ | refine wq_iinc rfl ?_ | refine wq_goto ?_ | refine wq_k rfl ?_ | refine wq_b rfl rfl ?_ | refine wq_getf (by assumption) rfl ?_ | refine wq_alen (by assumption) rfl ?_)
      refine wf rfl (wq_putf p1 rfl (fun M3 e3 f3 => ?_))
      have hw3 : Wk M3 w ro (upz po o (po o + 1)) (o : Int) := ⟨by rw [show (o : Int) = ((o + 1 : Nat) : Int) - 1 by omega]; exact e3, f3.at (by omega) p2, f3.at (by omega) p3⟩
      have hS3 : WkS G ro (upz po o (po o + 1)) o := ⟨by omega, fun i hi => by rw [upz_ne _ _ (by omega)]; exact s2 i (by omega)⟩
      have hst := fun (_ : True) => ih ro (upz po o (po o + 1)) (st + 1) M3 ⟨f2.tr (f3.mono (fun z hz => by unfold inW; omega)), hw3, hS3, by omega, by omega⟩
      rw [rem_congr o (ro' := ro) (po' := po) (fun i hi => ⟨rfl, upz_ne _ _ (by omega)⟩)] at hst
      rw [rem, hd0, tel_nil, List.nil_append]
      repeat' (first | (refine Wp.sub (hst  ?_) ⟨rfl, rfl, rfl, trivial⟩ rfl) | (refine wf rfl ?_; first | refine wq_iadd ?_ | refine wq_isub ?_ | refine wq_imul ?_ | refine wq_iinc rfl ?_ | refine wq_goto ?_ | refine wq_k rfl ?_ | refine wq_b rfl rfl ?_ | refine wq_getf (by assumption) rfl ?_ | refine wq_alen (by assumption) rfl ?_ | fail | (refine wq_eq ⟨by omega, by omega⟩ ⟨by omega, by omega⟩ (fun _ => ?_) (fun _ => ?_) <;> try (exfalso; omega)) | (refine wq_ne ⟨by omega, by omega⟩ ⟨by omega, by omega⟩ (fun _ => ?_) (fun _ => ?_) <;> try (exfalso; omega)) | (refine wq_lt ⟨by omega, by omega⟩ ⟨by omega, by omega⟩ (fun _ => ?_) (fun _ => ?_) <;> try (exfalso; omega)) | (refine wq_ge ⟨by omega, by omega⟩ ⟨by omega, by omega⟩ (fun _ => ?_) (fun _ => ?_) <;> try (exfalso; omega)) | (refine wq_gt ⟨by omega, by omega⟩ ⟨by omega, by omega⟩ (fun _ => ?_) (fun _ => ?_) <;> try (exfalso; omega)) | (refine wq_le ⟨by omega, by omega⟩ ⟨by omega, by omega⟩ (fun _ => ?_) (fun _ => ?_) <;> try (exfalso; omega)) | (refine wq_ifeq ⟨by omega, by omega⟩ (fun _ => ?_) (fun _ => ?_) <;> try (exfalso; omega)) | (refine wq_ifne ⟨by omega, by omega⟩ (fun _ => ?_) (fun _ => ?_) <;> try (exfalso; omega)) | (refine wq_iflt ⟨by omega, by omega⟩ (fun _ => ?_) (fun _ => ?_) <;> try (exfalso; omega)) | (refine wq_ifge ⟨by omega, by omega⟩ (fun _ => ?_) (fun _ => ?_) <;> try (exfalso; omega)) | (refine wq_ifgt ⟨by omega, by omega⟩ (fun _ => ?_) (fun _ => ?_) <;> try (exfalso; omega)) | (refine wq_ifle ⟨by omega, by omega⟩ (fun _ => ?_) (fun _ => ?_) <;> try (exfalso; omega)) | refine wq_r rfl rfl rfl rfl rfl rfl ?_))
      trivial
theorem c_Walk_next {ro po : Nat → Int} {o : Nat} (h : GV M g G p X lt dp us) (hd : w + 2 < g ∨ g + 59 ≤ w) (hw : Wk M w ro po (o : Int)) (hS : WkS G ro po o) : Wm 88 [.ref w, .ref g] M (nxtPost M w G (rem G ro po o)) := by
  have h27 := hS.1
  have hst := fun (_ : True) => lp_pop h hd o ro po 0 M ⟨Fr.rf, hw, hS, by omega, by omega⟩
  refine wm_in (lv := _) rfl rfl rfl ?_
  repeat' (first | (refine Wp.sub (hst  ?_) ⟨rfl, rfl, rfl, trivial⟩ rfl) | (refine wf rfl ?_; first | refine wq_iadd ?_ | refine wq_isub ?_ | refine wq_imul ?_ | refine wq_iinc rfl ?_ | refine wq_goto ?_ | refine wq_k rfl ?_ | refine wq_b rfl rfl ?_ | refine wq_getf (by assumption) rfl ?_ | refine wq_alen (by assumption) rfl ?_ | fail | (refine wq_eq ⟨by omega, by omega⟩ ⟨by omega, by omega⟩ (fun _ => ?_) (fun _ => ?_) <;> try (exfalso; omega)) | (refine wq_ne ⟨by omega, by omega⟩ ⟨by omega, by omega⟩ (fun _ => ?_) (fun _ => ?_) <;> try (exfalso; omega)) | (refine wq_lt ⟨by omega, by omega⟩ ⟨by omega, by omega⟩ (fun _ => ?_) (fun _ => ?_) <;> try (exfalso; omega)) | (refine wq_ge ⟨by omega, by omega⟩ ⟨by omega, by omega⟩ (fun _ => ?_) (fun _ => ?_) <;> try (exfalso; omega)) | (refine wq_gt ⟨by omega, by omega⟩ ⟨by omega, by omega⟩ (fun _ => ?_) (fun _ => ?_) <;> try (exfalso; omega)) | (refine wq_le ⟨by omega, by omega⟩ ⟨by omega, by omega⟩ (fun _ => ?_) (fun _ => ?_) <;> try (exfalso; omega)) | (refine wq_ifeq ⟨by omega, by omega⟩ (fun _ => ?_) (fun _ => ?_) <;> try (exfalso; omega)) | (refine wq_ifne ⟨by omega, by omega⟩ (fun _ => ?_) (fun _ => ?_) <;> try (exfalso; omega)) | (refine wq_iflt ⟨by omega, by omega⟩ (fun _ => ?_) (fun _ => ?_) <;> try (exfalso; omega)) | (refine wq_ifge ⟨by omega, by omega⟩ (fun _ => ?_) (fun _ => ?_) <;> try (exfalso; omega)) | (refine wq_ifgt ⟨by omega, by omega⟩ (fun _ => ?_) (fun _ => ?_) <;> try (exfalso; omega)) | (refine wq_ifle ⟨by omega, by omega⟩ (fun _ => ?_) (fun _ => ?_) <;> try (exfalso; omega)) | refine wq_r rfl rfl rfl rfl rfl rfl ?_))
  trivial
theorem rem_start {ro po : Nat → Int} : rem G (upz ro 0 (-6)) (upz po 0 0) 1 = wordG G := by
  rw [rem, rem, upz_at, upz_at, List.append_nil]
  rfl
theorem WkS_start {ro po : Nat → Int} : WkS G (upz ro 0 (-6)) (upz po 0 0) 1 := by
  refine ⟨by omega, fun i hi => ?_⟩
  have : i = 0 := by omega
  subst this
  rw [upz_at, upz_at]
  exact ⟨fun _ => rfl, fun z => by omega, by omega, by omega⟩
end NXT
