/-! The Model's calls that change a letter; undo, slots. -/
theorem posL_ge {f : Int → Int} (hf : ∀ s, 0 ≤ f s) : ∀ (xs : List Int) (q : Int), sumL f xs ≤ q → posL f xs q = xs.length
  | [], _, _ => by rw [posL]; rfl
  | x :: r, q, h => by
    rw [sumL] at h
    have hn := sumL_nn f r (fun s _ => hf s)
    rw [posL, if_neg (by omega), posL_ge hf r (q - f x) (by omega), List.length_cons]
    omega
section MD14
variable {M : PM} {m : Nat} {S : ST}
theorem c_Md_failS {P : Nat → Prop} {M1 : PM} {er : Int} {fk : Nat → Int} (h : MS M m S) (f1 : Fr P M M1) (hP : ∀ q, P q → inM m q) (p4 : ¬ P (m + 4)) (p5 : ¬ P (m + 5)) (p6 : ¬ P (m + 6)) (p14 : ¬ P (m + 14)) (hO : ∃ si re sp, MO M1 m (S.2.2.1.length : Nat) si re (S.2.1.length : Nat) sp) (hK : M1[m + 2]? = some (aJ 2188 fk)) (hGk : Ga fk 0 S.1) (hG : ∃ f, M1[m + 1]? = some (aJ 2188 f)) : Wm 152 [.ref m, .int (I er)] M1 (fun v M' => v = some (.int (I er)) ∧ Fr (inM m) M M' ∧ MS M' m S) := by
  obtain ⟨-, a, b, c, d, e⟩ := h
  obtain ⟨si, re, sp, hO⟩ := hO
  obtain ⟨f, hG⟩ := hG
  refine wm_in (lv := _) rfl rfl rfl ?_
  repeat (refine wf rfl ?_; first | refine wq_iadd ?_ | refine wq_isub ?_ | refine wq_imul ?_ | refine wq_iinc rfl ?_ | refine wq_goto ?_ | refine wq_k rfl ?_ | refine wq_b rfl rfl ?_ | refine wq_getf (by assumption) rfl ?_ | refine wq_alen (by assumption) rfl ?_)
  refine wf rfl (wq_cs rfl rfl ((c_Md_copy rfl hK hG (by omega)).mono ?_))
  rintro v M2 ⟨rfl, f2, g, k1, k2⟩
  repeat' (refine wf rfl ?_; first | refine wq_iadd ?_ | refine wq_isub ?_ | refine wq_imul ?_ | refine wq_iinc rfl ?_ | refine wq_goto ?_ | refine wq_k rfl ?_ | refine wq_b rfl rfl ?_ | refine wq_getf (by assumption) rfl ?_ | refine wq_alen (by assumption) rfl ?_ | (refine wq_eq ⟨by omega, by omega⟩ ⟨by omega, by omega⟩ (fun _ => ?_) (fun _ => ?_) <;> try (exfalso; omega)) | (refine wq_ne ⟨by omega, by omega⟩ ⟨by omega, by omega⟩ (fun _ => ?_) (fun _ => ?_) <;> try (exfalso; omega)) | (refine wq_lt ⟨by omega, by omega⟩ ⟨by omega, by omega⟩ (fun _ => ?_) (fun _ => ?_) <;> try (exfalso; omega)) | (refine wq_ge ⟨by omega, by omega⟩ ⟨by omega, by omega⟩ (fun _ => ?_) (fun _ => ?_) <;> try (exfalso; omega)) | (refine wq_gt ⟨by omega, by omega⟩ ⟨by omega, by omega⟩ (fun _ => ?_) (fun _ => ?_) <;> try (exfalso; omega)) | (refine wq_le ⟨by omega, by omega⟩ ⟨by omega, by omega⟩ (fun _ => ?_) (fun _ => ?_) <;> try (exfalso; omega)) | (refine wq_ifeq ⟨by omega, by omega⟩ (fun _ => ?_) (fun _ => ?_) <;> try (exfalso; omega)) | (refine wq_ifne ⟨by omega, by omega⟩ (fun _ => ?_) (fun _ => ?_) <;> try (exfalso; omega)) | (refine wq_iflt ⟨by omega, by omega⟩ (fun _ => ?_) (fun _ => ?_) <;> try (exfalso; omega)) | (refine wq_ifge ⟨by omega, by omega⟩ (fun _ => ?_) (fun _ => ?_) <;> try (exfalso; omega)) | (refine wq_ifgt ⟨by omega, by omega⟩ (fun _ => ?_) (fun _ => ?_) <;> try (exfalso; omega)) | (refine wq_ifle ⟨by omega, by omega⟩ (fun _ => ?_) (fun _ => ?_) <;> try (exfalso; omega)) | refine wq_r rfl rfl rfl rfl rfl rfl ?_)
  exact ⟨rfl, (f1.mono hP).tr (f2.mono (fun q hq => by unfold inM; omega)), ⟨si, re, sp, f2.at (by omega) hO⟩, ⟨g, k1, hGk.move (fun k hk => by rw [Nat.zero_add, k2 k hk])⟩, (b.fr f1 p14).fr f2 (by omega), (c.fr f1 p4).fr f2 (by omega), (d.fr f1 p5 p6).fr f2 (by omega) (by omega), (e.fr f1).fr f2⟩
/-- the main row made anew in place -/
theorem Ga.main {f g : Nat → Int} {G : GS} {mn : List Int} (h : Ga f 0 G) (h1 : g 2187 = f 2187) (h2 : ∀ q, q < 2106 → g q = f q) (h3 : Rf g 2106 mn) : Ga g 0 (G.1, mn) := by
  obtain ⟨z1, z2, z3, z4⟩ := h
  rw [Nat.zero_add] at z1
  refine ⟨by rw [Nat.zero_add, h1, z1], z2, fun j hj => (z3 j hj).congr (fun q q1 q2 => ?_), by rw [Nat.zero_add]; exact h3⟩
  have hj : j < G.1.length := hj
  exact h2 q (by omega)
theorem c_Md_edit {p l : Int} (hp : inR p) (hl : inR l) (h : MS M m S) (hW : WFG S.1) : Wm 163 [.ref m, .int (I p), .int (I l)] M (fun v M' => v = some (.int (I (spEdit p l S).1)) ∧ Fr (inM m) M M' ∧ MS M' m (spEdit p l S).2) := by
  obtain ⟨hp1, hp2⟩ := id hp
  obtain ⟨hl1, hl2⟩ := id hl
  have hN := h.mr.le
  have hwb := wlG_bd hW
  obtain ⟨⟨si, re, sp, hO⟩, ⟨f, g1, g2⟩, -, -, -, pe⟩ := id h
  obtain ⟨⟨fk, w1⟩, -⟩ := id pe
  unfold spEdit
  refine wm_in (lv := _) rfl rfl rfl ?_
  repeat (refine wf rfl ?_; first | refine wq_iadd ?_ | refine wq_isub ?_ | refine wq_imul ?_ | refine wq_iinc rfl ?_ | refine wq_goto ?_ | refine wq_k rfl ?_ | refine wq_b rfl rfl ?_ | refine wq_getf (by assumption) rfl ?_ | refine wq_alen (by assumption) rfl ?_)
  refine wf rfl (wq_cv rfl rfl rfl hO ((c_Md_wordLong h.mr hW pe.2.2.1).mono ?_))
  rintro v M1 ⟨rfl, f1, hT1⟩
  have hO1 : MO M1 m _ si re _ sp := f1.at (by omega) hO
  repeat (refine wf rfl ?_; first | refine wq_iadd ?_ | refine wq_isub ?_ | refine wq_imul ?_ | refine wq_iinc rfl ?_ | refine wq_goto ?_ | refine wq_k rfl ?_ | refine wq_b rfl rfl ?_ | refine wq_getf (by assumption) rfl ?_ | refine wq_alen (by assumption) rfl ?_)
  refine wf rfl (wq_cs rfl rfl ((c_in0 hp (w := wlG S.1) ⟨by omega, by omega⟩).mono ?_))
  rintro v M1 ⟨rfl, rfl⟩
  by_cases hq : 0 ≤ p ∧ p < wlG S.1
  · rw [if_pos hq, if_pos hq]
    refine wf rfl (wq_ifne ⟨by omega, by omega⟩ (fun _ => ?_) (fun c9 => by exfalso; omega))
    repeat (refine wf rfl ?_; first | refine wq_iadd ?_ | refine wq_isub ?_ | refine wq_imul ?_ | refine wq_iinc rfl ?_ | refine wq_goto ?_ | refine wq_k rfl ?_ | refine wq_b rfl rfl ?_ | refine wq_getf (by assumption) rfl ?_ | refine wq_alen (by assumption) rfl ?_)
    refine wf rfl (wq_cs rfl rfl ((c_inC (a := 0) (b := 7) hl (by omega) (by omega)).mono ?_))
    rintro v M1 ⟨rfl, rfl⟩
    by_cases hc : 0 ≤ l ∧ l < 8
    · rw [if_pos hc, if_pos (by omega)]
      refine wf rfl (wq_ifne ⟨by omega, by omega⟩ (fun _ => ?_) (fun c9 => by exfalso; omega))
      have g11 := f1.at (by omega) g1
      repeat (refine wf rfl ?_; first | refine wq_iadd ?_ | refine wq_isub ?_ | refine wq_imul ?_ | refine wq_iinc rfl ?_ | refine wq_goto ?_ | refine wq_k rfl ?_ | refine wq_b rfl rfl ?_ | refine wq_getf (by assumption) rfl ?_ | refine wq_alen (by assumption) rfl ?_)
      refine wf rfl (wq_cs rfl rfl ((c_Md_copy rfl g11 (f1.at (by omega) w1) (by omega)).mono ?_))
      rintro v M2 ⟨rfl, f2, g, k1, k2⟩
      have hGk : Ga g 0 S.1 := g2.move (fun k hk => by rw [Nat.zero_add, k2 k hk])
      have f12 := f1.tr2 f2
      have h2 : Mr M2 m S.1 := h.mr.fr f12 (by omega) (by omega)
      have hO2 : MO M2 m _ si re _ sp := f2.at (by omega) hO1
      repeat (refine wf rfl ?_; first | refine wq_iadd ?_ | refine wq_isub ?_ | refine wq_imul ?_ | refine wq_iinc rfl ?_ | refine wq_goto ?_ | refine wq_k rfl ?_ | refine wq_b rfl rfl ?_ | refine wq_getf (by assumption) rfl ?_ | refine wq_alen (by assumption) rfl ?_)
      refine wf rfl (wq_cv rfl rfl rfl hO2 ((c_Md_opensTo hq h2 hO2 hW (f12.arr pe.2.2.1)).mono ?_))
      rintro v M3 ⟨f3, ⟨mn2, z, re', o1, rfl, o2, o3, o4, o5, o6, o7⟩ | ⟨o1, rfl, si', re', mn2, o6, o5⟩⟩
      · have f13 := f12.tr2 f3
        have eo : opn S.1 p = some (mn2, z) := o1
        rw [eo]
        dsimp only
        have hml := o5.ml
        dsimp only at hml
        have hat := c_Md_at (p := z) o5 (vrM _) o2 (by rw [rwM]; exact o3)
        rw [rwM] at hat
        obtain ⟨-, f', a1, a2⟩ := id o5
        refine wf rfl (wq_ifne ⟨by omega, by omega⟩ (fun _ => ?_) (fun c9 => by exfalso; omega))
        repeat (refine wf rfl ?_; first | refine wq_iadd ?_ | refine wq_isub ?_ | refine wq_imul ?_ | refine wq_iinc rfl ?_ | refine wq_goto ?_ | refine wq_k rfl ?_ | refine wq_b rfl rfl ?_ | refine wq_getf (by assumption) rfl ?_ | refine wq_alen (by assumption) rfl ?_)
        refine wf rfl (wq_cv rfl rfl rfl o6 (hat.mono ?_))
        rintro v M3 ⟨rfl, rfl⟩
        repeat (refine wf rfl ?_; first | refine wq_iadd ?_ | refine wq_isub ?_ | refine wq_imul ?_ | refine wq_iinc rfl ?_ | refine wq_goto ?_ | refine wq_k rfl ?_ | refine wq_b rfl rfl ?_ | refine wq_getf (by assumption) rfl ?_ | refine wq_alen (by assumption) rfl ?_)
        refine wf rfl (wq_iast a1 rfl ⟨by omega, by omega⟩ (by omega) (by omega) (fun M4 e4 f4 => ?_))
        have hO4 : MO M4 m _ z re' _ sp := f4.at (by omega) o6
        have f14 := f13.tr2 f4
        have hGA : GA M4 m (S.1.1, rset mn2 z l) := by
          refine ⟨_, e4, a2.main (mn := rset mn2 z l) ?_ ?_ ?_⟩
          · rw [upz_ne _ _ (by omega)]
          · exact fun q hq => upz_ne _ _ (by omega)
          · have a3 := a2.2.2.2
            rw [Nat.zero_add] at a3
            obtain ⟨y1, y2, y3⟩ := a3
            dsimp only at y1 y2 y3
            unfold rset
            rw [if_neg (by omega)]
            refine ⟨by rw [upz_ne _ _ (by omega), y1, List.length_set], by rw [List.length_set]; exact y2, fun k hk => ?_⟩
            rw [List.length_set] at hk
            by_cases he : k = z.toNat
            · subst he
              rw [List.getElem?_set_self hk, show (2107 + z).toNat = 2106 + 1 + z.toNat by omega, upz_at]
            · rw [List.getElem?_set_ne (fun z => he z.symm), upz_ne _ _ (by omega)]
              exact y3 k hk
        repeat (refine wf rfl ?_; first | refine wq_iadd ?_ | refine wq_isub ?_ | refine wq_imul ?_ | refine wq_iinc rfl ?_ | refine wq_goto ?_ | refine wq_k rfl ?_ | refine wq_b rfl rfl ?_ | refine wq_getf (by assumption) rfl ?_ | refine wq_alen (by assumption) rfl ?_)
        refine wf rfl (wq_cv rfl rfl rfl hO4 ((c_Md_chg h f14 (fun q hq => by unfold inM; omega) (by omega) (by omega) (by omega) (by omega) ⟨z, re', sp, hO4⟩ (f4.at (by omega) (f3.at (by omega) k1)) hGk hGA).mono ?_))
        rintro v M5 ⟨rfl, f5, h5⟩
        repeat' (refine wf rfl ?_; first | refine wq_iadd ?_ | refine wq_isub ?_ | refine wq_imul ?_ | refine wq_iinc rfl ?_ | refine wq_goto ?_ | refine wq_k rfl ?_ | refine wq_b rfl rfl ?_ | refine wq_getf (by assumption) rfl ?_ | refine wq_alen (by assumption) rfl ?_ | (refine wq_eq ⟨by omega, by omega⟩ ⟨by omega, by omega⟩ (fun _ => ?_) (fun _ => ?_) <;> try (exfalso; omega)) | (refine wq_ne ⟨by omega, by omega⟩ ⟨by omega, by omega⟩ (fun _ => ?_) (fun _ => ?_) <;> try (exfalso; omega)) | (refine wq_lt ⟨by omega, by omega⟩ ⟨by omega, by omega⟩ (fun _ => ?_) (fun _ => ?_) <;> try (exfalso; omega)) | (refine wq_ge ⟨by omega, by omega⟩ ⟨by omega, by omega⟩ (fun _ => ?_) (fun _ => ?_) <;> try (exfalso; omega)) | (refine wq_gt ⟨by omega, by omega⟩ ⟨by omega, by omega⟩ (fun _ => ?_) (fun _ => ?_) <;> try (exfalso; omega)) | (refine wq_le ⟨by omega, by omega⟩ ⟨by omega, by omega⟩ (fun _ => ?_) (fun _ => ?_) <;> try (exfalso; omega)) | (refine wq_ifeq ⟨by omega, by omega⟩ (fun _ => ?_) (fun _ => ?_) <;> try (exfalso; omega)) | (refine wq_ifne ⟨by omega, by omega⟩ (fun _ => ?_) (fun _ => ?_) <;> try (exfalso; omega)) | (refine wq_iflt ⟨by omega, by omega⟩ (fun _ => ?_) (fun _ => ?_) <;> try (exfalso; omega)) | (refine wq_ifge ⟨by omega, by omega⟩ (fun _ => ?_) (fun _ => ?_) <;> try (exfalso; omega)) | (refine wq_ifgt ⟨by omega, by omega⟩ (fun _ => ?_) (fun _ => ?_) <;> try (exfalso; omega)) | (refine wq_ifle ⟨by omega, by omega⟩ (fun _ => ?_) (fun _ => ?_) <;> try (exfalso; omega)) | refine wq_r rfl rfl rfl rfl rfl rfl ?_)
        exact ⟨rfl, f5, h5⟩
      · have f13 := f12.tr2 f3
        have eo : opn S.1 p = none := o1
        rw [eo]
        dsimp only
        obtain ⟨-, f', a1, a2⟩ := id o5
        refine wf rfl (wq_ifne ⟨by omega, by omega⟩ (fun c9 => absurd rfl c9) (fun _ => ?_))
        repeat (refine wf rfl ?_; first | refine wq_iadd ?_ | refine wq_isub ?_ | refine wq_imul ?_ | refine wq_iinc rfl ?_ | refine wq_goto ?_ | refine wq_k rfl ?_ | refine wq_b rfl rfl ?_ | refine wq_getf (by assumption) rfl ?_ | refine wq_alen (by assumption) rfl ?_)
        refine wf rfl (wq_cv rfl rfl rfl o6 ((c_Md_failS h f13 (fun q hq => by unfold inM; omega) (by omega) (by omega) (by omega) (by omega) ⟨si', re', sp, o6⟩ (f3.at (by omega) k1) hGk ⟨f', a1⟩).mono ?_))
        rintro v M5 ⟨rfl, f5, h5⟩
        repeat' (refine wf rfl ?_; first | refine wq_iadd ?_ | refine wq_isub ?_ | refine wq_imul ?_ | refine wq_iinc rfl ?_ | refine wq_goto ?_ | refine wq_k rfl ?_ | refine wq_b rfl rfl ?_ | refine wq_getf (by assumption) rfl ?_ | refine wq_alen (by assumption) rfl ?_ | (refine wq_eq ⟨by omega, by omega⟩ ⟨by omega, by omega⟩ (fun _ => ?_) (fun _ => ?_) <;> try (exfalso; omega)) | (refine wq_ne ⟨by omega, by omega⟩ ⟨by omega, by omega⟩ (fun _ => ?_) (fun _ => ?_) <;> try (exfalso; omega)) | (refine wq_lt ⟨by omega, by omega⟩ ⟨by omega, by omega⟩ (fun _ => ?_) (fun _ => ?_) <;> try (exfalso; omega)) | (refine wq_ge ⟨by omega, by omega⟩ ⟨by omega, by omega⟩ (fun _ => ?_) (fun _ => ?_) <;> try (exfalso; omega)) | (refine wq_gt ⟨by omega, by omega⟩ ⟨by omega, by omega⟩ (fun _ => ?_) (fun _ => ?_) <;> try (exfalso; omega)) | (refine wq_le ⟨by omega, by omega⟩ ⟨by omega, by omega⟩ (fun _ => ?_) (fun _ => ?_) <;> try (exfalso; omega)) | (refine wq_ifeq ⟨by omega, by omega⟩ (fun _ => ?_) (fun _ => ?_) <;> try (exfalso; omega)) | (refine wq_ifne ⟨by omega, by omega⟩ (fun _ => ?_) (fun _ => ?_) <;> try (exfalso; omega)) | (refine wq_iflt ⟨by omega, by omega⟩ (fun _ => ?_) (fun _ => ?_) <;> try (exfalso; omega)) | (refine wq_ifge ⟨by omega, by omega⟩ (fun _ => ?_) (fun _ => ?_) <;> try (exfalso; omega)) | (refine wq_ifgt ⟨by omega, by omega⟩ (fun _ => ?_) (fun _ => ?_) <;> try (exfalso; omega)) | (refine wq_ifle ⟨by omega, by omega⟩ (fun _ => ?_) (fun _ => ?_) <;> try (exfalso; omega)) | refine wq_r rfl rfl rfl rfl rfl rfl ?_)
        exact ⟨rfl, f5, h5⟩
    · rw [if_neg hc, if_neg (by omega)]
      repeat' (refine wf rfl ?_; first | refine wq_iadd ?_ | refine wq_isub ?_ | refine wq_imul ?_ | refine wq_iinc rfl ?_ | refine wq_goto ?_ | refine wq_k rfl ?_ | refine wq_b rfl rfl ?_ | refine wq_getf (by assumption) rfl ?_ | refine wq_alen (by assumption) rfl ?_ | (refine wq_eq ⟨by omega, by omega⟩ ⟨by omega, by omega⟩ (fun _ => ?_) (fun _ => ?_) <;> try (exfalso; omega)) | (refine wq_ne ⟨by omega, by omega⟩ ⟨by omega, by omega⟩ (fun _ => ?_) (fun _ => ?_) <;> try (exfalso; omega)) | (refine wq_lt ⟨by omega, by omega⟩ ⟨by omega, by omega⟩ (fun _ => ?_) (fun _ => ?_) <;> try (exfalso; omega)) | (refine wq_ge ⟨by omega, by omega⟩ ⟨by omega, by omega⟩ (fun _ => ?_) (fun _ => ?_) <;> try (exfalso; omega)) | (refine wq_gt ⟨by omega, by omega⟩ ⟨by omega, by omega⟩ (fun _ => ?_) (fun _ => ?_) <;> try (exfalso; omega)) | (refine wq_le ⟨by omega, by omega⟩ ⟨by omega, by omega⟩ (fun _ => ?_) (fun _ => ?_) <;> try (exfalso; omega)) | (refine wq_ifeq ⟨by omega, by omega⟩ (fun _ => ?_) (fun _ => ?_) <;> try (exfalso; omega)) | (refine wq_ifne ⟨by omega, by omega⟩ (fun _ => ?_) (fun _ => ?_) <;> try (exfalso; omega)) | (refine wq_iflt ⟨by omega, by omega⟩ (fun _ => ?_) (fun _ => ?_) <;> try (exfalso; omega)) | (refine wq_ifge ⟨by omega, by omega⟩ (fun _ => ?_) (fun _ => ?_) <;> try (exfalso; omega)) | (refine wq_ifgt ⟨by omega, by omega⟩ (fun _ => ?_) (fun _ => ?_) <;> try (exfalso; omega)) | (refine wq_ifle ⟨by omega, by omega⟩ (fun _ => ?_) (fun _ => ?_) <;> try (exfalso; omega)) | refine wq_r rfl rfl rfl rfl rfl rfl ?_)
      exact ⟨rfl, f1.mono (fun z hz => by unfold inM; omega), h.work f1 (by omega) (by omega) (by omega) (by omega) (by omega) (by omega)⟩
  · rw [if_neg hq, if_neg hq]
    repeat' (refine wf rfl ?_; first | refine wq_iadd ?_ | refine wq_isub ?_ | refine wq_imul ?_ | refine wq_iinc rfl ?_ | refine wq_goto ?_ | refine wq_k rfl ?_ | refine wq_b rfl rfl ?_ | refine wq_getf (by assumption) rfl ?_ | refine wq_alen (by assumption) rfl ?_ | (refine wq_eq ⟨by omega, by omega⟩ ⟨by omega, by omega⟩ (fun _ => ?_) (fun _ => ?_) <;> try (exfalso; omega)) | (refine wq_ne ⟨by omega, by omega⟩ ⟨by omega, by omega⟩ (fun _ => ?_) (fun _ => ?_) <;> try (exfalso; omega)) | (refine wq_lt ⟨by omega, by omega⟩ ⟨by omega, by omega⟩ (fun _ => ?_) (fun _ => ?_) <;> try (exfalso; omega)) | (refine wq_ge ⟨by omega, by omega⟩ ⟨by omega, by omega⟩ (fun _ => ?_) (fun _ => ?_) <;> try (exfalso; omega)) | (refine wq_gt ⟨by omega, by omega⟩ ⟨by omega, by omega⟩ (fun _ => ?_) (fun _ => ?_) <;> try (exfalso; omega)) | (refine wq_le ⟨by omega, by omega⟩ ⟨by omega, by omega⟩ (fun _ => ?_) (fun _ => ?_) <;> try (exfalso; omega)) | (refine wq_ifeq ⟨by omega, by omega⟩ (fun _ => ?_) (fun _ => ?_) <;> try (exfalso; omega)) | (refine wq_ifne ⟨by omega, by omega⟩ (fun _ => ?_) (fun _ => ?_) <;> try (exfalso; omega)) | (refine wq_iflt ⟨by omega, by omega⟩ (fun _ => ?_) (fun _ => ?_) <;> try (exfalso; omega)) | (refine wq_ifge ⟨by omega, by omega⟩ (fun _ => ?_) (fun _ => ?_) <;> try (exfalso; omega)) | (refine wq_ifgt ⟨by omega, by omega⟩ (fun _ => ?_) (fun _ => ?_) <;> try (exfalso; omega)) | (refine wq_ifle ⟨by omega, by omega⟩ (fun _ => ?_) (fun _ => ?_) <;> try (exfalso; omega)) | refine wq_r rfl rfl rfl rfl rfl rfl ?_)
    exact ⟨rfl, f1.mono (fun z hz => by unfold inM; omega), h.work f1 (by omega) (by omega) (by omega) (by omega) (by omega) (by omega)⟩
theorem lp_mdel {a b c d e z pl had : Int} {L : Nat} {f : Nat → Int} (hO : MO M m a b c d e) (hz : 0 ≤ z ∧ z ≤ L) (hL : L ≤ 79) {Q : Option Value → PM → Prop} (hsi : b = z)
    (hk : ∀ (M1 : PM) (g : Nat → Int), M1[m + 1]? = some (aJ 2188 g) → Fr (fun q => q = m + 1) M M1 → (∀ i : Int, z ≤ i → i < L → g (2107 + i).toNat = f (2107 + i + 1).toNat) → (∀ q : Nat, (q : Int) < 2107 + z ∨ 2107 + (L : Int) ≤ q → g q = f q) → Wp k_X10_delete (110, [(0, .ref m), (1, .int (I pl)), (2, .int (I had))], [], M1) Q) (n : Nat) : ∀ (k : Int) (M1 : PM), (z ≤ k ∧ k ≤ L ∧ L - k < n ∧ Fr (fun q => q = m + 1) M M1 ∧ ∃ g, M1[m + 1]? = some (aJ 2188 g) ∧ g 2106 = (L : Int) ∧ (∀ i : Int, z ≤ i → i < k → g (2107 + i).toNat = f (2107 + i + 1).toNat) ∧ (∀ q : Nat, (q : Int) < 2107 + z ∨ 2107 + k ≤ q → g q = f q)) →
    Wp k_X10_delete (76, [(0, .ref m), (1, .int (I pl)), (2, .int (I had)), (3, .int (I (2107 + k)))], [], M1) Q := by
  induction n with
  | zero => intro k M1 hi; exfalso; omega
  | succ n ih =>
    rintro k M1 ⟨i1, i2, i3, i4, g, j1, j0, j2, j3⟩
    have hO1 : MO M1 m a b c d e := i4.at (by omega) hO
    have hrl := c_Md_rowLongF (r := 26) hO1 j1 (by omega) (by omega)
    have j0 : g ((81 : Int) * 26).toNat = (L : Int) := j0
    rw [j0] at hrl
    repeat (refine wf rfl ?_; first | refine wq_iadd ?_ | refine wq_isub ?_ | refine wq_imul ?_ | refine wq_iinc rfl ?_ | refine wq_goto ?_ | refine wq_k rfl ?_ | refine wq_b rfl rfl ?_ | refine wq_getf (by assumption) rfl ?_ | refine wq_alen (by assumption) rfl ?_)
    refine wf rfl (wq_cv rfl rfl rfl hO1 (hrl.mono ?_))
    rintro v M1 ⟨rfl, rfl⟩
    repeat (refine wf rfl ?_; first | refine wq_iadd ?_ | refine wq_isub ?_ | refine wq_imul ?_ | refine wq_iinc rfl ?_ | refine wq_goto ?_ | refine wq_k rfl ?_ | refine wq_b rfl rfl ?_ | refine wq_getf (by assumption) rfl ?_ | refine wq_alen (by assumption) rfl ?_)
    refine wf rfl (wq_ge ⟨by omega, by omega⟩ ⟨by omega, by omega⟩ (fun c1 => ?_) (fun c1 => ?_))
    · have hst := fun (_ : True) => hk M1 g j1 i4 (fun i w1 w2 => j2 i w1 (by omega)) (fun q hq => j3 q (by omega))
      repeat' (first | (refine Wp.sub (hst  ?_) ⟨rfl, rfl, rfl, trivial⟩ rfl) | (refine wf rfl ?_; first | refine wq_iadd ?_ | refine wq_isub ?_ | refine wq_imul ?_ | refine wq_iinc rfl ?_ | refine wq_goto ?_ | refine wq_k rfl ?_ | refine wq_b rfl rfl ?_ | refine wq_getf (by assumption) rfl ?_ | refine wq_alen (by assumption) rfl ?_ | fail | (refine wq_eq ⟨by omega, by omega⟩ ⟨by omega, by omega⟩ (fun _ => ?_) (fun _ => ?_) <;> try (exfalso; omega)) | (refine wq_ne ⟨by omega, by omega⟩ ⟨by omega, by omega⟩ (fun _ => ?_) (fun _ => ?_) <;> try (exfalso; omega)) | (refine wq_lt ⟨by omega, by omega⟩ ⟨by omega, by omega⟩ (fun _ => ?_) (fun _ => ?_) <;> try (exfalso; omega)) | (refine wq_ge ⟨by omega, by omega⟩ ⟨by omega, by omega⟩ (fun _ => ?_) (fun _ => ?_) <;> try (exfalso; omega)) | (refine wq_gt ⟨by omega, by omega⟩ ⟨by omega, by omega⟩ (fun _ => ?_) (fun _ => ?_) <;> try (exfalso; omega)) | (refine wq_le ⟨by omega, by omega⟩ ⟨by omega, by omega⟩ (fun _ => ?_) (fun _ => ?_) <;> try (exfalso; omega)) | (refine wq_ifeq ⟨by omega, by omega⟩ (fun _ => ?_) (fun _ => ?_) <;> try (exfalso; omega)) | (refine wq_ifne ⟨by omega, by omega⟩ (fun _ => ?_) (fun _ => ?_) <;> try (exfalso; omega)) | (refine wq_iflt ⟨by omega, by omega⟩ (fun _ => ?_) (fun _ => ?_) <;> try (exfalso; omega)) | (refine wq_ifge ⟨by omega, by omega⟩ (fun _ => ?_) (fun _ => ?_) <;> try (exfalso; omega)) | (refine wq_ifgt ⟨by omega, by omega⟩ (fun _ => ?_) (fun _ => ?_) <;> try (exfalso; omega)) | (refine wq_ifle ⟨by omega, by omega⟩ (fun _ => ?_) (fun _ => ?_) <;> try (exfalso; omega)) | refine wq_r rfl rfl rfl rfl rfl rfl ?_))
      trivial
    · repeat (refine wf rfl ?_; first | refine wq_iadd ?_ | refine wq_isub ?_ | refine wq_imul ?_ | refine wq_iinc rfl ?_ | refine wq_goto ?_ | refine wq_k rfl ?_ | refine wq_b rfl rfl ?_ | refine wq_getf (by assumption) rfl ?_ | refine wq_alen (by assumption) rfl ?_)
      refine wf rfl (wq_iald j1 ⟨by omega, by omega⟩ (by omega) (by omega) ?_)
      refine wf rfl (wq_iast j1 rfl ⟨by omega, by omega⟩ (by omega) (by omega) (fun M2 e2 f2 => ?_))
      have hst := fun (_ : True) => ih (k + 1) M2 ⟨by omega, by omega, by omega, i4.tr f2, _, e2, by rw [upz_ne _ _ (by omega)]; exact j0, fun i w1 w2 => by
        by_cases he : i = k
        · subst he
          rw [upz_at, j3 _ (by omega)]
        · rw [upz_ne _ _ (by omega)]; exact j2 i w1 (by omega), fun q hq => by rw [upz_ne _ _ (by omega)]; exact j3 q (by omega)⟩
      rw [show 2107 + (k + 1) = 2107 + k + 1 by omega] at hst
      repeat' (first | (refine Wp.sub (hst  ?_) ⟨rfl, rfl, rfl, rfl, trivial⟩ rfl) | (refine wf rfl ?_; first | refine wq_iadd ?_ | refine wq_isub ?_ | refine wq_imul ?_ | refine wq_iinc rfl ?_ | refine wq_goto ?_ | refine wq_k rfl ?_ | refine wq_b rfl rfl ?_ | refine wq_getf (by assumption) rfl ?_ | refine wq_alen (by assumption) rfl ?_ | fail | (refine wq_eq ⟨by omega, by omega⟩ ⟨by omega, by omega⟩ (fun _ => ?_) (fun _ => ?_) <;> try (exfalso; omega)) | (refine wq_ne ⟨by omega, by omega⟩ ⟨by omega, by omega⟩ (fun _ => ?_) (fun _ => ?_) <;> try (exfalso; omega)) | (refine wq_lt ⟨by omega, by omega⟩ ⟨by omega, by omega⟩ (fun _ => ?_) (fun _ => ?_) <;> try (exfalso; omega)) | (refine wq_ge ⟨by omega, by omega⟩ ⟨by omega, by omega⟩ (fun _ => ?_) (fun _ => ?_) <;> try (exfalso; omega)) | (refine wq_gt ⟨by omega, by omega⟩ ⟨by omega, by omega⟩ (fun _ => ?_) (fun _ => ?_) <;> try (exfalso; omega)) | (refine wq_le ⟨by omega, by omega⟩ ⟨by omega, by omega⟩ (fun _ => ?_) (fun _ => ?_) <;> try (exfalso; omega)) | (refine wq_ifeq ⟨by omega, by omega⟩ (fun _ => ?_) (fun _ => ?_) <;> try (exfalso; omega)) | (refine wq_ifne ⟨by omega, by omega⟩ (fun _ => ?_) (fun _ => ?_) <;> try (exfalso; omega)) | (refine wq_iflt ⟨by omega, by omega⟩ (fun _ => ?_) (fun _ => ?_) <;> try (exfalso; omega)) | (refine wq_ifge ⟨by omega, by omega⟩ (fun _ => ?_) (fun _ => ?_) <;> try (exfalso; omega)) | (refine wq_ifgt ⟨by omega, by omega⟩ (fun _ => ?_) (fun _ => ?_) <;> try (exfalso; omega)) | (refine wq_ifle ⟨by omega, by omega⟩ (fun _ => ?_) (fun _ => ?_) <;> try (exfalso; omega)) | refine wq_r rfl rfl rfl rfl rfl rfl ?_))
      trivial
theorem c_Md_delete {p : Int} (hp : inR p) (h : MS M m S) (hW : WFG S.1) : Wm 166 [.ref m, .int (I p)] M (fun v M' => v = some (.int (I (spDelete p S).1)) ∧ Fr (inM m) M M' ∧ MS M' m (spDelete p S).2) := by
  obtain ⟨hp1, hp2⟩ := id hp
  have hN := h.mr.le
  have hwb := wlG_bd hW
  obtain ⟨⟨si, re, sp, hO⟩, ⟨f, g1, g2⟩, -, -, -, pe⟩ := id h
  obtain ⟨⟨fk, w1⟩, -⟩ := id pe
  unfold spDelete
  refine wm_in (lv := _) rfl rfl rfl ?_
  repeat (refine wf rfl ?_; first | refine wq_iadd ?_ | refine wq_isub ?_ | refine wq_imul ?_ | refine wq_iinc rfl ?_ | refine wq_goto ?_ | refine wq_k rfl ?_ | refine wq_b rfl rfl ?_ | refine wq_getf (by assumption) rfl ?_ | refine wq_alen (by assumption) rfl ?_)
  refine wf rfl (wq_cv rfl rfl rfl hO ((c_Md_wordLong h.mr hW pe.2.2.1).mono ?_))
  rintro v M1 ⟨rfl, f1, hT1⟩
  have hO1 : MO M1 m _ si re _ sp := f1.at (by omega) hO
  repeat (refine wf rfl ?_; first | refine wq_iadd ?_ | refine wq_isub ?_ | refine wq_imul ?_ | refine wq_iinc rfl ?_ | refine wq_goto ?_ | refine wq_k rfl ?_ | refine wq_b rfl rfl ?_ | refine wq_getf (by assumption) rfl ?_ | refine wq_alen (by assumption) rfl ?_)
  refine wf rfl (wq_cs rfl rfl ((c_in0 hp (w := wlG S.1) ⟨by omega, by omega⟩).mono ?_))
  rintro v M1 ⟨rfl, rfl⟩
  by_cases hq : 0 ≤ p ∧ p < wlG S.1
  · rw [if_pos hq, if_pos hq]
    refine wf rfl (wq_ifne ⟨by omega, by omega⟩ (fun _ => ?_) (fun c9 => by exfalso; omega))
    have g11 := f1.at (by omega) g1
    repeat (refine wf rfl ?_; first | refine wq_iadd ?_ | refine wq_isub ?_ | refine wq_imul ?_ | refine wq_iinc rfl ?_ | refine wq_goto ?_ | refine wq_k rfl ?_ | refine wq_b rfl rfl ?_ | refine wq_getf (by assumption) rfl ?_ | refine wq_alen (by assumption) rfl ?_)
    refine wf rfl (wq_cs rfl rfl ((c_Md_copy rfl g11 (f1.at (by omega) w1) (by omega)).mono ?_))
    rintro v M2 ⟨rfl, f2, g, k1, k2⟩
    have hGk : Ga g 0 S.1 := g2.move (fun k hk => by rw [Nat.zero_add, k2 k hk])
    have f12 := f1.tr2 f2
    have h2 : Mr M2 m S.1 := h.mr.fr f12 (by omega) (by omega)
    have hO2 : MO M2 m _ si re _ sp := f2.at (by omega) hO1
    repeat (refine wf rfl ?_; first | refine wq_iadd ?_ | refine wq_isub ?_ | refine wq_imul ?_ | refine wq_iinc rfl ?_ | refine wq_goto ?_ | refine wq_k rfl ?_ | refine wq_b rfl rfl ?_ | refine wq_getf (by assumption) rfl ?_ | refine wq_alen (by assumption) rfl ?_)
    refine wf rfl (wq_cv rfl rfl rfl hO2 ((c_Md_opensTo hq h2 hO2 hW (f12.arr pe.2.2.1)).mono ?_))
    rintro v M3 ⟨f3, ⟨mn2, z, re', o1, rfl, o2, o3, o4, o5, o6, o7⟩ | ⟨o1, rfl, si', re', mn2, o6, o5⟩⟩
    · have f13 := f12.tr2 f3
      have eo : opn S.1 p = some (mn2, z) := o1
      rw [eo]
      dsimp only
      have hml := o5.ml
      dsimp only at hml
      have hat := c_Md_at (p := z) o5 (vrM _) o2 (by rw [rwM]; exact o3)
      rw [rwM] at hat
      obtain ⟨-, f', a1, a2⟩ := id o5
      have a3 := a2.2.2.2
      rw [Nat.zero_add] at a3
      obtain ⟨y1, y2, y3⟩ := a3
      dsimp only at y1 y2 y3
      have y1' : f' (2106 : Int).toNat = (mn2.length : Int) := y1
      refine wf rfl (wq_ifne ⟨by omega, by omega⟩ (fun _ => ?_) (fun c9 => by exfalso; omega))
      repeat (refine wf rfl ?_; first | refine wq_iadd ?_ | refine wq_isub ?_ | refine wq_imul ?_ | refine wq_iinc rfl ?_ | refine wq_goto ?_ | refine wq_k rfl ?_ | refine wq_b rfl rfl ?_ | refine wq_getf (by assumption) rfl ?_ | refine wq_alen (by assumption) rfl ?_)
      refine wf rfl (wq_cv rfl rfl rfl o6 (hat.mono ?_))
      rintro v M3 ⟨rfl, rfl⟩
      repeat (refine wf rfl ?_; first | refine wq_iadd ?_ | refine wq_isub ?_ | refine wq_imul ?_ | refine wq_iinc rfl ?_ | refine wq_goto ?_ | refine wq_k rfl ?_ | refine wq_b rfl rfl ?_ | refine wq_getf (by assumption) rfl ?_ | refine wq_alen (by assumption) rfl ?_)
      refine wf rfl (wq_iald a1 ⟨by omega, by omega⟩ (by omega) (by omega) ?_)
      rw [y1']
      repeat (refine wf rfl ?_; first | refine wq_iadd ?_ | refine wq_isub ?_ | refine wq_imul ?_ | refine wq_iinc rfl ?_ | refine wq_goto ?_ | refine wq_k rfl ?_ | refine wq_b rfl rfl ?_ | refine wq_getf (by assumption) rfl ?_ | refine wq_alen (by assumption) rfl ?_)
      refine wf rfl (wq_iast a1 rfl ⟨by omega, by omega⟩ (by omega) (by omega) (fun M4 e4 f4 => ?_))
      have hO4 : MO M4 m _ z re' _ sp := f4.at (by omega) o6
      have f14 := f13.tr2 f4
      have hst := fun (_ : True) => lp_mdel (z := z) (pl := p) (had := rat mn2 z) (L := mn2.length - 1) (f := upz f' (2106 : Int).toNat ((mn2.length : Int) - 1)) hO4 (by omega) (by omega) (Q := fun v M' => v = some (.int (I (rat mn2 z))) ∧ Fr (inM m) M M' ∧ MS M' m (accS S (S.1.1, mn2.take z.toNat ++ mn2.drop (z.toNat + 1)))) rfl (fun M5 g5 e5 f5 q1 q2 => by
        have hO5 : MO M5 m _ z re' _ sp := f5.at (by omega) hO4
        have f15 := f14.tr2 f5
        have lenE : (mn2.take z.toNat ++ mn2.drop (z.toNat + 1)).length = mn2.length - 1 := by
          rw [List.length_append, List.length_take, List.length_drop]
          omega
        have hGA : GA M5 m (S.1.1, mn2.take z.toNat ++ mn2.drop (z.toNat + 1)) := by
          refine ⟨g5, e5, a2.main (mn := mn2.take z.toNat ++ mn2.drop (z.toNat + 1)) ?_ ?_ ?_⟩
          · rw [q2 _ (by omega), upz_ne _ _ (by omega)]
          · exact fun q hq => by rw [q2 _ (by omega), upz_ne _ _ (by omega)]
          · refine ⟨?_, by omega, fun k hk => ?_⟩
            · rw [q2 _ (by omega), lenE, show ((mn2.length - 1 : Nat) : Int) = (mn2.length : Int) - 1 by omega]
              exact upz_at _ _ _
            · rw [lenE] at hk
              by_cases hkz : k < z.toNat
              · rw [List.getElem?_append_left (by rw [List.length_take]; omega), List.getElem?_take_of_lt hkz, q2 _ (by omega), upz_ne _ _ (by omega)]
                exact y3 k (by omega)
              · rw [List.getElem?_append_right (by rw [List.length_take]; omega), List.length_take, List.getElem?_drop, show z.toNat + 1 + (k - min z.toNat mn2.length) = k + 1 by omega, y3 (k + 1) (by omega)]
                have h9 := q1 (k : Int) (by omega) (by omega)
                rw [upz_ne _ _ (by omega)] at h9
                rw [show 2106 + 1 + k = (2107 + (k : Int)).toNat by omega, h9]
                congr 2
        repeat (refine wf rfl ?_; first | refine wq_iadd ?_ | refine wq_isub ?_ | refine wq_imul ?_ | refine wq_iinc rfl ?_ | refine wq_goto ?_ | refine wq_k rfl ?_ | refine wq_b rfl rfl ?_ | refine wq_getf (by assumption) rfl ?_ | refine wq_alen (by assumption) rfl ?_)
        refine wf rfl (wq_cv rfl rfl rfl hO5 ((c_Md_chg h f15 (fun q hq => by unfold inM; omega) (by omega) (by omega) (by omega) (by omega) ⟨z, re', sp, hO5⟩ (f5.at (by omega) (f4.at (by omega) (f3.at (by omega) k1))) hGk hGA).mono ?_))
        rintro v M6 ⟨rfl, f6, h6⟩
        repeat' (refine wf rfl ?_; first | refine wq_iadd ?_ | refine wq_isub ?_ | refine wq_imul ?_ | refine wq_iinc rfl ?_ | refine wq_goto ?_ | refine wq_k rfl ?_ | refine wq_b rfl rfl ?_ | refine wq_getf (by assumption) rfl ?_ | refine wq_alen (by assumption) rfl ?_ | (refine wq_eq ⟨by omega, by omega⟩ ⟨by omega, by omega⟩ (fun _ => ?_) (fun _ => ?_) <;> try (exfalso; omega)) | (refine wq_ne ⟨by omega, by omega⟩ ⟨by omega, by omega⟩ (fun _ => ?_) (fun _ => ?_) <;> try (exfalso; omega)) | (refine wq_lt ⟨by omega, by omega⟩ ⟨by omega, by omega⟩ (fun _ => ?_) (fun _ => ?_) <;> try (exfalso; omega)) | (refine wq_ge ⟨by omega, by omega⟩ ⟨by omega, by omega⟩ (fun _ => ?_) (fun _ => ?_) <;> try (exfalso; omega)) | (refine wq_gt ⟨by omega, by omega⟩ ⟨by omega, by omega⟩ (fun _ => ?_) (fun _ => ?_) <;> try (exfalso; omega)) | (refine wq_le ⟨by omega, by omega⟩ ⟨by omega, by omega⟩ (fun _ => ?_) (fun _ => ?_) <;> try (exfalso; omega)) | (refine wq_ifeq ⟨by omega, by omega⟩ (fun _ => ?_) (fun _ => ?_) <;> try (exfalso; omega)) | (refine wq_ifne ⟨by omega, by omega⟩ (fun _ => ?_) (fun _ => ?_) <;> try (exfalso; omega)) | (refine wq_iflt ⟨by omega, by omega⟩ (fun _ => ?_) (fun _ => ?_) <;> try (exfalso; omega)) | (refine wq_ifge ⟨by omega, by omega⟩ (fun _ => ?_) (fun _ => ?_) <;> try (exfalso; omega)) | (refine wq_ifgt ⟨by omega, by omega⟩ (fun _ => ?_) (fun _ => ?_) <;> try (exfalso; omega)) | (refine wq_ifle ⟨by omega, by omega⟩ (fun _ => ?_) (fun _ => ?_) <;> try (exfalso; omega)) | refine wq_r rfl rfl rfl rfl rfl rfl ?_)
        exact ⟨rfl, f6, h6⟩) 100 z M4 ⟨by omega, by omega, by omega, Fr.rf, _, e4, by rw [show ((mn2.length - 1 : Nat) : Int) = (mn2.length : Int) - 1 by omega]; exact upz_at _ _ _, fun i w1 w2 => by omega, fun q _ => rfl⟩
      repeat' (first | (refine Wp.sub (hst  ?_) ⟨rfl, rfl, rfl, rfl, trivial⟩ rfl) | (refine wf rfl ?_; first | refine wq_iadd ?_ | refine wq_isub ?_ | refine wq_imul ?_ | refine wq_iinc rfl ?_ | refine wq_goto ?_ | refine wq_k rfl ?_ | refine wq_b rfl rfl ?_ | refine wq_getf (by assumption) rfl ?_ | refine wq_alen (by assumption) rfl ?_ | fail | (refine wq_eq ⟨by omega, by omega⟩ ⟨by omega, by omega⟩ (fun _ => ?_) (fun _ => ?_) <;> try (exfalso; omega)) | (refine wq_ne ⟨by omega, by omega⟩ ⟨by omega, by omega⟩ (fun _ => ?_) (fun _ => ?_) <;> try (exfalso; omega)) | (refine wq_lt ⟨by omega, by omega⟩ ⟨by omega, by omega⟩ (fun _ => ?_) (fun _ => ?_) <;> try (exfalso; omega)) | (refine wq_ge ⟨by omega, by omega⟩ ⟨by omega, by omega⟩ (fun _ => ?_) (fun _ => ?_) <;> try (exfalso; omega)) | (refine wq_gt ⟨by omega, by omega⟩ ⟨by omega, by omega⟩ (fun _ => ?_) (fun _ => ?_) <;> try (exfalso; omega)) | (refine wq_le ⟨by omega, by omega⟩ ⟨by omega, by omega⟩ (fun _ => ?_) (fun _ => ?_) <;> try (exfalso; omega)) | (refine wq_ifeq ⟨by omega, by omega⟩ (fun _ => ?_) (fun _ => ?_) <;> try (exfalso; omega)) | (refine wq_ifne ⟨by omega, by omega⟩ (fun _ => ?_) (fun _ => ?_) <;> try (exfalso; omega)) | (refine wq_iflt ⟨by omega, by omega⟩ (fun _ => ?_) (fun _ => ?_) <;> try (exfalso; omega)) | (refine wq_ifge ⟨by omega, by omega⟩ (fun _ => ?_) (fun _ => ?_) <;> try (exfalso; omega)) | (refine wq_ifgt ⟨by omega, by omega⟩ (fun _ => ?_) (fun _ => ?_) <;> try (exfalso; omega)) | (refine wq_ifle ⟨by omega, by omega⟩ (fun _ => ?_) (fun _ => ?_) <;> try (exfalso; omega)) | refine wq_r rfl rfl rfl rfl rfl rfl ?_))
      trivial
    · have f13 := f12.tr2 f3
      have eo : opn S.1 p = none := o1
      rw [eo]
      dsimp only
      obtain ⟨-, f', a1, a2⟩ := id o5
      refine wf rfl (wq_ifne ⟨by omega, by omega⟩ (fun c9 => absurd rfl c9) (fun _ => ?_))
      repeat (refine wf rfl ?_; first | refine wq_iadd ?_ | refine wq_isub ?_ | refine wq_imul ?_ | refine wq_iinc rfl ?_ | refine wq_goto ?_ | refine wq_k rfl ?_ | refine wq_b rfl rfl ?_ | refine wq_getf (by assumption) rfl ?_ | refine wq_alen (by assumption) rfl ?_)
      refine wf rfl (wq_cv rfl rfl rfl o6 ((c_Md_failS h f13 (fun q hq => by unfold inM; omega) (by omega) (by omega) (by omega) (by omega) ⟨si', re', sp, o6⟩ (f3.at (by omega) k1) hGk ⟨f', a1⟩).mono ?_))
      rintro v M5 ⟨rfl, f5, h5⟩
      repeat' (refine wf rfl ?_; first | refine wq_iadd ?_ | refine wq_isub ?_ | refine wq_imul ?_ | refine wq_iinc rfl ?_ | refine wq_goto ?_ | refine wq_k rfl ?_ | refine wq_b rfl rfl ?_ | refine wq_getf (by assumption) rfl ?_ | refine wq_alen (by assumption) rfl ?_ | (refine wq_eq ⟨by omega, by omega⟩ ⟨by omega, by omega⟩ (fun _ => ?_) (fun _ => ?_) <;> try (exfalso; omega)) | (refine wq_ne ⟨by omega, by omega⟩ ⟨by omega, by omega⟩ (fun _ => ?_) (fun _ => ?_) <;> try (exfalso; omega)) | (refine wq_lt ⟨by omega, by omega⟩ ⟨by omega, by omega⟩ (fun _ => ?_) (fun _ => ?_) <;> try (exfalso; omega)) | (refine wq_ge ⟨by omega, by omega⟩ ⟨by omega, by omega⟩ (fun _ => ?_) (fun _ => ?_) <;> try (exfalso; omega)) | (refine wq_gt ⟨by omega, by omega⟩ ⟨by omega, by omega⟩ (fun _ => ?_) (fun _ => ?_) <;> try (exfalso; omega)) | (refine wq_le ⟨by omega, by omega⟩ ⟨by omega, by omega⟩ (fun _ => ?_) (fun _ => ?_) <;> try (exfalso; omega)) | (refine wq_ifeq ⟨by omega, by omega⟩ (fun _ => ?_) (fun _ => ?_) <;> try (exfalso; omega)) | (refine wq_ifne ⟨by omega, by omega⟩ (fun _ => ?_) (fun _ => ?_) <;> try (exfalso; omega)) | (refine wq_iflt ⟨by omega, by omega⟩ (fun _ => ?_) (fun _ => ?_) <;> try (exfalso; omega)) | (refine wq_ifge ⟨by omega, by omega⟩ (fun _ => ?_) (fun _ => ?_) <;> try (exfalso; omega)) | (refine wq_ifgt ⟨by omega, by omega⟩ (fun _ => ?_) (fun _ => ?_) <;> try (exfalso; omega)) | (refine wq_ifle ⟨by omega, by omega⟩ (fun _ => ?_) (fun _ => ?_) <;> try (exfalso; omega)) | refine wq_r rfl rfl rfl rfl rfl rfl ?_)
      exact ⟨rfl, f5, h5⟩
  · rw [if_neg hq, if_neg hq]
    repeat' (refine wf rfl ?_; first | refine wq_iadd ?_ | refine wq_isub ?_ | refine wq_imul ?_ | refine wq_iinc rfl ?_ | refine wq_goto ?_ | refine wq_k rfl ?_ | refine wq_b rfl rfl ?_ | refine wq_getf (by assumption) rfl ?_ | refine wq_alen (by assumption) rfl ?_ | (refine wq_eq ⟨by omega, by omega⟩ ⟨by omega, by omega⟩ (fun _ => ?_) (fun _ => ?_) <;> try (exfalso; omega)) | (refine wq_ne ⟨by omega, by omega⟩ ⟨by omega, by omega⟩ (fun _ => ?_) (fun _ => ?_) <;> try (exfalso; omega)) | (refine wq_lt ⟨by omega, by omega⟩ ⟨by omega, by omega⟩ (fun _ => ?_) (fun _ => ?_) <;> try (exfalso; omega)) | (refine wq_ge ⟨by omega, by omega⟩ ⟨by omega, by omega⟩ (fun _ => ?_) (fun _ => ?_) <;> try (exfalso; omega)) | (refine wq_gt ⟨by omega, by omega⟩ ⟨by omega, by omega⟩ (fun _ => ?_) (fun _ => ?_) <;> try (exfalso; omega)) | (refine wq_le ⟨by omega, by omega⟩ ⟨by omega, by omega⟩ (fun _ => ?_) (fun _ => ?_) <;> try (exfalso; omega)) | (refine wq_ifeq ⟨by omega, by omega⟩ (fun _ => ?_) (fun _ => ?_) <;> try (exfalso; omega)) | (refine wq_ifne ⟨by omega, by omega⟩ (fun _ => ?_) (fun _ => ?_) <;> try (exfalso; omega)) | (refine wq_iflt ⟨by omega, by omega⟩ (fun _ => ?_) (fun _ => ?_) <;> try (exfalso; omega)) | (refine wq_ifge ⟨by omega, by omega⟩ (fun _ => ?_) (fun _ => ?_) <;> try (exfalso; omega)) | (refine wq_ifgt ⟨by omega, by omega⟩ (fun _ => ?_) (fun _ => ?_) <;> try (exfalso; omega)) | (refine wq_ifle ⟨by omega, by omega⟩ (fun _ => ?_) (fun _ => ?_) <;> try (exfalso; omega)) | refine wq_r rfl rfl rfl rfl rfl rfl ?_)
    exact ⟨rfl, f1.mono (fun z hz => by unfold inM; omega), h.work f1 (by omega) (by omega) (by omega) (by omega) (by omega) (by omega)⟩
end MD14
