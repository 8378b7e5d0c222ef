def updF {α : Type} (X : Nat → α) (k : Nat) (x : α) : Nat → α := fun j => if j = k then x else X j
theorem updF_at {α : Type} (X : Nat → α) (k : Nat) (x : α) : updF X k x k = x := if_pos rfl
theorem updF_ne {α : Type} (X : Nat → α) {k j : Nat} (x : α) (h : j ≠ k) : updF X k x j = X j := if_neg h
section GR6
variable {M : PM} {g N : Nat} {p : Nat → Nat} {X : Nat → List Int} {mn : List Int} {lt dp us : Nat → Int} {W : Int}
theorem Gm.newRow {M1 : PM} {k : Nat} {xs : List Int} (h : Gm M g N p X mn lt dp us W) (hk : k < 26) (f : Fr (fun q => q = p k ∨ q = p k + 1) M M1) (hr : Rw M1 (p k) xs) : Gm M1 g N p (updF X k xs) mn lt dp us W := by
  obtain ⟨q1, ⟨ff, q2, q3⟩, q4, q5, q6, q7, q8, q9, q10, q11⟩ := h
  obtain ⟨a, ha, ea⟩ := q9 k hk
  refine ⟨f.at (by omega) q1, ⟨ff, f.at (by omega) q2, q3⟩, q4.fr f (by omega) (by omega), f.at (by omega) q5, f.at (by omega) q6, f.at (by omega) q7, fun j hj => ?_, q9, q10, q11⟩
  by_cases he : j = k
  · subst he
    rw [updF_at]
    exact hr
  · rw [updF_ne _ _ he]
    obtain ⟨b, hb, eb⟩ := q9 j hj
    have : p j ≠ p k := fun z => he (q10 j k hj hk z)
    exact (q8 j hj).fr f (by omega) (by omega)
theorem Gm.newMain {M1 : PM} {ys : List Int} (h : Gm M g N p X mn lt dp us W) (f : Fr (fun q => q = g + 2 ∨ q = g + 3) M M1) (hr : Rw M1 (g + 2) ys) : Gm M1 g N p X ys lt dp us W := by
  obtain ⟨q1, ⟨ff, q2, q3⟩, q4, q5, q6, q7, q8, q9, q10, q11⟩ := h
  refine ⟨f.at (by omega) q1, ⟨ff, f.at (by omega) q2, q3⟩, hr, f.at (by omega) q5, f.at (by omega) q6, f.at (by omega) q7, fun j hj => ?_, q9, q10, q11⟩
  obtain ⟨b, hb, eb⟩ := q9 j hj
  exact (q8 j hj).fr f (by omega) (by omega)
theorem Gm.pos (h : Gm M g N p X mn lt dp us W) {k : Nat} (hk : k < 26) : ∃ j, j < 26 ∧ p k = g + 7 + 2 * j := h.2.2.2.2.2.2.2.1 k hk
/-- the cells of a grammar -/
def inG (g : Nat) (q : Nat) : Prop := g ≤ q ∧ q < g + 59
theorem c_Gr_clear (h : Gm M g N p X mn lt dp us W) : Wm 1 [.ref g] M (fun v M' => v = none ∧ Fr (inG g) M M' ∧ ∃ lt' dp' us' W', Gm M' g 0 p X [] lt' dp' us' W' ∧ Ms 0 X [] lt' dp' us' W') := by
  have hg1 := h.obj
  obtain ⟨-, -, hmn, hl1, hd1, hu1, -⟩ := id h
  refine wm_in (lv := _) rfl rfl rfl ?_
  repeat (refine wf rfl ?_; first | refine wq_iadd ?_ | refine wq_isub ?_ | refine wq_imul ?_ | refine wq_iinc rfl ?_ | refine wq_goto ?_ | refine wq_k rfl ?_ | refine wq_b rfl rfl ?_ | refine wq_getf (by assumption) rfl ?_ | refine wq_alen (by assumption) rfl ?_)
  refine wf rfl (wq_putf hg1 rfl (fun M1 e1 f1 => ?_))
  have h1 : Gm M1 g 0 p X mn lt dp us W := h.upd (f1.mono (fun q hq => by omega)) e1 (f1.at (by omega) hl1) (f1.at (by omega) hd1) (f1.at (by omega) hu1) (by omega)
  have hc := c_Row_clear h1.main
  have hg11 := h1.obj
  obtain ⟨gr, k1, k2, k3, k4⟩ := h1.main
  repeat (refine wf rfl ?_; first | refine wq_iadd ?_ | refine wq_isub ?_ | refine wq_imul ?_ | refine wq_iinc rfl ?_ | refine wq_goto ?_ | refine wq_k rfl ?_ | refine wq_b rfl rfl ?_ | refine wq_getf (by assumption) rfl ?_ | refine wq_alen (by assumption) rfl ?_)
  refine wf rfl (wq_cv rfl rfl rfl k1 (hc.mono ?_))
  rintro v M2 ⟨rfl, hr2, f2⟩
  have h2 := h1.newMain (f2.mono (fun q hq => by omega)) hr2
  have hme := c_Gr_measure h2 (fun k hk => absurd hk (by omega)) (fun s hs => absurd hs (by simp))
  have hg21 := h2.obj
  repeat (refine wf rfl ?_; first | refine wq_iadd ?_ | refine wq_isub ?_ | refine wq_imul ?_ | refine wq_iinc rfl ?_ | refine wq_goto ?_ | refine wq_k rfl ?_ | refine wq_b rfl rfl ?_ | refine wq_getf (by assumption) rfl ?_ | refine wq_alen (by assumption) rfl ?_)
  refine wf rfl (wq_cv rfl rfl rfl hg21 (hme.mono ?_))
  rintro v M3 ⟨rfl, f3, hq⟩
  repeat' (refine wf rfl ?_; first | refine wq_iadd ?_ | refine wq_isub ?_ | refine wq_imul ?_ | refine wq_iinc rfl ?_ | refine wq_goto ?_ | refine wq_k rfl ?_ | refine wq_b rfl rfl ?_ | refine wq_getf (by assumption) rfl ?_ | refine wq_alen (by assumption) rfl ?_ | (refine wq_eq ⟨by omega, by omega⟩ ⟨by omega, by omega⟩ (fun _ => ?_) (fun _ => ?_) <;> try (exfalso; omega)) | (refine wq_ne ⟨by omega, by omega⟩ ⟨by omega, by omega⟩ (fun _ => ?_) (fun _ => ?_) <;> try (exfalso; omega)) | (refine wq_lt ⟨by omega, by omega⟩ ⟨by omega, by omega⟩ (fun _ => ?_) (fun _ => ?_) <;> try (exfalso; omega)) | (refine wq_ge ⟨by omega, by omega⟩ ⟨by omega, by omega⟩ (fun _ => ?_) (fun _ => ?_) <;> try (exfalso; omega)) | (refine wq_gt ⟨by omega, by omega⟩ ⟨by omega, by omega⟩ (fun _ => ?_) (fun _ => ?_) <;> try (exfalso; omega)) | (refine wq_le ⟨by omega, by omega⟩ ⟨by omega, by omega⟩ (fun _ => ?_) (fun _ => ?_) <;> try (exfalso; omega)) | (refine wq_ifeq ⟨by omega, by omega⟩ (fun _ => ?_) (fun _ => ?_) <;> try (exfalso; omega)) | (refine wq_ifne ⟨by omega, by omega⟩ (fun _ => ?_) (fun _ => ?_) <;> try (exfalso; omega)) | (refine wq_iflt ⟨by omega, by omega⟩ (fun _ => ?_) (fun _ => ?_) <;> try (exfalso; omega)) | (refine wq_ifge ⟨by omega, by omega⟩ (fun _ => ?_) (fun _ => ?_) <;> try (exfalso; omega)) | (refine wq_ifgt ⟨by omega, by omega⟩ (fun _ => ?_) (fun _ => ?_) <;> try (exfalso; omega)) | (refine wq_ifle ⟨by omega, by omega⟩ (fun _ => ?_) (fun _ => ?_) <;> try (exfalso; omega)) | refine wq_r rfl rfl rfl rfl rfl rfl ?_)
  exact ⟨rfl, ((f1.mono (fun q hq => by unfold inG; omega)).tr (f2.mono (fun q hq => by unfold inG; omega))).tr (f3.mono (fun q hq => by unfold inG; omega)), hq⟩
variable {h N' : Nat} {p' : Nat → Nat} {X' : Nat → List Int} {mn' : List Int} {lt' dp' us' : Nat → Int} {W' : Int}
theorem lp_gcopy (hgh : g + 59 ≤ h ∨ h + 59 ≤ g) (n : Nat) : ∀ (k : Int) (M1 : PM), (0 ≤ k ∧ k ≤ N' ∧ N' - k < n ∧ Fr (inG g) M M1 ∧ Gm M1 h N' p' X' mn' lt' dp' us' W' ∧ ∃ X1, Gm M1 g N' p X1 mn lt dp us W ∧ ∀ j, j < k.toNat → X1 j = X' j) →
    Wp k_X0_copy (10, [(0, .ref g), (1, .ref h), (2, .int (I k))], [], M1) (fun v M' => v = none ∧ Fr (inG g) M M' ∧ ∃ X2 lt2 dp2 us2, Gm M' g N' p X2 mn' lt2 dp2 us2 W' ∧ ∀ k, k < N' → X2 k = X' k ∧ lt2 k = lt' k ∧ dp2 k = dp' k ∧ us2 k = us' k) := by
  induction n with
  | zero => intro k M1 hi; exfalso; omega
  | succ n ih =>
    intro k M1 hi
    obtain ⟨i1, i2, i3, i4, hh, X1, hg, i5⟩ := hi
    have hN := hh.le
    have hg1 := hg.obj
    have hh1 := hh.obj
    obtain ⟨-, ⟨f, hf1, hf2⟩, hmn, hl1, hd1, hu1, -⟩ := id hg
    obtain ⟨-, ⟨f', hf1', hf2'⟩, hmn', hl1', hd1', hu1', -⟩ := id hh
    by_cases hk : k < N'
    · have hkk : k.toNat < 26 := by omega
      obtain ⟨a, ha, ea⟩ := hg.pos hkk
      obtain ⟨b, hb, eb⟩ := hh.pos hkk
      have hcp := c_Row_copy (hg.row hkk) (hh.row hkk) (by omega)
      obtain ⟨gr, k1, k2, k3, k4⟩ := hg.row hkk
      repeat (refine wf rfl ?_; first | refine wq_iadd ?_ | refine wq_isub ?_ | refine wq_imul ?_ | refine wq_iinc rfl ?_ | refine wq_goto ?_ | refine wq_k rfl ?_ | refine wq_b rfl rfl ?_ | refine wq_getf (by assumption) rfl ?_ | refine wq_alen (by assumption) rfl ?_)
      refine wf rfl (wq_ge ⟨by omega, by omega⟩ ⟨by omega, by omega⟩ (fun c1 => by exfalso; omega) (fun c1 => ?_))
      repeat (refine wf rfl ?_; first | refine wq_iadd ?_ | refine wq_isub ?_ | refine wq_imul ?_ | refine wq_iinc rfl ?_ | refine wq_goto ?_ | refine wq_k rfl ?_ | refine wq_b rfl rfl ?_ | refine wq_getf (by assumption) rfl ?_ | refine wq_alen (by assumption) rfl ?_)
      refine wf rfl (wq_ge ⟨by omega, by omega⟩ ⟨by omega, by omega⟩ (fun c1 => by exfalso; omega) (fun c1 => ?_))
      repeat (refine wf rfl ?_; first | refine wq_iadd ?_ | refine wq_isub ?_ | refine wq_imul ?_ | refine wq_iinc rfl ?_ | refine wq_goto ?_ | refine wq_k rfl ?_ | refine wq_b rfl rfl ?_ | refine wq_getf (by assumption) rfl ?_ | refine wq_alen (by assumption) rfl ?_)
      refine wf rfl (wq_aald hf1 rfl ⟨by omega, by omega⟩ (by omega) (by omega) (hf2 _ hkk) ?_)
      repeat (refine wf rfl ?_; first | refine wq_iadd ?_ | refine wq_isub ?_ | refine wq_imul ?_ | refine wq_iinc rfl ?_ | refine wq_goto ?_ | refine wq_k rfl ?_ | refine wq_b rfl rfl ?_ | refine wq_getf (by assumption) rfl ?_ | refine wq_alen (by assumption) rfl ?_)
      refine wf rfl (wq_aald hf1' rfl ⟨by omega, by omega⟩ (by omega) (by omega) (hf2' _ hkk) ?_)
      refine wf rfl (wq_cv rfl rfl rfl k1 (hcp.mono ?_))
      rintro v M2 ⟨rfl, hr2, f2⟩
      repeat' (first | (refine Wp.sub (ih _ _ ?_) ⟨rfl, rfl, rfl, trivial⟩ rfl) | (refine wf rfl ?_; first | refine wq_iadd ?_ | refine wq_isub ?_ | refine wq_imul ?_ | refine wq_iinc rfl ?_ | refine wq_goto ?_ | refine wq_k rfl ?_ | refine wq_b rfl rfl ?_ | refine wq_getf (by assumption) rfl ?_ | refine wq_alen (by assumption) rfl ?_ | fail | (refine wq_eq ⟨by omega, by omega⟩ ⟨by omega, by omega⟩ (fun _ => ?_) (fun _ => ?_) <;> try (exfalso; omega)) | (refine wq_ne ⟨by omega, by omega⟩ ⟨by omega, by omega⟩ (fun _ => ?_) (fun _ => ?_) <;> try (exfalso; omega)) | (refine wq_lt ⟨by omega, by omega⟩ ⟨by omega, by omega⟩ (fun _ => ?_) (fun _ => ?_) <;> try (exfalso; omega)) | (refine wq_ge ⟨by omega, by omega⟩ ⟨by omega, by omega⟩ (fun _ => ?_) (fun _ => ?_) <;> try (exfalso; omega)) | (refine wq_gt ⟨by omega, by omega⟩ ⟨by omega, by omega⟩ (fun _ => ?_) (fun _ => ?_) <;> try (exfalso; omega)) | (refine wq_le ⟨by omega, by omega⟩ ⟨by omega, by omega⟩ (fun _ => ?_) (fun _ => ?_) <;> try (exfalso; omega)) | (refine wq_ifeq ⟨by omega, by omega⟩ (fun _ => ?_) (fun _ => ?_) <;> try (exfalso; omega)) | (refine wq_ifne ⟨by omega, by omega⟩ (fun _ => ?_) (fun _ => ?_) <;> try (exfalso; omega)) | (refine wq_iflt ⟨by omega, by omega⟩ (fun _ => ?_) (fun _ => ?_) <;> try (exfalso; omega)) | (refine wq_ifge ⟨by omega, by omega⟩ (fun _ => ?_) (fun _ => ?_) <;> try (exfalso; omega)) | (refine wq_ifgt ⟨by omega, by omega⟩ (fun _ => ?_) (fun _ => ?_) <;> try (exfalso; omega)) | (refine wq_ifle ⟨by omega, by omega⟩ (fun _ => ?_) (fun _ => ?_) <;> try (exfalso; omega)) | refine wq_r rfl rfl rfl rfl rfl rfl ?_))
      refine ⟨by omega, by omega, by omega, i4.tr (f2.mono (fun q hq => by unfold inG; omega)), hh.fr f2 (fun q h1 h2 => by omega), _, hg.newRow hkk f2 hr2, fun j hj => ?_⟩
      by_cases he : j = k.toNat
      · subst he; rw [updF_at]
      · rw [updF_ne _ _ he]; exact i5 j (by omega)
    · have ek : k.toNat = N' := by omega
      have hcp := c_Row_copy hmn hmn' (by omega)
      obtain ⟨gr, k1, k2, k3, k4⟩ := id hmn
      repeat (refine wf rfl ?_; first | refine wq_iadd ?_ | refine wq_isub ?_ | refine wq_imul ?_ | refine wq_iinc rfl ?_ | refine wq_goto ?_ | refine wq_k rfl ?_ | refine wq_b rfl rfl ?_ | refine wq_getf (by assumption) rfl ?_ | refine wq_alen (by assumption) rfl ?_)
      refine wf rfl (wq_ge ⟨by omega, by omega⟩ ⟨by omega, by omega⟩ (fun c1 => ?_) (fun c1 => by exfalso; omega))
      repeat (refine wf rfl ?_; first | refine wq_iadd ?_ | refine wq_isub ?_ | refine wq_imul ?_ | refine wq_iinc rfl ?_ | refine wq_goto ?_ | refine wq_k rfl ?_ | refine wq_b rfl rfl ?_ | refine wq_getf (by assumption) rfl ?_ | refine wq_alen (by assumption) rfl ?_)
      refine wf rfl (wq_cv rfl rfl rfl k1 (hcp.mono ?_))
      rintro v M2 ⟨rfl, hr2, f2⟩
      have hg2 := hg.newMain f2 hr2
      have hh2 := hh.fr f2 (fun q h1 h2 => by omega)
      have o2 := hg2.obj
      have oh2 := hh2.obj
      obtain ⟨-, -, -, l2, d2, u2, -⟩ := id hg2
      obtain ⟨-, -, -, l2', d2', u2', -⟩ := id hh2
      repeat (refine wf rfl ?_; first | refine wq_iadd ?_ | refine wq_isub ?_ | refine wq_imul ?_ | refine wq_iinc rfl ?_ | refine wq_goto ?_ | refine wq_k rfl ?_ | refine wq_b rfl rfl ?_ | refine wq_getf (by assumption) rfl ?_ | refine wq_alen (by assumption) rfl ?_)
      refine wf rfl (wq_acopy l2' l2 rfl rfl ⟨by omega, by omega⟩ ⟨by omega, by omega⟩ ⟨by omega, by omega⟩ (by omega) (by omega) (by omega) (by omega) (by omega) rfl (fun M3 e3 f3 => ?_))
      have o3 := f3.at (by omega) o2
      have oh3 := f3.at (by omega) oh2
      have d3 := f3.at (by omega) d2
      have d3' := f3.at (by omega) d2'
      have u3 := f3.at (by omega) u2
      have u3' := f3.at (by omega) u2'
      repeat (refine wf rfl ?_; first | refine wq_iadd ?_ | refine wq_isub ?_ | refine wq_imul ?_ | refine wq_iinc rfl ?_ | refine wq_goto ?_ | refine wq_k rfl ?_ | refine wq_b rfl rfl ?_ | refine wq_getf (by assumption) rfl ?_ | refine wq_alen (by assumption) rfl ?_)
      refine wf rfl (wq_acopy d3' d3 rfl rfl ⟨by omega, by omega⟩ ⟨by omega, by omega⟩ ⟨by omega, by omega⟩ (by omega) (by omega) (by omega) (by omega) (by omega) rfl (fun M4 e4 f4 => ?_))
      have o4 := f4.at (by omega) o3
      have oh4 := f4.at (by omega) oh3
      have l4 := f4.at (by omega) e3
      have u4 := f4.at (by omega) u3
      have u4' := f4.at (by omega) u3'
      repeat (refine wf rfl ?_; first | refine wq_iadd ?_ | refine wq_isub ?_ | refine wq_imul ?_ | refine wq_iinc rfl ?_ | refine wq_goto ?_ | refine wq_k rfl ?_ | refine wq_b rfl rfl ?_ | refine wq_getf (by assumption) rfl ?_ | refine wq_alen (by assumption) rfl ?_)
      refine wf rfl (wq_acopy u4' u4 rfl rfl ⟨by omega, by omega⟩ ⟨by omega, by omega⟩ ⟨by omega, by omega⟩ (by omega) (by omega) (by omega) (by omega) (by omega) rfl (fun M5 e5 f5 => ?_))
      have o5 := f5.at (by omega) o4
      have oh5 := f5.at (by omega) oh4
      have l5 := f5.at (by omega) l4
      have d5 := f5.at (by omega) e4
      repeat (refine wf rfl ?_; first | refine wq_iadd ?_ | refine wq_isub ?_ | refine wq_imul ?_ | refine wq_iinc rfl ?_ | refine wq_goto ?_ | refine wq_k rfl ?_ | refine wq_b rfl rfl ?_ | refine wq_getf (by assumption) rfl ?_ | refine wq_alen (by assumption) rfl ?_)
      refine wf rfl (wq_putf o5 rfl (fun M6 e6 f6 => ?_))
      repeat' (refine wf rfl ?_; first | refine wq_iadd ?_ | refine wq_isub ?_ | refine wq_imul ?_ | refine wq_iinc rfl ?_ | refine wq_goto ?_ | refine wq_k rfl ?_ | refine wq_b rfl rfl ?_ | refine wq_getf (by assumption) rfl ?_ | refine wq_alen (by assumption) rfl ?_ | (refine wq_eq ⟨by omega, by omega⟩ ⟨by omega, by omega⟩ (fun _ => ?_) (fun _ => ?_) <;> try (exfalso; omega)) | (refine wq_ne ⟨by omega, by omega⟩ ⟨by omega, by omega⟩ (fun _ => ?_) (fun _ => ?_) <;> try (exfalso; omega)) | (refine wq_lt ⟨by omega, by omega⟩ ⟨by omega, by omega⟩ (fun _ => ?_) (fun _ => ?_) <;> try (exfalso; omega)) | (refine wq_ge ⟨by omega, by omega⟩ ⟨by omega, by omega⟩ (fun _ => ?_) (fun _ => ?_) <;> try (exfalso; omega)) | (refine wq_gt ⟨by omega, by omega⟩ ⟨by omega, by omega⟩ (fun _ => ?_) (fun _ => ?_) <;> try (exfalso; omega)) | (refine wq_le ⟨by omega, by omega⟩ ⟨by omega, by omega⟩ (fun _ => ?_) (fun _ => ?_) <;> try (exfalso; omega)) | (refine wq_ifeq ⟨by omega, by omega⟩ (fun _ => ?_) (fun _ => ?_) <;> try (exfalso; omega)) | (refine wq_ifne ⟨by omega, by omega⟩ (fun _ => ?_) (fun _ => ?_) <;> try (exfalso; omega)) | (refine wq_iflt ⟨by omega, by omega⟩ (fun _ => ?_) (fun _ => ?_) <;> try (exfalso; omega)) | (refine wq_ifge ⟨by omega, by omega⟩ (fun _ => ?_) (fun _ => ?_) <;> try (exfalso; omega)) | (refine wq_ifgt ⟨by omega, by omega⟩ (fun _ => ?_) (fun _ => ?_) <;> try (exfalso; omega)) | (refine wq_ifle ⟨by omega, by omega⟩ (fun _ => ?_) (fun _ => ?_) <;> try (exfalso; omega)) | refine wq_r rfl rfl rfl rfl rfl rfl ?_)
      have fA : Fr (fun q => q = g ∨ q = g + 4 ∨ q = g + 5 ∨ q = g + 6) M2 M6 := (((f3.mono (fun q hq => by omega)).tr (f4.mono (fun q hq => by omega))).tr (f5.mono (fun q hq => by omega))).tr (f6.mono (fun q hq => by omega))
      refine ⟨rfl, (i4.tr (f2.mono (fun q hq => by unfold inG; omega))).tr (fA.mono (fun q hq => by unfold inG; omega)), X1, _, _, _, hg2.upd fA e6 (f6.at (by omega) l5) (f6.at (by omega) d5) (f6.at (by omega) e5) hN, fun j hj => ⟨i5 j (by omega), ?_, ?_, ?_⟩⟩
      · rw [cpz_in (by omega) (by omega)]; congr 1; omega
      · rw [cpz_in (by omega) (by omega)]; congr 1; omega
      · rw [cpz_in (by omega) (by omega)]; congr 1; omega
theorem c_Gr_copy (hgh : g + 59 ≤ h ∨ h + 59 ≤ g) (hg : Gm M g N p X mn lt dp us W) (hh : Gm M h N' p' X' mn' lt' dp' us' W') : Wm 2 [.ref g, .ref h] M (fun v M' => v = none ∧ Fr (inG g) M M' ∧ ∃ X2 lt2 dp2 us2, Gm M' g N' p X2 mn' lt2 dp2 us2 W' ∧ ∀ k, k < N' → X2 k = X' k ∧ lt2 k = lt' k ∧ dp2 k = dp' k ∧ us2 k = us' k) := by
  have hN := hh.le
  have hg1 := hg.obj
  have hh1 := hh.obj
  obtain ⟨-, -, -, hl1, hd1, hu1, -⟩ := id hg
  refine wm_in (lv := _) rfl rfl rfl ?_
  repeat (refine wf rfl ?_; first | refine wq_iadd ?_ | refine wq_isub ?_ | refine wq_imul ?_ | refine wq_iinc rfl ?_ | refine wq_goto ?_ | refine wq_k rfl ?_ | refine wq_b rfl rfl ?_ | refine wq_getf (by assumption) rfl ?_ | refine wq_alen (by assumption) rfl ?_)
  refine wf rfl (wq_putf hg1 rfl (fun M1 e1 f1 => ?_))
  have h1 : Gm M1 g N' p X mn lt dp us W := hg.upd (f1.mono (fun q hq => by omega)) e1 (f1.at (by omega) hl1) (f1.at (by omega) hd1) (f1.at (by omega) hu1) (by omega)
  have h1' := hh.fr f1 (fun q h1 h2 => by omega)
  repeat' (first | (refine Wp.sub (lp_gcopy (p := p) (mn := mn) (lt := lt) (dp := dp) (us := us) (W := W) (p' := p') hgh 100 _ _ ?_) ⟨rfl, rfl, rfl, trivial⟩ rfl) | (refine wf rfl ?_; first | refine wq_iadd ?_ | refine wq_isub ?_ | refine wq_imul ?_ | refine wq_iinc rfl ?_ | refine wq_goto ?_ | refine wq_k rfl ?_ | refine wq_b rfl rfl ?_ | refine wq_getf (by assumption) rfl ?_ | refine wq_alen (by assumption) rfl ?_ | fail | (refine wq_eq ⟨by omega, by omega⟩ ⟨by omega, by omega⟩ (fun _ => ?_) (fun _ => ?_) <;> try (exfalso; omega)) | (refine wq_ne ⟨by omega, by omega⟩ ⟨by omega, by omega⟩ (fun _ => ?_) (fun _ => ?_) <;> try (exfalso; omega)) | (refine wq_lt ⟨by omega, by omega⟩ ⟨by omega, by omega⟩ (fun _ => ?_) (fun _ => ?_) <;> try (exfalso; omega)) | (refine wq_ge ⟨by omega, by omega⟩ ⟨by omega, by omega⟩ (fun _ => ?_) (fun _ => ?_) <;> try (exfalso; omega)) | (refine wq_gt ⟨by omega, by omega⟩ ⟨by omega, by omega⟩ (fun _ => ?_) (fun _ => ?_) <;> try (exfalso; omega)) | (refine wq_le ⟨by omega, by omega⟩ ⟨by omega, by omega⟩ (fun _ => ?_) (fun _ => ?_) <;> try (exfalso; omega)) | (refine wq_ifeq ⟨by omega, by omega⟩ (fun _ => ?_) (fun _ => ?_) <;> try (exfalso; omega)) | (refine wq_ifne ⟨by omega, by omega⟩ (fun _ => ?_) (fun _ => ?_) <;> try (exfalso; omega)) | (refine wq_iflt ⟨by omega, by omega⟩ (fun _ => ?_) (fun _ => ?_) <;> try (exfalso; omega)) | (refine wq_ifge ⟨by omega, by omega⟩ (fun _ => ?_) (fun _ => ?_) <;> try (exfalso; omega)) | (refine wq_ifgt ⟨by omega, by omega⟩ (fun _ => ?_) (fun _ => ?_) <;> try (exfalso; omega)) | (refine wq_ifle ⟨by omega, by omega⟩ (fun _ => ?_) (fun _ => ?_) <;> try (exfalso; omega)) | refine wq_r rfl rfl rfl rfl rfl rfl ?_))
  exact ⟨by omega, by omega, by omega, f1.mono (fun q hq => by unfold inG; omega), h1', X, h1, fun j hj => by simp at hj⟩
end GR6
