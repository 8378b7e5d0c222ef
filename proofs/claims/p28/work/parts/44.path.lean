/-! The way down to a letter (class Path): its object at b. -/
def Ph (M : PM) (b : Nat) (fl rp : Int) : Prop := M[b]? = some (.inr (4, [.int (I fl), .int (I rp)]))
/-- the letter at a place of a row, and how many rules are passed on the way to it -/
def fol (f : Int → Int) (X : Nat → List Int) : Nat → List Int → Int → Int × Int
  | 0, xs, q => (rat xs (posL f xs q), 0)
  | n + 1, xs, q => if 8 ≤ rat xs (posL f xs q) then ((fol f X n (X (rat xs (posL f xs q) - 8).toNat) (q - min (sumL f (xs.take (posL f xs q).toNat)) 10000)).1, (fol f X n (X (rat xs (posL f xs q) - 8).toNat) (q - min (sumL f (xs.take (posL f xs q).toNat)) 10000)).2 + 1) else (rat xs (posL f xs q), 0)
theorem posL_in (f : Int → Int) : ∀ (xs : List Int) (q : Int), 0 ≤ posL f xs q ∧ posL f xs q ≤ xs.length
  | [], q => by
    rw [posL]
    exact ⟨Int.le_refl _, by simp⟩
  | x :: r, q => by
    have ih := posL_in f r (q - f x)
    rw [posL, List.length_cons]
    split <;> omega
theorem sumL_nn (f : Int → Int) : ∀ xs : List Int, (∀ s ∈ xs, 0 ≤ f s) → 0 ≤ sumL f xs
  | [], _ => by
    rw [sumL]
    exact Int.le_refl _
  | x :: r, h => by
    have ih := sumL_nn f r (fun s hs => h s (List.mem_cons_of_mem _ hs))
    have h1 := h x (List.mem_cons.mpr (Or.inl rfl))
    rw [sumL]
    omega
section PATH
variable {M : PM} {b : Nat} {fl rp : Int}
variable {g N : Nat} {p : Nat → Nat} {X : Nat → List Int} {mn : List Int} {lt dp us : Nat → Int} {W : Int}
theorem lp_follow {pl : Int} (h : Gm M g N p X mn lt dp us W) (hX : WFX N X) (hlt : ∀ j, j < N → 0 ≤ lt j ∧ lt j ≤ 10000) (hd : b < g ∨ g + 59 ≤ b) (n : Nat) : ∀ (xs : List Int) (a : Nat) (q rp fl : Int) (M1 : PM), (n ≤ N ∧ WFm n xs ∧ Rw M1 a xs ∧ (a ≠ b ∧ a + 1 ≠ b) ∧ 0 ≤ rp ∧ rp + n ≤ 26 ∧ q ≤ 20000 ∧ -10000 * rp ≤ q ∧ Ph M1 b fl rp ∧ Fr (fun z => z = b) M M1) →
    Wp k_X4_follow (13, [(0, .ref b), (1, .ref g), (2, .int (I pl)), (3, .ref a), (4, .int (I q))], [], M1) (fun v M' => v = none ∧ Fr (fun z => z = b) M M' ∧ Ph M' b (fol (lsy N lt) X n xs q).1 (rp + (fol (lsy N lt) X n xs q).2)) := by
  have hN := h.le
  have hfs : ∀ s, 0 ≤ lsy N lt s ∧ lsy N lt s ≤ 10000 := by
    intro s
    unfold lsy
    split
    · exact hlt _ (by omega)
    · omega
  induction n with
  | zero =>
    intro xs a q rp fl M1 hi
    obtain ⟨i1, i2, i3, i4, i5, i6, i7, i8, i9, i10⟩ := hi
    have h1 := h.fr i10 (fun z z1 z2 => by omega)
    have hg1 := h1.obj
    have hl := i3.len
    have hsb : SB xs := fun s hs => by have := i2 s hs; omega
    have hpi := posL_in (lsy N lt) xs q
    have hpo := c_Gr_positionOf h1 i3 hsb (fun s _ => hfs s) (q := q) ⟨by omega, by omega⟩
    have hat := c_Row_at (p := posL (lsy N lt) xs q) ⟨by omega, by omega⟩ i3
    have hrb : -6 ≤ rat xs (posL (lsy N lt) xs q) ∧ rat xs (posL (lsy N lt) xs q) < 8 := by
      by_cases hz : posL (lsy N lt) xs q < xs.length
      · have := i2 _ (rat_mem hpi.1 hz)
        omega
      · rw [rat_out (by omega)]
        omega
    obtain ⟨gr, r1, -, -, -⟩ := id i3
    unfold Ph at i9
    repeat (refine wf rfl ?_; first | refine wq_iadd ?_ | refine wq_isub ?_ | refine wq_imul ?_ | refine wq_iinc rfl ?_ | refine wq_goto ?_ | refine wq_k rfl ?_ | refine wq_b rfl rfl ?_ | refine wq_getf (by assumption) rfl ?_ | refine wq_alen (by assumption) rfl ?_)
    refine wf rfl (wq_gt ⟨by omega, by omega⟩ ⟨by omega, by omega⟩ (fun c1 => by exfalso; omega) (fun c1 => ?_))
    repeat (refine wf rfl ?_; first | refine wq_iadd ?_ | refine wq_isub ?_ | refine wq_imul ?_ | refine wq_iinc rfl ?_ | refine wq_goto ?_ | refine wq_k rfl ?_ | refine wq_b rfl rfl ?_ | refine wq_getf (by assumption) rfl ?_ | refine wq_alen (by assumption) rfl ?_)
    refine wf rfl (wq_cv rfl rfl rfl hg1 (hpo.mono ?_))
    rintro v M1 ⟨rfl, rfl⟩
    repeat (refine wf rfl ?_; first | refine wq_iadd ?_ | refine wq_isub ?_ | refine wq_imul ?_ | refine wq_iinc rfl ?_ | refine wq_goto ?_ | refine wq_k rfl ?_ | refine wq_b rfl rfl ?_ | refine wq_getf (by assumption) rfl ?_ | refine wq_alen (by assumption) rfl ?_)
    refine wf rfl (wq_cv rfl rfl rfl r1 (hat.mono ?_))
    rintro v M1 ⟨rfl, rfl⟩
    refine wf rfl (wq_putf i9 rfl (fun M2 e2 f2 => ?_))
    have h2 := h1.fr f2 (fun z z1 z2 => by omega)
    have hg2 := h2.obj
    have hir := c_Gr_isRule (k := rat xs (posL (lsy N lt) xs q)) ⟨by omega, by omega⟩ h2
    rw [if_neg (by omega)] at hir
    repeat (refine wf rfl ?_; first | refine wq_iadd ?_ | refine wq_isub ?_ | refine wq_imul ?_ | refine wq_iinc rfl ?_ | refine wq_goto ?_ | refine wq_k rfl ?_ | refine wq_b rfl rfl ?_ | refine wq_getf (by assumption) rfl ?_ | refine wq_alen (by assumption) rfl ?_)
    refine wf rfl (wq_cv rfl rfl rfl hg2 (hir.mono ?_))
    rintro v M2 ⟨rfl, rfl⟩
    repeat' (refine wf rfl ?_; first | refine wq_iadd ?_ | refine wq_isub ?_ | refine wq_imul ?_ | refine wq_iinc rfl ?_ | refine wq_goto ?_ | refine wq_k rfl ?_ | refine wq_b rfl rfl ?_ | refine wq_getf (by assumption) rfl ?_ | refine wq_alen (by assumption) rfl ?_ | (refine wq_eq ⟨by omega, by omega⟩ ⟨by omega, by omega⟩ (fun _ => ?_) (fun _ => ?_) <;> try (exfalso; omega)) | (refine wq_ne ⟨by omega, by omega⟩ ⟨by omega, by omega⟩ (fun _ => ?_) (fun _ => ?_) <;> try (exfalso; omega)) | (refine wq_lt ⟨by omega, by omega⟩ ⟨by omega, by omega⟩ (fun _ => ?_) (fun _ => ?_) <;> try (exfalso; omega)) | (refine wq_ge ⟨by omega, by omega⟩ ⟨by omega, by omega⟩ (fun _ => ?_) (fun _ => ?_) <;> try (exfalso; omega)) | (refine wq_gt ⟨by omega, by omega⟩ ⟨by omega, by omega⟩ (fun _ => ?_) (fun _ => ?_) <;> try (exfalso; omega)) | (refine wq_le ⟨by omega, by omega⟩ ⟨by omega, by omega⟩ (fun _ => ?_) (fun _ => ?_) <;> try (exfalso; omega)) | (refine wq_ifeq ⟨by omega, by omega⟩ (fun _ => ?_) (fun _ => ?_) <;> try (exfalso; omega)) | (refine wq_ifne ⟨by omega, by omega⟩ (fun _ => ?_) (fun _ => ?_) <;> try (exfalso; omega)) | (refine wq_iflt ⟨by omega, by omega⟩ (fun _ => ?_) (fun _ => ?_) <;> try (exfalso; omega)) | (refine wq_ifge ⟨by omega, by omega⟩ (fun _ => ?_) (fun _ => ?_) <;> try (exfalso; omega)) | (refine wq_ifgt ⟨by omega, by omega⟩ (fun _ => ?_) (fun _ => ?_) <;> try (exfalso; omega)) | (refine wq_ifle ⟨by omega, by omega⟩ (fun _ => ?_) (fun _ => ?_) <;> try (exfalso; omega)) | refine wq_r rfl rfl rfl rfl rfl rfl ?_)
    rw [fol]
    exact ⟨rfl, i10.tr f2, by rw [show rp + 0 = rp by omega]; exact e2⟩
  | succ n ih =>
    intro xs a q rp fl M1 hi
    obtain ⟨i1, i2, i3, i4, i5, i6, i7, i8, i9, i10⟩ := hi
    have h1 := h.fr i10 (fun z z1 z2 => by omega)
    have hg1 := h1.obj
    have hl := i3.len
    have hsb : SB xs := fun s hs => by have := i2 s hs; omega
    have hpi := posL_in (lsy N lt) xs q
    have hpo := c_Gr_positionOf h1 i3 hsb (fun s _ => hfs s) (q := q) ⟨by omega, by omega⟩
    have hat := c_Row_at (p := posL (lsy N lt) xs q) ⟨by omega, by omega⟩ i3
    have hrb : -6 ≤ rat xs (posL (lsy N lt) xs q) ∧ rat xs (posL (lsy N lt) xs q) < 8 + (n + 1) := by
      by_cases hz : posL (lsy N lt) xs q < xs.length
      · have := i2 _ (rat_mem hpi.1 hz)
        omega
      · rw [rat_out (by omega)]
        omega
    obtain ⟨gr, r1, -, -, -⟩ := id i3
    unfold Ph at i9
    repeat (refine wf rfl ?_; first | refine wq_iadd ?_ | refine wq_isub ?_ | refine wq_imul ?_ | refine wq_iinc rfl ?_ | refine wq_goto ?_ | refine wq_k rfl ?_ | refine wq_b rfl rfl ?_ | refine wq_getf (by assumption) rfl ?_ | refine wq_alen (by assumption) rfl ?_)
    refine wf rfl (wq_gt ⟨by omega, by omega⟩ ⟨by omega, by omega⟩ (fun c1 => by exfalso; omega) (fun c1 => ?_))
    repeat (refine wf rfl ?_; first | refine wq_iadd ?_ | refine wq_isub ?_ | refine wq_imul ?_ | refine wq_iinc rfl ?_ | refine wq_goto ?_ | refine wq_k rfl ?_ | refine wq_b rfl rfl ?_ | refine wq_getf (by assumption) rfl ?_ | refine wq_alen (by assumption) rfl ?_)
    refine wf rfl (wq_cv rfl rfl rfl hg1 (hpo.mono ?_))
    rintro v M1 ⟨rfl, rfl⟩
    repeat (refine wf rfl ?_; first | refine wq_iadd ?_ | refine wq_isub ?_ | refine wq_imul ?_ | refine wq_iinc rfl ?_ | refine wq_goto ?_ | refine wq_k rfl ?_ | refine wq_b rfl rfl ?_ | refine wq_getf (by assumption) rfl ?_ | refine wq_alen (by assumption) rfl ?_)
    refine wf rfl (wq_cv rfl rfl rfl r1 (hat.mono ?_))
    rintro v M1 ⟨rfl, rfl⟩
    refine wf rfl (wq_putf i9 rfl (fun M2 e2 f2 => ?_))
    have h2 := h1.fr f2 (fun z z1 z2 => by omega)
    have hg2 := h2.obj
    have hir := c_Gr_isRule (k := rat xs (posL (lsy N lt) xs q)) ⟨by omega, by omega⟩ h2
    repeat (refine wf rfl ?_; first | refine wq_iadd ?_ | refine wq_isub ?_ | refine wq_imul ?_ | refine wq_iinc rfl ?_ | refine wq_goto ?_ | refine wq_k rfl ?_ | refine wq_b rfl rfl ?_ | refine wq_getf (by assumption) rfl ?_ | refine wq_alen (by assumption) rfl ?_)
    refine wf rfl (wq_cv rfl rfl rfl hg2 (hir.mono ?_))
    rintro v M2 ⟨rfl, rfl⟩
    by_cases hc : 8 ≤ rat xs (posL (lsy N lt) xs q)
    · rw [if_pos (by omega)]
      have hr2 := i3.fr f2 i4.1 i4.2
      have hla := c_Gr_lettersAhead h2 hr2 hsb (fun s _ => hfs s) (q := posL (lsy N lt) xs q) ⟨by omega, by omega⟩
      have hsn := sumL_nn (lsy N lt) (xs.take (posL (lsy N lt) xs q).toNat) (fun s _ => (hfs s).1)
      have hkk : (rat xs (posL (lsy N lt) xs q) - 8).toNat < N := by omega
      have hrr := c_Gr_ruleRow (k := rat xs (posL (lsy N lt) xs q) - 8) ⟨by omega, by omega⟩ h2
      rw [if_pos (by omega)] at hrr
      obtain ⟨jj, hjj, ejj⟩ := h2.pos (k := (rat xs (posL (lsy N lt) xs q) - 8).toNat) (by omega)
      have hrow := h2.row (k := (rat xs (posL (lsy N lt) xs q) - 8).toNat) (by omega)
      refine wf rfl (wq_ifne ⟨by omega, by omega⟩ (fun c3 => ?_) (fun c3 => by exfalso; omega))
      repeat (refine wf rfl ?_; first | refine wq_iadd ?_ | refine wq_isub ?_ | refine wq_imul ?_ | refine wq_iinc rfl ?_ | refine wq_goto ?_ | refine wq_k rfl ?_ | refine wq_b rfl rfl ?_ | refine wq_getf (by assumption) rfl ?_ | refine wq_alen (by assumption) rfl ?_)
      refine wf rfl (wq_cv rfl rfl rfl hg2 (hla.mono ?_))
      rintro v M2 ⟨rfl, rfl⟩
      repeat (refine wf rfl ?_; first | refine wq_iadd ?_ | refine wq_isub ?_ | refine wq_imul ?_ | refine wq_iinc rfl ?_ | refine wq_goto ?_ | refine wq_k rfl ?_ | refine wq_b rfl rfl ?_ | refine wq_getf (by assumption) rfl ?_ | refine wq_alen (by assumption) rfl ?_)
      refine wf rfl (wq_cv rfl rfl rfl hg2 (hrr.mono ?_))
      rintro v M2 ⟨rfl, rfl⟩
      repeat (refine wf rfl ?_; first | refine wq_iadd ?_ | refine wq_isub ?_ | refine wq_imul ?_ | refine wq_iinc rfl ?_ | refine wq_goto ?_ | refine wq_k rfl ?_ | refine wq_b rfl rfl ?_ | refine wq_getf (by assumption) rfl ?_ | refine wq_alen (by assumption) rfl ?_)
      refine wf rfl (wq_putf e2 rfl (fun M3 e3 f3 => ?_))
      have hrow3 := hrow.fr f3 (by omega) (by omega)
      have hst := fun (_ : True) => ih (X (rat xs (posL (lsy N lt) xs q) - 8).toNat) (p (rat xs (posL (lsy N lt) xs q) - 8).toNat) (q - min (sumL (lsy N lt) (xs.take (posL (lsy N lt) xs q).toNat)) 10000) (rp + 1) (rat xs (posL (lsy N lt) xs q)) M3 ⟨by omega, fun s hs => by have := hX _ hkk s hs; omega, hrow3, by omega, by omega, by omega, by omega, by omega, e3, (i10.tr f2).tr f3⟩
      rw [fol, if_pos hc]
      dsimp only
      rw [show ∀ z : Int, rp + (z + 1) = rp + 1 + z from fun z => by omega]
      repeat' (first | (refine Wp.sub (hst  ?_) ⟨rfl, rfl, rfl, rfl, rfl, trivial⟩ rfl) | (refine wf rfl ?_; first | refine wq_iadd ?_ | refine wq_isub ?_ | refine wq_imul ?_ | refine wq_iinc rfl ?_ | refine wq_goto ?_ | refine wq_k rfl ?_ | refine wq_b rfl rfl ?_ | refine wq_getf (by assumption) rfl ?_ | refine wq_alen (by assumption) rfl ?_ | fail | (refine wq_eq ⟨by omega, by omega⟩ ⟨by omega, by omega⟩ (fun _ => ?_) (fun _ => ?_) <;> try (exfalso; omega)) | (refine wq_ne ⟨by omega, by omega⟩ ⟨by omega, by omega⟩ (fun _ => ?_) (fun _ => ?_) <;> try (exfalso; omega)) | (refine wq_lt ⟨by omega, by omega⟩ ⟨by omega, by omega⟩ (fun _ => ?_) (fun _ => ?_) <;> try (exfalso; omega)) | (refine wq_ge ⟨by omega, by omega⟩ ⟨by omega, by omega⟩ (fun _ => ?_) (fun _ => ?_) <;> try (exfalso; omega)) | (refine wq_gt ⟨by omega, by omega⟩ ⟨by omega, by omega⟩ (fun _ => ?_) (fun _ => ?_) <;> try (exfalso; omega)) | (refine wq_le ⟨by omega, by omega⟩ ⟨by omega, by omega⟩ (fun _ => ?_) (fun _ => ?_) <;> try (exfalso; omega)) | (refine wq_ifeq ⟨by omega, by omega⟩ (fun _ => ?_) (fun _ => ?_) <;> try (exfalso; omega)) | (refine wq_ifne ⟨by omega, by omega⟩ (fun _ => ?_) (fun _ => ?_) <;> try (exfalso; omega)) | (refine wq_iflt ⟨by omega, by omega⟩ (fun _ => ?_) (fun _ => ?_) <;> try (exfalso; omega)) | (refine wq_ifge ⟨by omega, by omega⟩ (fun _ => ?_) (fun _ => ?_) <;> try (exfalso; omega)) | (refine wq_ifgt ⟨by omega, by omega⟩ (fun _ => ?_) (fun _ => ?_) <;> try (exfalso; omega)) | (refine wq_ifle ⟨by omega, by omega⟩ (fun _ => ?_) (fun _ => ?_) <;> try (exfalso; omega)) | refine wq_r rfl rfl rfl rfl rfl rfl ?_))
      trivial
    · rw [if_neg (by omega)]
      repeat' (refine wf rfl ?_; first | refine wq_iadd ?_ | refine wq_isub ?_ | refine wq_imul ?_ | refine wq_iinc rfl ?_ | refine wq_goto ?_ | refine wq_k rfl ?_ | refine wq_b rfl rfl ?_ | refine wq_getf (by assumption) rfl ?_ | refine wq_alen (by assumption) rfl ?_ | (refine wq_eq ⟨by omega, by omega⟩ ⟨by omega, by omega⟩ (fun _ => ?_) (fun _ => ?_) <;> try (exfalso; omega)) | (refine wq_ne ⟨by omega, by omega⟩ ⟨by omega, by omega⟩ (fun _ => ?_) (fun _ => ?_) <;> try (exfalso; omega)) | (refine wq_lt ⟨by omega, by omega⟩ ⟨by omega, by omega⟩ (fun _ => ?_) (fun _ => ?_) <;> try (exfalso; omega)) | (refine wq_ge ⟨by omega, by omega⟩ ⟨by omega, by omega⟩ (fun _ => ?_) (fun _ => ?_) <;> try (exfalso; omega)) | (refine wq_gt ⟨by omega, by omega⟩ ⟨by omega, by omega⟩ (fun _ => ?_) (fun _ => ?_) <;> try (exfalso; omega)) | (refine wq_le ⟨by omega, by omega⟩ ⟨by omega, by omega⟩ (fun _ => ?_) (fun _ => ?_) <;> try (exfalso; omega)) | (refine wq_ifeq ⟨by omega, by omega⟩ (fun _ => ?_) (fun _ => ?_) <;> try (exfalso; omega)) | (refine wq_ifne ⟨by omega, by omega⟩ (fun _ => ?_) (fun _ => ?_) <;> try (exfalso; omega)) | (refine wq_iflt ⟨by omega, by omega⟩ (fun _ => ?_) (fun _ => ?_) <;> try (exfalso; omega)) | (refine wq_ifge ⟨by omega, by omega⟩ (fun _ => ?_) (fun _ => ?_) <;> try (exfalso; omega)) | (refine wq_ifgt ⟨by omega, by omega⟩ (fun _ => ?_) (fun _ => ?_) <;> try (exfalso; omega)) | (refine wq_ifle ⟨by omega, by omega⟩ (fun _ => ?_) (fun _ => ?_) <;> try (exfalso; omega)) | refine wq_r rfl rfl rfl rfl rfl rfl ?_)
      rw [fol, if_neg hc]
      exact ⟨rfl, i10.tr f2, by rw [show rp + 0 = rp by omega]; exact e2⟩
end PATH
