/-- the best pair of the first places: the first with the most -/
def bst (xs : List Int) (z : Int × Int × Int) : Nat → Int × Int × Int
  | 0 => z
  | n + 1 => if (bst xs z n).2.2 < (cnt2 (rat xs n) (rat xs (n + 1 : Nat)) xs : Int) then (rat xs n, rat xs (n + 1 : Nat), (cnt2 (rat xs n) (rat xs (n + 1 : Nat)) xs : Int)) else bst xs z n
theorem cnt2_len (f s : Int) : ∀ (n : Nat) (xs : List Int), xs.length ≤ n → cnt2 f s xs ≤ xs.length
  | 0, [], _ => by simp [cnt2]
  | 0, x :: r, h => by simp at h
  | n + 1, [], _ => by simp [cnt2]
  | n + 1, [x], _ => by simp [cnt2]
  | n + 1, x :: y :: r, h => by
    rw [List.length_cons, List.length_cons] at h
    rw [cnt2, List.length_cons, List.length_cons]
    have h1 := cnt2_len f s n r (by omega)
    have h2 := cnt2_len f s n (y :: r) (by rw [List.length_cons]; omega)
    rw [List.length_cons] at h2
    split <;> omega
theorem bst_bd {xs : List Int} {f s : Int} : ∀ n : Nat, 0 ≤ (bst xs (f, s, 0) n).2.2 ∧ (bst xs (f, s, 0) n).2.2 ≤ xs.length
  | 0 => by
    rw [bst]
    show (0 : Int) ≤ 0 ∧ (0 : Int) ≤ xs.length
    omega
  | n + 1 => by
    have ih := bst_bd (xs := xs) (f := f) (s := s) n
    have hc := cnt2_len (rat xs n) (rat xs (n + 1 : Nat)) xs.length xs (Nat.le_refl _)
    rw [bst]
    split
    · dsimp only
      omega
    · exact ih
theorem bst_z {xs : List Int} {f s f' s' : Int} : ∀ n : Nat, (bst xs (f, s, 0) n).2.2 = (bst xs (f', s', 0) n).2.2 ∧ (0 < (bst xs (f, s, 0) n).2.2 → bst xs (f, s, 0) n = bst xs (f', s', 0) n)
  | 0 => by
    rw [bst, bst]
    exact ⟨rfl, fun z => absurd z (Int.lt_irrefl 0)⟩
  | n + 1 => by
    have ih := bst_z (xs := xs) (f := f) (s := s) (f' := f') (s' := s') n
    rw [bst, bst, ← ih.1]
    split
    · exact ⟨rfl, fun _ => rfl⟩
    · exact ih
section PR3
variable {M : PM} {q a : Nat} {u : Nat → Int} {bf bs bt : Int} {xs : List Int}
def bstAll (xs : List Int) (f s : Int) : Int × Int × Int := bst xs (f, s, 0) (xs.length - 1)
abbrev findPost (M : PM) (q : Nat) (bf bs : Int) (xs : List Int) : Option Value → PM → Prop := fun v M' => v = some (.int (I (if 0 < (bstAll xs bf bs).2.2 then 1 else 0))) ∧ Fr (fun z => z = q ∨ z = q + 1) M M' ∧ ∃ u', Pz M' q u' (bstAll xs bf bs).1 (bstAll xs bf bs).2.1 (bstAll xs bf bs).2.2
theorem lp_find (hr : Rw M a xs) (hb : SB xs) (ha : (a ≠ q ∧ a + 1 ≠ q) ∧ a ≠ q + 1 ∧ a + 1 ≠ q + 1) (n : Nat) : ∀ (k : Int) (M1 : PM), (0 ≤ k ∧ (k = 0 ∨ k + 1 ≤ xs.length) ∧ xs.length - k < n ∧ Fr (fun z => z = q ∨ z = q + 1) M M1 ∧ ∃ u1, Pz M1 q u1 (bst xs (bf, bs, 0) k.toNat).1 (bst xs (bf, bs, 0) k.toNat).2.1 (bst xs (bf, bs, 0) k.toNat).2.2 ∧ ∀ j : Int, 0 ≤ j → j + 1 < xs.length → u1 (key xs j).toNat = (cnt2 (rat xs j) (rat xs (j + 1)) xs : Int)) →
    Wp k_X3_findBest (12, [(0, .ref q), (1, .ref a), (2, .int (I k))], [], M1) (findPost M q bf bs xs) := by
  have hl := hr.len
  induction n with
  | zero => intro k M1 hi; exfalso; omega
  | succ n ih =>
    intro k M1 hi
    obtain ⟨i1, i2, i3, i4, u1, i5, i6⟩ := hi
    have hr1 := hr.fr i4 (by omega) (by omega)
    have hsz := c_Row_size hr1
    have bb := bst_bd (xs := xs) (f := bf) (s := bs) k.toNat
    obtain ⟨p1, p2⟩ := id i5
    obtain ⟨gg, r1, r2, r3, r4⟩ := id hr1
    repeat (refine wf rfl ?_; first | refine wq_iadd ?_ | refine wq_isub ?_ | refine wq_imul ?_ | refine wq_iinc rfl ?_ | refine wq_goto ?_ | refine wq_k rfl ?_ | refine wq_b rfl rfl ?_ | refine wq_getf (by assumption) rfl ?_ | refine wq_alen (by assumption) rfl ?_)
    refine wf rfl (wq_cv rfl rfl rfl r1 (hsz.mono ?_))
    rintro v M1 ⟨rfl, rfl⟩
    refine wf rfl (wq_ge ⟨by omega, by omega⟩ ⟨by omega, by omega⟩ (fun c2 => ?_) (fun c2 => ?_))
    · have e : k.toNat = xs.length - 1 := by omega
      have eB : bst xs (bf, bs, 0) k.toNat = bstAll xs bf bs := by rw [e]; rfl
      rw [eB] at p1 i5 bb
      repeat' (refine wf rfl ?_; first | refine wq_iadd ?_ | refine wq_isub ?_ | refine wq_imul ?_ | refine wq_iinc rfl ?_ | refine wq_goto ?_ | refine wq_k rfl ?_ | refine wq_b rfl rfl ?_ | refine wq_getf (by assumption) rfl ?_ | refine wq_alen (by assumption) rfl ?_ | (refine wq_eq ⟨by omega, by omega⟩ ⟨by omega, by omega⟩ (fun _ => ?_) (fun _ => ?_) <;> try (exfalso; omega)) | (refine wq_ne ⟨by omega, by omega⟩ ⟨by omega, by omega⟩ (fun _ => ?_) (fun _ => ?_) <;> try (exfalso; omega)) | (refine wq_lt ⟨by omega, by omega⟩ ⟨by omega, by omega⟩ (fun _ => ?_) (fun _ => ?_) <;> try (exfalso; omega)) | (refine wq_ge ⟨by omega, by omega⟩ ⟨by omega, by omega⟩ (fun _ => ?_) (fun _ => ?_) <;> try (exfalso; omega)) | (refine wq_gt ⟨by omega, by omega⟩ ⟨by omega, by omega⟩ (fun _ => ?_) (fun _ => ?_) <;> try (exfalso; omega)) | (refine wq_le ⟨by omega, by omega⟩ ⟨by omega, by omega⟩ (fun _ => ?_) (fun _ => ?_) <;> try (exfalso; omega)) | (refine wq_ifeq ⟨by omega, by omega⟩ (fun _ => ?_) (fun _ => ?_) <;> try (exfalso; omega)) | (refine wq_ifne ⟨by omega, by omega⟩ (fun _ => ?_) (fun _ => ?_) <;> try (exfalso; omega)) | (refine wq_iflt ⟨by omega, by omega⟩ (fun _ => ?_) (fun _ => ?_) <;> try (exfalso; omega)) | (refine wq_ifge ⟨by omega, by omega⟩ (fun _ => ?_) (fun _ => ?_) <;> try (exfalso; omega)) | (refine wq_ifgt ⟨by omega, by omega⟩ (fun _ => ?_) (fun _ => ?_) <;> try (exfalso; omega)) | (refine wq_ifle ⟨by omega, by omega⟩ (fun _ => ?_) (fun _ => ?_) <;> try (exfalso; omega)) | refine wq_r rfl rfl rfl rfl rfl rfl ?_)
      · exact ⟨by rw [if_neg (by omega)], i4, u1, i5⟩
      · exact ⟨by rw [if_pos (by omega)], i4, u1, i5⟩
    · have kb := key_bd hb i1 c2
      have hka := c_Pairs_keyAt i5 hr1 hb i1 c2
      have hu := i6 k i1 c2
      have hcl := cnt2_len (rat xs k) (rat xs (k + 1)) xs.length xs (Nat.le_refl _)
      have e1 : ((k.toNat : Nat) : Int) = k := by omega
      have e2 : (((k.toNat + 1 : Nat) : Nat) : Int) = k + 1 := by omega
      have hst : bst xs (bf, bs, 0) (k + 1).toNat = if (bst xs (bf, bs, 0) k.toNat).2.2 < (cnt2 (rat xs k) (rat xs (k + 1)) xs : Int) then (rat xs k, rat xs (k + 1), (cnt2 (rat xs k) (rat xs (k + 1)) xs : Int)) else bst xs (bf, bs, 0) k.toNat := by
        rw [show (k + 1).toNat = k.toNat + 1 by omega, bst, e1, e2]
      repeat (refine wf rfl ?_; first | refine wq_iadd ?_ | refine wq_isub ?_ | refine wq_imul ?_ | refine wq_iinc rfl ?_ | refine wq_goto ?_ | refine wq_k rfl ?_ | refine wq_b rfl rfl ?_ | refine wq_getf (by assumption) rfl ?_ | refine wq_alen (by assumption) rfl ?_)
      refine wf rfl (wq_cv rfl rfl rfl p1 (hka.mono ?_))
      rintro v M1 ⟨rfl, rfl⟩
      repeat (refine wf rfl ?_; first | refine wq_iadd ?_ | refine wq_isub ?_ | refine wq_imul ?_ | refine wq_iinc rfl ?_ | refine wq_goto ?_ | refine wq_k rfl ?_ | refine wq_b rfl rfl ?_ | refine wq_getf (by assumption) rfl ?_ | refine wq_alen (by assumption) rfl ?_)
      refine wf rfl (wq_iald p2 ⟨by omega, by omega⟩ (by omega) (by omega) ?_)
      rw [hu]
      repeat (refine wf rfl ?_; first | refine wq_iadd ?_ | refine wq_isub ?_ | refine wq_imul ?_ | refine wq_iinc rfl ?_ | refine wq_goto ?_ | refine wq_k rfl ?_ | refine wq_b rfl rfl ?_ | refine wq_getf (by assumption) rfl ?_ | refine wq_alen (by assumption) rfl ?_)
      refine wf rfl (wq_le ⟨by omega, by omega⟩ ⟨by omega, by omega⟩ (fun c3 => ?_) (fun c3 => ?_))
      · rw [if_neg (by omega)] at hst
        repeat' (first | (refine Wp.sub (ih _ _ ?_) ⟨rfl, rfl, rfl, trivial⟩ rfl) | (refine wf rfl ?_; first | refine wq_iadd ?_ | refine wq_isub ?_ | refine wq_imul ?_ | refine wq_iinc rfl ?_ | refine wq_goto ?_ | refine wq_k rfl ?_ | refine wq_b rfl rfl ?_ | refine wq_getf (by assumption) rfl ?_ | refine wq_alen (by assumption) rfl ?_ | fail | (refine wq_eq ⟨by omega, by omega⟩ ⟨by omega, by omega⟩ (fun _ => ?_) (fun _ => ?_) <;> try (exfalso; omega)) | (refine wq_ne ⟨by omega, by omega⟩ ⟨by omega, by omega⟩ (fun _ => ?_) (fun _ => ?_) <;> try (exfalso; omega)) | (refine wq_lt ⟨by omega, by omega⟩ ⟨by omega, by omega⟩ (fun _ => ?_) (fun _ => ?_) <;> try (exfalso; omega)) | (refine wq_ge ⟨by omega, by omega⟩ ⟨by omega, by omega⟩ (fun _ => ?_) (fun _ => ?_) <;> try (exfalso; omega)) | (refine wq_gt ⟨by omega, by omega⟩ ⟨by omega, by omega⟩ (fun _ => ?_) (fun _ => ?_) <;> try (exfalso; omega)) | (refine wq_le ⟨by omega, by omega⟩ ⟨by omega, by omega⟩ (fun _ => ?_) (fun _ => ?_) <;> try (exfalso; omega)) | (refine wq_ifeq ⟨by omega, by omega⟩ (fun _ => ?_) (fun _ => ?_) <;> try (exfalso; omega)) | (refine wq_ifne ⟨by omega, by omega⟩ (fun _ => ?_) (fun _ => ?_) <;> try (exfalso; omega)) | (refine wq_iflt ⟨by omega, by omega⟩ (fun _ => ?_) (fun _ => ?_) <;> try (exfalso; omega)) | (refine wq_ifge ⟨by omega, by omega⟩ (fun _ => ?_) (fun _ => ?_) <;> try (exfalso; omega)) | (refine wq_ifgt ⟨by omega, by omega⟩ (fun _ => ?_) (fun _ => ?_) <;> try (exfalso; omega)) | (refine wq_ifle ⟨by omega, by omega⟩ (fun _ => ?_) (fun _ => ?_) <;> try (exfalso; omega)) | refine wq_r rfl rfl rfl rfl rfl rfl ?_))
        refine ⟨by omega, by omega, by omega, i4, u1, ?_, i6⟩
        rw [hst]
        exact i5
      · rw [if_pos (by omega)] at hst
        have hat := c_Row_at (p := k) ⟨by omega, by omega⟩ hr1
        repeat (refine wf rfl ?_; first | refine wq_iadd ?_ | refine wq_isub ?_ | refine wq_imul ?_ | refine wq_iinc rfl ?_ | refine wq_goto ?_ | refine wq_k rfl ?_ | refine wq_b rfl rfl ?_ | refine wq_getf (by assumption) rfl ?_ | refine wq_alen (by assumption) rfl ?_)
        refine wf rfl (wq_cv rfl rfl rfl r1 (hat.mono ?_))
        rintro v M1 ⟨rfl, rfl⟩
        refine wf rfl (wq_putf p1 rfl (fun M2 g2 f2 => ?_))
        have hr2 := hr1.fr f2 (by omega) (by omega)
        have r5 := f2.at (by omega) r1
        have p3 := f2.at (by omega) p2
        have hat2 := c_Row_at (p := k + 1) ⟨by omega, by omega⟩ hr2
        repeat (refine wf rfl ?_; first | refine wq_iadd ?_ | refine wq_isub ?_ | refine wq_imul ?_ | refine wq_iinc rfl ?_ | refine wq_goto ?_ | refine wq_k rfl ?_ | refine wq_b rfl rfl ?_ | refine wq_getf (by assumption) rfl ?_ | refine wq_alen (by assumption) rfl ?_)
        refine wf rfl (wq_cv rfl rfl rfl r5 (hat2.mono ?_))
        rintro v M2 ⟨rfl, rfl⟩
        refine wf rfl (wq_putf g2 rfl (fun M3 g3 f3 => ?_))
        have p4 := f3.at (by omega) p3
        repeat (refine wf rfl ?_; first | refine wq_iadd ?_ | refine wq_isub ?_ | refine wq_imul ?_ | refine wq_iinc rfl ?_ | refine wq_goto ?_ | refine wq_k rfl ?_ | refine wq_b rfl rfl ?_ | refine wq_getf (by assumption) rfl ?_ | refine wq_alen (by assumption) rfl ?_)
        refine wf rfl (wq_iald p4 ⟨by omega, by omega⟩ (by omega) (by omega) ?_)
        rw [hu]
        refine wf rfl (wq_putf g3 rfl (fun M4 g4 f4 => ?_))
        have p5 := f4.at (by omega) p4
        repeat' (first | (refine Wp.sub (ih _ _ ?_) ⟨rfl, rfl, rfl, trivial⟩ rfl) | (refine wf rfl ?_; first | refine wq_iadd ?_ | refine wq_isub ?_ | refine wq_imul ?_ | refine wq_iinc rfl ?_ | refine wq_goto ?_ | refine wq_k rfl ?_ | refine wq_b rfl rfl ?_ | refine wq_getf (by assumption) rfl ?_ | refine wq_alen (by assumption) rfl ?_ | fail | (refine wq_eq ⟨by omega, by omega⟩ ⟨by omega, by omega⟩ (fun _ => ?_) (fun _ => ?_) <;> try (exfalso; omega)) | (refine wq_ne ⟨by omega, by omega⟩ ⟨by omega, by omega⟩ (fun _ => ?_) (fun _ => ?_) <;> try (exfalso; omega)) | (refine wq_lt ⟨by omega, by omega⟩ ⟨by omega, by omega⟩ (fun _ => ?_) (fun _ => ?_) <;> try (exfalso; omega)) | (refine wq_ge ⟨by omega, by omega⟩ ⟨by omega, by omega⟩ (fun _ => ?_) (fun _ => ?_) <;> try (exfalso; omega)) | (refine wq_gt ⟨by omega, by omega⟩ ⟨by omega, by omega⟩ (fun _ => ?_) (fun _ => ?_) <;> try (exfalso; omega)) | (refine wq_le ⟨by omega, by omega⟩ ⟨by omega, by omega⟩ (fun _ => ?_) (fun _ => ?_) <;> try (exfalso; omega)) | (refine wq_ifeq ⟨by omega, by omega⟩ (fun _ => ?_) (fun _ => ?_) <;> try (exfalso; omega)) | (refine wq_ifne ⟨by omega, by omega⟩ (fun _ => ?_) (fun _ => ?_) <;> try (exfalso; omega)) | (refine wq_iflt ⟨by omega, by omega⟩ (fun _ => ?_) (fun _ => ?_) <;> try (exfalso; omega)) | (refine wq_ifge ⟨by omega, by omega⟩ (fun _ => ?_) (fun _ => ?_) <;> try (exfalso; omega)) | (refine wq_ifgt ⟨by omega, by omega⟩ (fun _ => ?_) (fun _ => ?_) <;> try (exfalso; omega)) | (refine wq_ifle ⟨by omega, by omega⟩ (fun _ => ?_) (fun _ => ?_) <;> try (exfalso; omega)) | refine wq_r rfl rfl rfl rfl rfl rfl ?_))
        refine ⟨by omega, by omega, by omega, i4.tr (((f2.tr f3).tr f4).mono (fun z hz => Or.inl hz)), u1, ?_, i6⟩
        rw [hst]
        exact ⟨g4, p5⟩
theorem c_Pairs_findBest (h : Pz M q u bf bs bt) (hr : Rw M a xs) (hb : SB xs) (ha : (a ≠ q ∧ a + 1 ≠ q) ∧ a ≠ q + 1 ∧ a + 1 ≠ q + 1) : Wm 50 [.ref q, .ref a] M (findPost M q bf bs xs) := by
  have hl := hr.len
  obtain ⟨p1, p2⟩ := id h
  refine wm_in (lv := _) rfl rfl rfl ?_
  repeat (refine wf rfl ?_; first | refine wq_iadd ?_ | refine wq_isub ?_ | refine wq_imul ?_ | refine wq_iinc rfl ?_ | refine wq_goto ?_ | refine wq_k rfl ?_ | refine wq_b rfl rfl ?_ | refine wq_getf (by assumption) rfl ?_ | refine wq_alen (by assumption) rfl ?_)
  refine wf rfl (wq_cv rfl rfl rfl p1 ((c_Pairs_countAll h hr hb ha.2).mono ?_))
  rintro v M1 ⟨rfl, f1, u1, ⟨g1, g2⟩, h1⟩
  repeat (refine wf rfl ?_; first | refine wq_iadd ?_ | refine wq_isub ?_ | refine wq_imul ?_ | refine wq_iinc rfl ?_ | refine wq_goto ?_ | refine wq_k rfl ?_ | refine wq_b rfl rfl ?_ | refine wq_getf (by assumption) rfl ?_ | refine wq_alen (by assumption) rfl ?_)
  refine wf rfl (wq_putf g1 rfl (fun M2 g3 f2 => ?_))
  have g4 := f2.at (by omega) g2
  repeat' (first | (refine Wp.sub (lp_find (bf := bf) (bs := bs) hr hb ha (xs.length + 1) _ _ ?_) ⟨rfl, rfl, rfl, trivial⟩ rfl) | (refine wf rfl ?_; first | refine wq_iadd ?_ | refine wq_isub ?_ | refine wq_imul ?_ | refine wq_iinc rfl ?_ | refine wq_goto ?_ | refine wq_k rfl ?_ | refine wq_b rfl rfl ?_ | refine wq_getf (by assumption) rfl ?_ | refine wq_alen (by assumption) rfl ?_ | fail | (refine wq_eq ⟨by omega, by omega⟩ ⟨by omega, by omega⟩ (fun _ => ?_) (fun _ => ?_) <;> try (exfalso; omega)) | (refine wq_ne ⟨by omega, by omega⟩ ⟨by omega, by omega⟩ (fun _ => ?_) (fun _ => ?_) <;> try (exfalso; omega)) | (refine wq_lt ⟨by omega, by omega⟩ ⟨by omega, by omega⟩ (fun _ => ?_) (fun _ => ?_) <;> try (exfalso; omega)) | (refine wq_ge ⟨by omega, by omega⟩ ⟨by omega, by omega⟩ (fun _ => ?_) (fun _ => ?_) <;> try (exfalso; omega)) | (refine wq_gt ⟨by omega, by omega⟩ ⟨by omega, by omega⟩ (fun _ => ?_) (fun _ => ?_) <;> try (exfalso; omega)) | (refine wq_le ⟨by omega, by omega⟩ ⟨by omega, by omega⟩ (fun _ => ?_) (fun _ => ?_) <;> try (exfalso; omega)) | (refine wq_ifeq ⟨by omega, by omega⟩ (fun _ => ?_) (fun _ => ?_) <;> try (exfalso; omega)) | (refine wq_ifne ⟨by omega, by omega⟩ (fun _ => ?_) (fun _ => ?_) <;> try (exfalso; omega)) | (refine wq_iflt ⟨by omega, by omega⟩ (fun _ => ?_) (fun _ => ?_) <;> try (exfalso; omega)) | (refine wq_ifge ⟨by omega, by omega⟩ (fun _ => ?_) (fun _ => ?_) <;> try (exfalso; omega)) | (refine wq_ifgt ⟨by omega, by omega⟩ (fun _ => ?_) (fun _ => ?_) <;> try (exfalso; omega)) | (refine wq_ifle ⟨by omega, by omega⟩ (fun _ => ?_) (fun _ => ?_) <;> try (exfalso; omega)) | refine wq_r rfl rfl rfl rfl rfl rfl ?_))
  exact ⟨by omega, by omega, by omega, (f1.mono (fun z hz => Or.inr hz)).tr (f2.mono (fun z hz => Or.inl hz)), u1, ⟨g3, g4⟩, h1⟩
end PR3
