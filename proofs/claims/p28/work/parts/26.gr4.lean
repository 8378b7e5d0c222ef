theorem sumL_congr {f f' : Int → Int} : ∀ {xs : List Int}, (∀ s ∈ xs, f s = f' s) → sumL f xs = sumL f' xs
  | [], _ => rfl
  | x :: r, h => by rw [sumL, sumL, h x List.mem_cons_self, sumL_congr (fun s hs => h s (List.mem_cons_of_mem _ hs))]
theorem mxD_congr {f f' : Int → Int} : ∀ {xs : List Int}, (∀ s ∈ xs, f s = f' s) → mxD f xs = mxD f' xs
  | [], _ => rfl
  | x :: r, h => by rw [mxD, mxD, h x List.mem_cons_self, mxD_congr (fun s hs => h s (List.mem_cons_of_mem _ hs))]
theorem mxD_bd {f : Int → Int} {B : Int} (hB : 0 ≤ B) : ∀ {xs : List Int}, (∀ s ∈ xs, f s ≤ B) → 0 ≤ mxD f xs ∧ mxD f xs ≤ B
  | [], _ => by simp [mxD, hB]
  | x :: r, h => by
    have ih := mxD_bd hB (f := f) (xs := r) (fun s hs => h s (List.mem_cons_of_mem _ hs))
    have := h x List.mem_cons_self
    rw [mxD]
    omega
/-- how often the rule j's symbol stands in the first k rows -/
def usS (X : Nat → List Int) (j : Nat) : Nat → Int
  | 0 => 0
  | k + 1 => usS X j k + (cntE (8 + (j : Int)) (X k) : Int)
/-- a well made grammar's symbols -/
def WFX (N : Nat) (X : Nat → List Int) : Prop := ∀ k, k < N → ∀ s ∈ X k, 0 ≤ s ∧ s < 8 + (k : Int)
def WFm (N : Nat) (mn : List Int) : Prop := ∀ s ∈ mn, 0 ≤ s ∧ s < 8 + (N : Int)
/-- what measure() makes -/
def Ms (N : Nat) (X : Nat → List Int) (mn : List Int) (lt dp us : Nat → Int) (W : Int) : Prop :=
  (∀ j, j < N → lt j = min (sumL (lsy N lt) (X j)) 10000 ∧ dp j = mxD (dsy N dp) (X j) + 1 ∧ 0 ≤ lt j ∧ lt j ≤ 10000 ∧ 0 ≤ dp j ∧ dp j ≤ (j : Int) + 1) ∧
  (∀ j, j < N → us j = usS X j N + (cntE (8 + (j : Int)) mn : Int)) ∧ W = min (sumL (lsy N lt) mn) 10000
theorem lsy_bd {N m : Nat} {lt : Nat → Int} {xs : List Int} (hm : m ≤ N) (h : ∀ j, j < m → 0 ≤ lt j ∧ lt j ≤ 10000) (hx : ∀ s ∈ xs, 0 ≤ s ∧ s < 8 + (m : Int)) : ∀ s ∈ xs, 0 ≤ lsy N lt s ∧ lsy N lt s ≤ 10000 := by
  intro s hs
  have h1 := hx s hs
  unfold lsy
  split
  · exact h _ (by omega)
  · omega
theorem lsy_eq {N m : Nat} {lt lt' : Nat → Int} {xs : List Int} (h : ∀ j, j < m → lt j = lt' j) (hx : ∀ s ∈ xs, 0 ≤ s ∧ s < 8 + (m : Int)) : ∀ s ∈ xs, lsy N lt s = lsy N lt' s := by
  intro s hs
  have h1 := hx s hs
  unfold lsy
  split
  · exact h _ (by omega)
  · rfl
theorem dsy_bd {N m : Nat} {dp : Nat → Int} {xs : List Int} (h : ∀ j, j < m → 0 ≤ dp j ∧ dp j ≤ (j : Int) + 1) (hx : ∀ s ∈ xs, 0 ≤ s ∧ s < 8 + (m : Int)) : ∀ s ∈ xs, 0 ≤ dsy N dp s ∧ dsy N dp s ≤ m := by
  intro s hs
  have h1 := hx s hs
  unfold dsy
  split
  · have := h (s - 8).toNat (by omega)
    omega
  · omega
theorem dsy_eq {N m : Nat} {dp dp' : Nat → Int} {xs : List Int} (h : ∀ j, j < m → dp j = dp' j) (hx : ∀ s ∈ xs, 0 ≤ s ∧ s < 8 + (m : Int)) : ∀ s ∈ xs, dsy N dp s = dsy N dp' s := by
  intro s hs
  have h1 := hx s hs
  unfold dsy
  split
  · exact h _ (by omega)
  · rfl
section GR4
variable {M : PM} {g N : Nat} {p : Nat → Nat} {X : Nat → List Int} {mn : List Int} {lt dp us : Nat → Int} {W : Int}
theorem lp_measure (hX : WFX N X) (hm : WFm N mn) (n : Nat) : ∀ (k : Int) (M1 : PM), (0 ≤ k ∧ k ≤ N ∧ N - k < n ∧ Fr (fun q => q = g ∨ q = g + 4 ∨ q = g + 5 ∨ q = g + 6) M M1 ∧ ∃ lt1 dp1 us1, Gm M1 g N p X mn lt1 dp1 us1 W ∧ (∀ j, j < k.toNat → lt1 j = min (sumL (lsy N lt1) (X j)) 10000 ∧ dp1 j = mxD (dsy N dp1) (X j) + 1 ∧ 0 ≤ lt1 j ∧ lt1 j ≤ 10000 ∧ 0 ≤ dp1 j ∧ dp1 j ≤ (j : Int) + 1) ∧ ∀ j, j < N → us1 j = usS X j k.toNat) →
    Wp k_X0_measure (10, [(0, .ref g), (1, .int (I k))], [], M1) (fun v M' => v = none ∧ Fr (fun q => q = g ∨ q = g + 4 ∨ q = g + 5 ∨ q = g + 6) M M' ∧ ∃ lt' dp' us' W', Gm M' g N p X mn lt' dp' us' W' ∧ Ms N X mn lt' dp' us' W') := by
  induction n with
  | zero => intro k M1 hi; exfalso; omega
  | succ n ih =>
    intro k M1 hi
    obtain ⟨i1, i2, i3, i4, lt1, dp1, us1, hg, i5, i6⟩ := hi
    have hN := hg.le
    have hg1 := hg.obj
    obtain ⟨-, ⟨f, hf1, hf2⟩, hmn, hl1, hd1, hu1, hrows, hpos, hinj, -⟩ := id hg
    by_cases hk : k < N
    · have hkk : k.toNat < 26 := by omega
      have hr := hg.row hkk
      have hsb := hX k.toNat (by omega)
      have hSB : SB (X k.toNat) := fun s hs => by have := hsb s hs; omega
      obtain ⟨jp, hjp, ejp⟩ := hpos k.toNat hkk
      have hfl := lsy_bd (N := N) (m := k.toNat) (lt := lt1) (by omega) (fun j hj => ⟨(i5 j hj).2.2.1, (i5 j hj).2.2.2.1⟩) hsb
      have hsz := c_Row_size hr
      have hlen := hr.len
      have hla := c_Gr_lettersAhead hg hr hSB hfl (q := (X k.toNat).length) ⟨by omega, by omega⟩
      rw [List.take_of_length_le (by omega)] at hla
      have bz := sumL_bd hfl
      generalize hv : min (sumL (lsy N lt1) (X k.toNat)) 10000 = vl at hla
      obtain ⟨gr, h1, h2, h3, h4⟩ := id hr
      refine wf rfl ?_
      refine wq_k rfl ?_
      repeat (refine wf rfl ?_; first | refine wq_iadd ?_ | refine wq_isub ?_ | refine wq_imul ?_ | refine wq_iinc rfl ?_ | refine wq_goto ?_ | refine wq_k rfl ?_ | refine wq_b rfl rfl ?_ | refine wq_getf (by assumption) rfl ?_ | refine wq_alen (by assumption) rfl ?_)
      refine wf rfl (wq_ge ⟨by omega, by omega⟩ ⟨by omega, by omega⟩ (fun c1 => by exfalso; omega) (fun c1 => ?_))
      repeat (refine wf rfl ?_; first | refine wq_iadd ?_ | refine wq_isub ?_ | refine wq_imul ?_ | refine wq_iinc rfl ?_ | refine wq_goto ?_ | refine wq_k rfl ?_ | refine wq_b rfl rfl ?_ | refine wq_getf (by assumption) rfl ?_ | refine wq_alen (by assumption) rfl ?_)
      refine wf rfl (wq_ge ⟨by omega, by omega⟩ ⟨by omega, by omega⟩ (fun c1 => by exfalso; omega) (fun c1 => ?_))
      repeat (refine wf rfl ?_; first | refine wq_iadd ?_ | refine wq_isub ?_ | refine wq_imul ?_ | refine wq_iinc rfl ?_ | refine wq_goto ?_ | refine wq_k rfl ?_ | refine wq_b rfl rfl ?_ | refine wq_getf (by assumption) rfl ?_ | refine wq_alen (by assumption) rfl ?_)
      refine wf rfl (wq_aald hf1 rfl ⟨by omega, by omega⟩ (by omega) (by omega) (hf2 _ hkk) ?_)
      repeat (refine wf rfl ?_; first | refine wq_iadd ?_ | refine wq_isub ?_ | refine wq_imul ?_ | refine wq_iinc rfl ?_ | refine wq_goto ?_ | refine wq_k rfl ?_ | refine wq_b rfl rfl ?_ | refine wq_getf (by assumption) rfl ?_ | refine wq_alen (by assumption) rfl ?_)
      refine wf rfl (wq_aald hf1 rfl ⟨by omega, by omega⟩ (by omega) (by omega) (hf2 _ hkk) ?_)
      refine wf rfl (wq_cv rfl rfl rfl h1 (hsz.mono ?_))
      rintro v M1 ⟨rfl, rfl⟩
      refine wf rfl (wq_cv rfl rfl rfl hg1 (hla.mono ?_))
      rintro v M1 ⟨rfl, rfl⟩
      refine wf rfl (wq_iast hl1 rfl ⟨by omega, by omega⟩ (by omega) (by omega) (fun M2 e2 f2 => ?_))
      have hg2 : Gm M2 g N p X mn (upz lt1 k.toNat vl) dp1 us1 W := hg.upd (f2.mono (fun q hq => by omega)) (f2.at (by omega) hg1) e2 (f2.at (by omega) hd1) (f2.at (by omega) hu1) hN
      have hr2 := hg2.row hkk
      have hfd := dsy_bd (N := N) (m := k.toNat) (dp := dp1) (fun j hj => ⟨(i5 j hj).2.2.2.2.1, (i5 j hj).2.2.2.2.2⟩) hsb
      have hdr := c_Gr_depthOfRow hg2 hr2 hSB (fun s hs => by have := hfd s hs; omega)
      have hmx := mxD_bd (f := dsy N dp1) (B := k.toNat) (by omega) (fun s hs => (hfd s hs).2)
      have hg21 := hg2.obj
      have hf12 := f2.at (by omega) hf1
      have hd12 := f2.at (by omega) hd1
      repeat (refine wf rfl ?_; first | refine wq_iadd ?_ | refine wq_isub ?_ | refine wq_imul ?_ | refine wq_iinc rfl ?_ | refine wq_goto ?_ | refine wq_k rfl ?_ | refine wq_b rfl rfl ?_ | refine wq_getf (by assumption) rfl ?_ | refine wq_alen (by assumption) rfl ?_)
      refine wf rfl (wq_aald hf12 rfl ⟨by omega, by omega⟩ (by omega) (by omega) (hf2 _ hkk) ?_)
      refine wf rfl (wq_cv rfl rfl rfl hg21 (hdr.mono ?_))
      rintro v M2 ⟨rfl, rfl⟩
      refine wf rfl (wq_iast hd12 rfl ⟨by omega, by omega⟩ (by omega) (by omega) (fun M3 e3 f3 => ?_))
      generalize hdv : mxD (dsy N dp1) (X k.toNat) + 1 = vd at e3 hmx
      have hg3 : Gm M3 g N p X mn (upz lt1 k.toNat vl) (upz dp1 k.toNat vd) us1 W := hg2.upd (f3.mono (fun q hq => by omega)) (f3.at (by omega) hg21) (f3.at (by omega) e2) e3 (f3.at (by omega) (f2.at (by omega) hu1)) hN
      have hr3 := hg3.row hkk
      have hnu := c_Gr_noteUses hg3 hr3 (by omega) hSB
      have hg31 := hg3.obj
      have hf13 := f3.at (by omega) hf12
      repeat (refine wf rfl ?_; first | refine wq_iadd ?_ | refine wq_isub ?_ | refine wq_imul ?_ | refine wq_iinc rfl ?_ | refine wq_goto ?_ | refine wq_k rfl ?_ | refine wq_b rfl rfl ?_ | refine wq_getf (by assumption) rfl ?_ | refine wq_alen (by assumption) rfl ?_)
      refine wf rfl (wq_aald hf13 rfl ⟨by omega, by omega⟩ (by omega) (by omega) (hf2 _ hkk) ?_)
      refine wf rfl (wq_cv rfl rfl rfl hg31 (hnu.mono ?_))
      rintro v M4 ⟨rfl, f4, u4, e4, q4⟩
      have hg4 := hg3.newUs f4 e4
      repeat' (first | (refine Wp.sub (ih _ _ ?_) ⟨rfl, rfl, trivial⟩ rfl) | (refine wf rfl ?_; first | refine wq_iadd ?_ | refine wq_isub ?_ | refine wq_imul ?_ | refine wq_iinc rfl ?_ | refine wq_goto ?_ | refine wq_k rfl ?_ | refine wq_b rfl rfl ?_ | refine wq_getf (by assumption) rfl ?_ | refine wq_alen (by assumption) rfl ?_ | fail | (refine wq_eq ⟨by omega, by omega⟩ ⟨by omega, by omega⟩ (fun _ => ?_) (fun _ => ?_) <;> try (exfalso; omega)) | (refine wq_ne ⟨by omega, by omega⟩ ⟨by omega, by omega⟩ (fun _ => ?_) (fun _ => ?_) <;> try (exfalso; omega)) | (refine wq_lt ⟨by omega, by omega⟩ ⟨by omega, by omega⟩ (fun _ => ?_) (fun _ => ?_) <;> try (exfalso; omega)) | (refine wq_ge ⟨by omega, by omega⟩ ⟨by omega, by omega⟩ (fun _ => ?_) (fun _ => ?_) <;> try (exfalso; omega)) | (refine wq_gt ⟨by omega, by omega⟩ ⟨by omega, by omega⟩ (fun _ => ?_) (fun _ => ?_) <;> try (exfalso; omega)) | (refine wq_le ⟨by omega, by omega⟩ ⟨by omega, by omega⟩ (fun _ => ?_) (fun _ => ?_) <;> try (exfalso; omega)) | (refine wq_ifeq ⟨by omega, by omega⟩ (fun _ => ?_) (fun _ => ?_) <;> try (exfalso; omega)) | (refine wq_ifne ⟨by omega, by omega⟩ (fun _ => ?_) (fun _ => ?_) <;> try (exfalso; omega)) | (refine wq_iflt ⟨by omega, by omega⟩ (fun _ => ?_) (fun _ => ?_) <;> try (exfalso; omega)) | (refine wq_ifge ⟨by omega, by omega⟩ (fun _ => ?_) (fun _ => ?_) <;> try (exfalso; omega)) | (refine wq_ifgt ⟨by omega, by omega⟩ (fun _ => ?_) (fun _ => ?_) <;> try (exfalso; omega)) | (refine wq_ifle ⟨by omega, by omega⟩ (fun _ => ?_) (fun _ => ?_) <;> try (exfalso; omega)) | refine wq_r rfl rfl rfl rfl rfl rfl ?_))
      have ekn : (k + 1).toNat = k.toNat + 1 := by omega
      have hlteq : ∀ j, j < k.toNat → upz lt1 k.toNat vl j = lt1 j := fun j hj => upz_ne _ _ (by omega)
      have hdpeq : ∀ j, j < k.toNat → upz dp1 k.toNat vd j = dp1 j := fun j hj => upz_ne _ _ (by omega)
      refine ⟨by omega, by omega, by omega, ((i4.tr (f2.mono (fun q hq => by omega))).tr (f3.mono (fun q hq => by omega))).tr (f4.mono (fun q hq => by omega)), _, _, _, hg4, ?_, ?_⟩
      · intro j hj
        rw [ekn] at hj
        by_cases he : j < k.toNat
        · have hxj : ∀ s ∈ X j, 0 ≤ s ∧ s < 8 + ((k.toNat : Nat) : Int) := fun s hs => by have := hX j (by omega) s hs; omega
          rw [hlteq j he, hdpeq j he, sumL_congr (lsy_eq (N := N) (lt' := lt1) hlteq hxj), mxD_congr (dsy_eq (N := N) (dp' := dp1) hdpeq hxj)]
          exact i5 j he
        · have he : j = k.toNat := by omega
          subst he
          rw [upz_at, upz_at, sumL_congr (lsy_eq (N := N) (lt' := lt1) hlteq hsb), mxD_congr (dsy_eq (N := N) (dp' := dp1) hdpeq hsb)]
          exact ⟨hv.symm, hdv.symm, by omega, by omega, by omega, by omega⟩
      · intro j hj
        rw [ekn, usS, ← i6 j hj, q4 j, if_pos hj]
    · have ek : k.toNat = N := by omega
      rw [ek] at i5 i6
      have hSBm : SB mn := fun s hs => by have := hm s hs; omega
      have hfl := lsy_bd (N := N) (m := N) (lt := lt1) (Nat.le_refl _) (fun j hj => ⟨(i5 j hj).2.2.1, (i5 j hj).2.2.2.1⟩) hm
      have hsz := c_Row_size hmn
      have hlen := hmn.len
      have hla := c_Gr_lettersAhead hg hmn hSBm hfl (q := mn.length) ⟨by omega, by omega⟩
      rw [List.take_of_length_le (by omega)] at hla
      generalize hv : min (sumL (lsy N lt1) mn) 10000 = vl at hla
      obtain ⟨gr, h1, h2, h3, h4⟩ := id hmn
      refine wf rfl ?_
      refine wq_k rfl ?_
      repeat (refine wf rfl ?_; first | refine wq_iadd ?_ | refine wq_isub ?_ | refine wq_imul ?_ | refine wq_iinc rfl ?_ | refine wq_goto ?_ | refine wq_k rfl ?_ | refine wq_b rfl rfl ?_ | refine wq_getf (by assumption) rfl ?_ | refine wq_alen (by assumption) rfl ?_)
      refine wf rfl (wq_ge ⟨by omega, by omega⟩ ⟨by omega, by omega⟩ (fun c1 => ?_) (fun c1 => by exfalso; omega))
      repeat (refine wf rfl ?_; first | refine wq_iadd ?_ | refine wq_isub ?_ | refine wq_imul ?_ | refine wq_iinc rfl ?_ | refine wq_goto ?_ | refine wq_k rfl ?_ | refine wq_b rfl rfl ?_ | refine wq_getf (by assumption) rfl ?_ | refine wq_alen (by assumption) rfl ?_)
      refine wf rfl (wq_cv rfl rfl rfl h1 (hsz.mono ?_))
      rintro v M1 ⟨rfl, rfl⟩
      refine wf rfl (wq_cv rfl rfl rfl hg1 (hla.mono ?_))
      rintro v M1 ⟨rfl, rfl⟩
      refine wf rfl (wq_putf hg1 rfl (fun M2 e2 f2 => ?_))
      have hg2 : Gm M2 g N p X mn lt1 dp1 us1 vl := hg.upd (f2.mono (fun q hq => by omega)) e2 (f2.at (by omega) hl1) (f2.at (by omega) hd1) (f2.at (by omega) hu1) hN
      have hnu := c_Gr_noteUses hg2 hg2.main (by omega) hSBm
      have hg21 := hg2.obj
      repeat (refine wf rfl ?_; first | refine wq_iadd ?_ | refine wq_isub ?_ | refine wq_imul ?_ | refine wq_iinc rfl ?_ | refine wq_goto ?_ | refine wq_k rfl ?_ | refine wq_b rfl rfl ?_ | refine wq_getf (by assumption) rfl ?_ | refine wq_alen (by assumption) rfl ?_)
      refine wf rfl (wq_cv rfl rfl rfl hg21 (hnu.mono ?_))
      rintro v M4 ⟨rfl, f4, u4, e4, q4⟩
      have hg4 := hg2.newUs f4 e4
      repeat' (refine wf rfl ?_; first | refine wq_iadd ?_ | refine wq_isub ?_ | refine wq_imul ?_ | refine wq_iinc rfl ?_ | refine wq_goto ?_ | refine wq_k rfl ?_ | refine wq_b rfl rfl ?_ | refine wq_getf (by assumption) rfl ?_ | refine wq_alen (by assumption) rfl ?_ | (refine wq_eq ⟨by omega, by omega⟩ ⟨by omega, by omega⟩ (fun _ => ?_) (fun _ => ?_) <;> try (exfalso; omega)) | (refine wq_ne ⟨by omega, by omega⟩ ⟨by omega, by omega⟩ (fun _ => ?_) (fun _ => ?_) <;> try (exfalso; omega)) | (refine wq_lt ⟨by omega, by omega⟩ ⟨by omega, by omega⟩ (fun _ => ?_) (fun _ => ?_) <;> try (exfalso; omega)) | (refine wq_ge ⟨by omega, by omega⟩ ⟨by omega, by omega⟩ (fun _ => ?_) (fun _ => ?_) <;> try (exfalso; omega)) | (refine wq_gt ⟨by omega, by omega⟩ ⟨by omega, by omega⟩ (fun _ => ?_) (fun _ => ?_) <;> try (exfalso; omega)) | (refine wq_le ⟨by omega, by omega⟩ ⟨by omega, by omega⟩ (fun _ => ?_) (fun _ => ?_) <;> try (exfalso; omega)) | (refine wq_ifeq ⟨by omega, by omega⟩ (fun _ => ?_) (fun _ => ?_) <;> try (exfalso; omega)) | (refine wq_ifne ⟨by omega, by omega⟩ (fun _ => ?_) (fun _ => ?_) <;> try (exfalso; omega)) | (refine wq_iflt ⟨by omega, by omega⟩ (fun _ => ?_) (fun _ => ?_) <;> try (exfalso; omega)) | (refine wq_ifge ⟨by omega, by omega⟩ (fun _ => ?_) (fun _ => ?_) <;> try (exfalso; omega)) | (refine wq_ifgt ⟨by omega, by omega⟩ (fun _ => ?_) (fun _ => ?_) <;> try (exfalso; omega)) | (refine wq_ifle ⟨by omega, by omega⟩ (fun _ => ?_) (fun _ => ?_) <;> try (exfalso; omega)) | refine wq_r rfl rfl rfl rfl rfl rfl ?_)
      exact ⟨rfl, (i4.tr (f2.mono (fun q hq => by omega))).tr (f4.mono (fun q hq => by omega)), _, _, _, _, hg4, i5, fun j hj => by rw [q4 j, if_pos hj, i6 j hj], hv.symm⟩
theorem c_Gr_measure (h : Gm M g N p X mn lt dp us W) (hX : WFX N X) (hm : WFm N mn) : Wm 20 [.ref g] M (fun v M' => v = none ∧ Fr (fun q => q = g ∨ q = g + 4 ∨ q = g + 5 ∨ q = g + 6) M M' ∧ ∃ lt' dp' us' W', Gm M' g N p X mn lt' dp' us' W' ∧ Ms N X mn lt' dp' us' W') := by
  have hN := h.le
  have hg1 := h.obj
  obtain ⟨-, -, -, hl1, hd1, hu1, -⟩ := id h
  have hfi := c_fill (M := M) (a := g + 6) (v := 0) rfl (by omega) hu1
  refine wm_in (lv := _) rfl rfl rfl ?_
  repeat (refine wf rfl ?_; first | refine wq_iadd ?_ | refine wq_isub ?_ | refine wq_imul ?_ | refine wq_iinc rfl ?_ | refine wq_goto ?_ | refine wq_k rfl ?_ | refine wq_b rfl rfl ?_ | refine wq_getf (by assumption) rfl ?_ | refine wq_alen (by assumption) rfl ?_)
  refine wf rfl (wq_cs rfl rfl (hfi.mono ?_))
  rintro v M1 ⟨rfl, f1, u, e1, q1⟩
  have hg := h.newUs f1 e1
  repeat' (first | (refine Wp.sub (lp_measure (p := p) (W := W) hX hm 100 _ _ ?_) ⟨rfl, rfl, trivial⟩ rfl) | (refine wf rfl ?_; first | refine wq_iadd ?_ | refine wq_isub ?_ | refine wq_imul ?_ | refine wq_iinc rfl ?_ | refine wq_goto ?_ | refine wq_k rfl ?_ | refine wq_b rfl rfl ?_ | refine wq_getf (by assumption) rfl ?_ | refine wq_alen (by assumption) rfl ?_ | fail | (refine wq_eq ⟨by omega, by omega⟩ ⟨by omega, by omega⟩ (fun _ => ?_) (fun _ => ?_) <;> try (exfalso; omega)) | (refine wq_ne ⟨by omega, by omega⟩ ⟨by omega, by omega⟩ (fun _ => ?_) (fun _ => ?_) <;> try (exfalso; omega)) | (refine wq_lt ⟨by omega, by omega⟩ ⟨by omega, by omega⟩ (fun _ => ?_) (fun _ => ?_) <;> try (exfalso; omega)) | (refine wq_ge ⟨by omega, by omega⟩ ⟨by omega, by omega⟩ (fun _ => ?_) (fun _ => ?_) <;> try (exfalso; omega)) | (refine wq_gt ⟨by omega, by omega⟩ ⟨by omega, by omega⟩ (fun _ => ?_) (fun _ => ?_) <;> try (exfalso; omega)) | (refine wq_le ⟨by omega, by omega⟩ ⟨by omega, by omega⟩ (fun _ => ?_) (fun _ => ?_) <;> try (exfalso; omega)) | (refine wq_ifeq ⟨by omega, by omega⟩ (fun _ => ?_) (fun _ => ?_) <;> try (exfalso; omega)) | (refine wq_ifne ⟨by omega, by omega⟩ (fun _ => ?_) (fun _ => ?_) <;> try (exfalso; omega)) | (refine wq_iflt ⟨by omega, by omega⟩ (fun _ => ?_) (fun _ => ?_) <;> try (exfalso; omega)) | (refine wq_ifge ⟨by omega, by omega⟩ (fun _ => ?_) (fun _ => ?_) <;> try (exfalso; omega)) | (refine wq_ifgt ⟨by omega, by omega⟩ (fun _ => ?_) (fun _ => ?_) <;> try (exfalso; omega)) | (refine wq_ifle ⟨by omega, by omega⟩ (fun _ => ?_) (fun _ => ?_) <;> try (exfalso; omega)) | refine wq_r rfl rfl rfl rfl rfl rfl ?_))
  exact ⟨by omega, by omega, by omega, f1.mono (fun q hq => by omega), _, _, _, hg, fun j hj => by simp at hj, fun j hj => q1 j (by omega)⟩
end GR4
