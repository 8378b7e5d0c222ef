def sumL (f : Int → Int) : List Int → Int
  | [] => 0
  | x :: r => f x + sumL f r
theorem sumL_app (f : Int → Int) : ∀ xs ys : List Int, sumL f (xs ++ ys) = sumL f xs + sumL f ys
  | [], ys => by simp [sumL]
  | x :: r, ys => by rw [List.cons_append, sumL, sumL, sumL_app f r ys, Int.add_assoc]
theorem sumL_bd {f : Int → Int} : ∀ {xs : List Int}, (∀ s ∈ xs, 0 ≤ f s ∧ f s ≤ 10000) → 0 ≤ sumL f xs ∧ sumL f xs ≤ 10000 * (xs.length : Int)
  | [], _ => by simp [sumL]
  | x :: r, h => by
    have ih := sumL_bd (f := f) (xs := r) (fun s hs => h s (List.mem_cons_of_mem _ hs))
    have hx := h x List.mem_cons_self
    rw [sumL, List.length_cons]
    omega
theorem sumL_take {f : Int → Int} {xs : List Int} {p : Int} (h0 : 0 ≤ p) (h : p < xs.length) : sumL f (xs.take (p + 1).toNat) = sumL f (xs.take p.toNat) + f (rat xs p) := by
  rw [show (p + 1).toNat = p.toNat + 1 by omega, ← take_rat h0 h, sumL_app]
  simp [sumL]
theorem rat_mem {xs : List Int} {p : Int} (h0 : 0 ≤ p) (h : p < xs.length) : rat xs p ∈ xs := by
  rw [rat_in h0 (List.getElem?_eq_getElem (l := xs) (i := p.toNat) (by omega))]
  exact List.getElem_mem _
section GR2
variable {M : PM} {g N : Nat} {p : Nat → Nat} {X : Nat → List Int} {mn : List Int} {lt dp us : Nat → Int} {W : Int} {a : Nat} {xs : List Int}
theorem lp_ahead (h : Gm M g N p X mn lt dp us W) (hr : Rw M a xs) (hb : SB xs) (hf : ∀ s ∈ xs, 0 ≤ lsy N lt s ∧ lsy N lt s ≤ 10000) {q : Int} (hq : inR q) (n : Nat) : ∀ (z k : Int), (0 ≤ k ∧ k ≤ xs.length ∧ xs.length - k < n ∧ (k ≤ q ∨ k = 0) ∧ z = sumL (lsy N lt) (xs.take k.toNat)) →
    Wp k_X0_lettersAhead (5, [(0, .ref g), (1, .ref a), (2, .int (I q)), (3, .int (I z)), (4, .int (I k))], [], M) (fun v M' => v = some (.int (I (min (sumL (lsy N lt) (xs.take q.toNat)) 10000))) ∧ M' = M) := by
  obtain ⟨hq1, hq2⟩ := hq
  have hl := hr.len
  have hg1 := h.obj
  induction n with
  | zero => intro z k hi; exfalso; omega
  | succ n ih =>
    intro z k hi
    obtain ⟨i1, i2, i3, i4, i5⟩ := hi
    have hsz := c_Row_size hr
    have hat := c_Row_at (p := k) ⟨by omega, by omega⟩ hr
    have bd := rat_bd hb k
    have hls := c_Gr_lettersOfSymbol (s := rat xs k) (by omega) h
    have bz := sumL_bd (f := lsy N lt) (xs := xs.take k.toNat) (fun s hs => hf s (List.mem_of_mem_take hs))
    rw [List.length_take] at bz
    have hmin := c_min (M := M) (x := z) (y := 10000) ⟨by omega, by omega⟩ ⟨by omega, by omega⟩
    obtain ⟨gg, h1, h2, h3, h4⟩ := id hr
    have ex : (q ≤ k ∨ (xs.length : Int) ≤ k) → sumL (lsy N lt) (xs.take q.toNat) = z := by
      intro hc
      rw [i5]
      rcases hc with hc | hc
      · congr 2; omega
      · rw [List.take_of_length_le (by omega), List.take_of_length_le (by omega)]
    repeat (refine wf rfl ?_; first | refine wq_iadd ?_ | refine wq_isub ?_ | refine wq_imul ?_ | refine wq_iinc rfl ?_ | refine wq_goto ?_ | refine wq_k rfl ?_ | refine wq_b rfl rfl ?_ | refine wq_getf (by assumption) rfl ?_ | refine wq_alen (by assumption) rfl ?_)
    refine wf rfl (wq_ge ⟨by omega, by omega⟩ ⟨by omega, by omega⟩ (fun c1 => ?_) (fun c1 => ?_))
    · repeat (refine wf rfl ?_; first | refine wq_iadd ?_ | refine wq_isub ?_ | refine wq_imul ?_ | refine wq_iinc rfl ?_ | refine wq_goto ?_ | refine wq_k rfl ?_ | refine wq_b rfl rfl ?_ | refine wq_getf (by assumption) rfl ?_ | refine wq_alen (by assumption) rfl ?_)
      refine wf rfl (wq_cs rfl rfl (hmin.mono ?_))
      rintro v M ⟨rfl, rfl⟩
      repeat' (refine wf rfl ?_; first | refine wq_iadd ?_ | refine wq_isub ?_ | refine wq_imul ?_ | refine wq_iinc rfl ?_ | refine wq_goto ?_ | refine wq_k rfl ?_ | refine wq_b rfl rfl ?_ | refine wq_getf (by assumption) rfl ?_ | refine wq_alen (by assumption) rfl ?_ | (refine wq_eq ⟨by omega, by omega⟩ ⟨by omega, by omega⟩ (fun _ => ?_) (fun _ => ?_) <;> try (exfalso; omega)) | (refine wq_ne ⟨by omega, by omega⟩ ⟨by omega, by omega⟩ (fun _ => ?_) (fun _ => ?_) <;> try (exfalso; omega)) | (refine wq_lt ⟨by omega, by omega⟩ ⟨by omega, by omega⟩ (fun _ => ?_) (fun _ => ?_) <;> try (exfalso; omega)) | (refine wq_ge ⟨by omega, by omega⟩ ⟨by omega, by omega⟩ (fun _ => ?_) (fun _ => ?_) <;> try (exfalso; omega)) | (refine wq_gt ⟨by omega, by omega⟩ ⟨by omega, by omega⟩ (fun _ => ?_) (fun _ => ?_) <;> try (exfalso; omega)) | (refine wq_le ⟨by omega, by omega⟩ ⟨by omega, by omega⟩ (fun _ => ?_) (fun _ => ?_) <;> try (exfalso; omega)) | (refine wq_ifeq ⟨by omega, by omega⟩ (fun _ => ?_) (fun _ => ?_) <;> try (exfalso; omega)) | (refine wq_ifne ⟨by omega, by omega⟩ (fun _ => ?_) (fun _ => ?_) <;> try (exfalso; omega)) | (refine wq_iflt ⟨by omega, by omega⟩ (fun _ => ?_) (fun _ => ?_) <;> try (exfalso; omega)) | (refine wq_ifge ⟨by omega, by omega⟩ (fun _ => ?_) (fun _ => ?_) <;> try (exfalso; omega)) | (refine wq_ifgt ⟨by omega, by omega⟩ (fun _ => ?_) (fun _ => ?_) <;> try (exfalso; omega)) | (refine wq_ifle ⟨by omega, by omega⟩ (fun _ => ?_) (fun _ => ?_) <;> try (exfalso; omega)) | refine wq_r rfl rfl rfl rfl rfl rfl ?_)
      exact ⟨by rw [ex (Or.inl c1)], rfl⟩
    · repeat (refine wf rfl ?_; first | refine wq_iadd ?_ | refine wq_isub ?_ | refine wq_imul ?_ | refine wq_iinc rfl ?_ | refine wq_goto ?_ | refine wq_k rfl ?_ | refine wq_b rfl rfl ?_ | refine wq_getf (by assumption) rfl ?_ | refine wq_alen (by assumption) rfl ?_)
      refine wf rfl (wq_cv rfl rfl rfl h1 (hsz.mono ?_))
      rintro v M ⟨rfl, rfl⟩
      refine wf rfl (wq_ge ⟨by omega, by omega⟩ ⟨by omega, by omega⟩ (fun c2 => ?_) (fun c2 => ?_))
      · repeat (refine wf rfl ?_; first | refine wq_iadd ?_ | refine wq_isub ?_ | refine wq_imul ?_ | refine wq_iinc rfl ?_ | refine wq_goto ?_ | refine wq_k rfl ?_ | refine wq_b rfl rfl ?_ | refine wq_getf (by assumption) rfl ?_ | refine wq_alen (by assumption) rfl ?_)
        refine wf rfl (wq_cs rfl rfl (hmin.mono ?_))
        rintro v M ⟨rfl, rfl⟩
        repeat' (refine wf rfl ?_; first | refine wq_iadd ?_ | refine wq_isub ?_ | refine wq_imul ?_ | refine wq_iinc rfl ?_ | refine wq_goto ?_ | refine wq_k rfl ?_ | refine wq_b rfl rfl ?_ | refine wq_getf (by assumption) rfl ?_ | refine wq_alen (by assumption) rfl ?_ | (refine wq_eq ⟨by omega, by omega⟩ ⟨by omega, by omega⟩ (fun _ => ?_) (fun _ => ?_) <;> try (exfalso; omega)) | (refine wq_ne ⟨by omega, by omega⟩ ⟨by omega, by omega⟩ (fun _ => ?_) (fun _ => ?_) <;> try (exfalso; omega)) | (refine wq_lt ⟨by omega, by omega⟩ ⟨by omega, by omega⟩ (fun _ => ?_) (fun _ => ?_) <;> try (exfalso; omega)) | (refine wq_ge ⟨by omega, by omega⟩ ⟨by omega, by omega⟩ (fun _ => ?_) (fun _ => ?_) <;> try (exfalso; omega)) | (refine wq_gt ⟨by omega, by omega⟩ ⟨by omega, by omega⟩ (fun _ => ?_) (fun _ => ?_) <;> try (exfalso; omega)) | (refine wq_le ⟨by omega, by omega⟩ ⟨by omega, by omega⟩ (fun _ => ?_) (fun _ => ?_) <;> try (exfalso; omega)) | (refine wq_ifeq ⟨by omega, by omega⟩ (fun _ => ?_) (fun _ => ?_) <;> try (exfalso; omega)) | (refine wq_ifne ⟨by omega, by omega⟩ (fun _ => ?_) (fun _ => ?_) <;> try (exfalso; omega)) | (refine wq_iflt ⟨by omega, by omega⟩ (fun _ => ?_) (fun _ => ?_) <;> try (exfalso; omega)) | (refine wq_ifge ⟨by omega, by omega⟩ (fun _ => ?_) (fun _ => ?_) <;> try (exfalso; omega)) | (refine wq_ifgt ⟨by omega, by omega⟩ (fun _ => ?_) (fun _ => ?_) <;> try (exfalso; omega)) | (refine wq_ifle ⟨by omega, by omega⟩ (fun _ => ?_) (fun _ => ?_) <;> try (exfalso; omega)) | refine wq_r rfl rfl rfl rfl rfl rfl ?_)
        exact ⟨by rw [ex (Or.inr c2)], rfl⟩
      · repeat (refine wf rfl ?_; first | refine wq_iadd ?_ | refine wq_isub ?_ | refine wq_imul ?_ | refine wq_iinc rfl ?_ | refine wq_goto ?_ | refine wq_k rfl ?_ | refine wq_b rfl rfl ?_ | refine wq_getf (by assumption) rfl ?_ | refine wq_alen (by assumption) rfl ?_)
        refine wf rfl (wq_cv rfl rfl rfl h1 (hat.mono ?_))
        rintro v M ⟨rfl, rfl⟩
        refine wf rfl (wq_cv rfl rfl rfl hg1 (hls.mono ?_))
        rintro v M ⟨rfl, rfl⟩
        repeat' (first | (refine Wp.sub (ih _ _ ?_) ⟨rfl, rfl, rfl, rfl, rfl, trivial⟩ rfl) | (refine wf rfl ?_; first | refine wq_iadd ?_ | refine wq_isub ?_ | refine wq_imul ?_ | refine wq_iinc rfl ?_ | refine wq_goto ?_ | refine wq_k rfl ?_ | refine wq_b rfl rfl ?_ | refine wq_getf (by assumption) rfl ?_ | refine wq_alen (by assumption) rfl ?_ | fail | (refine wq_eq ⟨by omega, by omega⟩ ⟨by omega, by omega⟩ (fun _ => ?_) (fun _ => ?_) <;> try (exfalso; omega)) | (refine wq_ne ⟨by omega, by omega⟩ ⟨by omega, by omega⟩ (fun _ => ?_) (fun _ => ?_) <;> try (exfalso; omega)) | (refine wq_lt ⟨by omega, by omega⟩ ⟨by omega, by omega⟩ (fun _ => ?_) (fun _ => ?_) <;> try (exfalso; omega)) | (refine wq_ge ⟨by omega, by omega⟩ ⟨by omega, by omega⟩ (fun _ => ?_) (fun _ => ?_) <;> try (exfalso; omega)) | (refine wq_gt ⟨by omega, by omega⟩ ⟨by omega, by omega⟩ (fun _ => ?_) (fun _ => ?_) <;> try (exfalso; omega)) | (refine wq_le ⟨by omega, by omega⟩ ⟨by omega, by omega⟩ (fun _ => ?_) (fun _ => ?_) <;> try (exfalso; omega)) | (refine wq_ifeq ⟨by omega, by omega⟩ (fun _ => ?_) (fun _ => ?_) <;> try (exfalso; omega)) | (refine wq_ifne ⟨by omega, by omega⟩ (fun _ => ?_) (fun _ => ?_) <;> try (exfalso; omega)) | (refine wq_iflt ⟨by omega, by omega⟩ (fun _ => ?_) (fun _ => ?_) <;> try (exfalso; omega)) | (refine wq_ifge ⟨by omega, by omega⟩ (fun _ => ?_) (fun _ => ?_) <;> try (exfalso; omega)) | (refine wq_ifgt ⟨by omega, by omega⟩ (fun _ => ?_) (fun _ => ?_) <;> try (exfalso; omega)) | (refine wq_ifle ⟨by omega, by omega⟩ (fun _ => ?_) (fun _ => ?_) <;> try (exfalso; omega)) | refine wq_r rfl rfl rfl rfl rfl rfl ?_))
        exact ⟨by omega, by omega, by omega, by omega, by rw [sumL_take i1 c2, ← i5]⟩
theorem c_Gr_lettersAhead (h : Gm M g N p X mn lt dp us W) (hr : Rw M a xs) (hb : SB xs) (hf : ∀ s ∈ xs, 0 ≤ lsy N lt s ∧ lsy N lt s ≤ 10000) {q : Int} (hq : inR q) : Wm 23 [.ref g, .ref a, .int (I q)] M (fun v M' => v = some (.int (I (min (sumL (lsy N lt) (xs.take q.toNat)) 10000))) ∧ M' = M) := by
  have hl := hr.len
  refine wm_in (lv := _) rfl rfl rfl ?_
  repeat' (first | (refine Wp.sub (lp_ahead h hr hb hf hq 100 _ _ ?_) ⟨rfl, rfl, rfl, rfl, rfl, trivial⟩ rfl) | (refine wf rfl ?_; first | refine wq_iadd ?_ | refine wq_isub ?_ | refine wq_imul ?_ | refine wq_iinc rfl ?_ | refine wq_goto ?_ | refine wq_k rfl ?_ | refine wq_b rfl rfl ?_ | refine wq_getf (by assumption) rfl ?_ | refine wq_alen (by assumption) rfl ?_ | fail | (refine wq_eq ⟨by omega, by omega⟩ ⟨by omega, by omega⟩ (fun _ => ?_) (fun _ => ?_) <;> try (exfalso; omega)) | (refine wq_ne ⟨by omega, by omega⟩ ⟨by omega, by omega⟩ (fun _ => ?_) (fun _ => ?_) <;> try (exfalso; omega)) | (refine wq_lt ⟨by omega, by omega⟩ ⟨by omega, by omega⟩ (fun _ => ?_) (fun _ => ?_) <;> try (exfalso; omega)) | (refine wq_ge ⟨by omega, by omega⟩ ⟨by omega, by omega⟩ (fun _ => ?_) (fun _ => ?_) <;> try (exfalso; omega)) | (refine wq_gt ⟨by omega, by omega⟩ ⟨by omega, by omega⟩ (fun _ => ?_) (fun _ => ?_) <;> try (exfalso; omega)) | (refine wq_le ⟨by omega, by omega⟩ ⟨by omega, by omega⟩ (fun _ => ?_) (fun _ => ?_) <;> try (exfalso; omega)) | (refine wq_ifeq ⟨by omega, by omega⟩ (fun _ => ?_) (fun _ => ?_) <;> try (exfalso; omega)) | (refine wq_ifne ⟨by omega, by omega⟩ (fun _ => ?_) (fun _ => ?_) <;> try (exfalso; omega)) | (refine wq_iflt ⟨by omega, by omega⟩ (fun _ => ?_) (fun _ => ?_) <;> try (exfalso; omega)) | (refine wq_ifge ⟨by omega, by omega⟩ (fun _ => ?_) (fun _ => ?_) <;> try (exfalso; omega)) | (refine wq_ifgt ⟨by omega, by omega⟩ (fun _ => ?_) (fun _ => ?_) <;> try (exfalso; omega)) | (refine wq_ifle ⟨by omega, by omega⟩ (fun _ => ?_) (fun _ => ?_) <;> try (exfalso; omega)) | refine wq_r rfl rfl rfl rfl rfl rfl ?_))
  exact ⟨by omega, by omega, by omega, by omega, by simp [sumL]⟩
/-- where the symbol stands that tells a place -/
def posL (f : Int → Int) : List Int → Int → Int
  | [], _ => 0
  | x :: r, q => if q < f x then 0 else 1 + posL f r (q - f x)
theorem posL_bd (f : Int → Int) : ∀ (xs : List Int) (q : Int), 0 ≤ posL f xs q ∧ posL f xs q ≤ xs.length
  | [], _ => by simp [posL]
  | x :: r, q => by
    have ih := posL_bd f r (q - f x)
    rw [posL, List.length_cons]
    split <;> omega
theorem lp_pos (h : Gm M g N p X mn lt dp us W) (hr : Rw M a xs) (hb : SB xs) (hf : ∀ s ∈ xs, 0 ≤ lsy N lt s ∧ lsy N lt s ≤ 10000) {q : Int} (hq : inR q) (n : Nat) : ∀ (z k : Int), (0 ≤ k ∧ k ≤ xs.length ∧ xs.length - k < n ∧ z = sumL (lsy N lt) (xs.take k.toNat) ∧ k + posL (lsy N lt) (xs.drop k.toNat) (q - z) = posL (lsy N lt) xs q) →
    Wp k_X0_positionOf (5, [(0, .ref g), (1, .ref a), (2, .int (I q)), (3, .int (I z)), (4, .int (I k))], [], M) (fun v M' => v = some (.int (I (posL (lsy N lt) xs q))) ∧ M' = M) := by
  obtain ⟨hq1, hq2⟩ := hq
  have hl := hr.len
  have hg1 := h.obj
  induction n with
  | zero => intro z k hi; exfalso; omega
  | succ n ih =>
    intro z k hi
    obtain ⟨i1, i2, i3, i5, i6⟩ := hi
    have hsz := c_Row_size hr
    have hat := c_Row_at (p := k) ⟨by omega, by omega⟩ hr
    have bd := rat_bd hb k
    have hls := c_Gr_lettersOfSymbol (s := rat xs k) (by omega) h
    have bz := sumL_bd (f := lsy N lt) (xs := xs.take k.toNat) (fun s hs => hf s (List.mem_of_mem_take hs))
    rw [List.length_take] at bz
    obtain ⟨gg, h1, h2, h3, h4⟩ := id hr
    repeat (refine wf rfl ?_; first | refine wq_iadd ?_ | refine wq_isub ?_ | refine wq_imul ?_ | refine wq_iinc rfl ?_ | refine wq_goto ?_ | refine wq_k rfl ?_ | refine wq_b rfl rfl ?_ | refine wq_getf (by assumption) rfl ?_ | refine wq_alen (by assumption) rfl ?_)
    refine wf rfl (wq_cv rfl rfl rfl h1 (hsz.mono ?_))
    rintro v M ⟨rfl, rfl⟩
    refine wf rfl (wq_ge ⟨by omega, by omega⟩ ⟨by omega, by omega⟩ (fun c2 => ?_) (fun c2 => ?_))
    · repeat (refine wf rfl ?_; first | refine wq_iadd ?_ | refine wq_isub ?_ | refine wq_imul ?_ | refine wq_iinc rfl ?_ | refine wq_goto ?_ | refine wq_k rfl ?_ | refine wq_b rfl rfl ?_ | refine wq_getf (by assumption) rfl ?_ | refine wq_alen (by assumption) rfl ?_)
      refine wf rfl (wq_cv rfl rfl rfl h1 (hsz.mono ?_))
      rintro v M ⟨rfl, rfl⟩
      repeat' (refine wf rfl ?_; first | refine wq_iadd ?_ | refine wq_isub ?_ | refine wq_imul ?_ | refine wq_iinc rfl ?_ | refine wq_goto ?_ | refine wq_k rfl ?_ | refine wq_b rfl rfl ?_ | refine wq_getf (by assumption) rfl ?_ | refine wq_alen (by assumption) rfl ?_ | (refine wq_eq ⟨by omega, by omega⟩ ⟨by omega, by omega⟩ (fun _ => ?_) (fun _ => ?_) <;> try (exfalso; omega)) | (refine wq_ne ⟨by omega, by omega⟩ ⟨by omega, by omega⟩ (fun _ => ?_) (fun _ => ?_) <;> try (exfalso; omega)) | (refine wq_lt ⟨by omega, by omega⟩ ⟨by omega, by omega⟩ (fun _ => ?_) (fun _ => ?_) <;> try (exfalso; omega)) | (refine wq_ge ⟨by omega, by omega⟩ ⟨by omega, by omega⟩ (fun _ => ?_) (fun _ => ?_) <;> try (exfalso; omega)) | (refine wq_gt ⟨by omega, by omega⟩ ⟨by omega, by omega⟩ (fun _ => ?_) (fun _ => ?_) <;> try (exfalso; omega)) | (refine wq_le ⟨by omega, by omega⟩ ⟨by omega, by omega⟩ (fun _ => ?_) (fun _ => ?_) <;> try (exfalso; omega)) | (refine wq_ifeq ⟨by omega, by omega⟩ (fun _ => ?_) (fun _ => ?_) <;> try (exfalso; omega)) | (refine wq_ifne ⟨by omega, by omega⟩ (fun _ => ?_) (fun _ => ?_) <;> try (exfalso; omega)) | (refine wq_iflt ⟨by omega, by omega⟩ (fun _ => ?_) (fun _ => ?_) <;> try (exfalso; omega)) | (refine wq_ifge ⟨by omega, by omega⟩ (fun _ => ?_) (fun _ => ?_) <;> try (exfalso; omega)) | (refine wq_ifgt ⟨by omega, by omega⟩ (fun _ => ?_) (fun _ => ?_) <;> try (exfalso; omega)) | (refine wq_ifle ⟨by omega, by omega⟩ (fun _ => ?_) (fun _ => ?_) <;> try (exfalso; omega)) | refine wq_r rfl rfl rfl rfl rfl rfl ?_)
      rw [List.drop_eq_nil_of_le (by omega), posL] at i6
      exact ⟨by rw [← i6, show k + 0 = (xs.length : Int) by omega], rfl⟩
    · have bl := hf _ (rat_mem i1 c2)
      have e1 : ((k.toNat : Nat) : Int) = k := by omega
      have hd := drop1 (xs := xs) (p := k.toNat) (by omega)
      rw [e1] at hd
      rw [hd, posL] at i6
      repeat (refine wf rfl ?_; first | refine wq_iadd ?_ | refine wq_isub ?_ | refine wq_imul ?_ | refine wq_iinc rfl ?_ | refine wq_goto ?_ | refine wq_k rfl ?_ | refine wq_b rfl rfl ?_ | refine wq_getf (by assumption) rfl ?_ | refine wq_alen (by assumption) rfl ?_)
      refine wf rfl (wq_cv rfl rfl rfl h1 (hat.mono ?_))
      rintro v M ⟨rfl, rfl⟩
      refine wf rfl (wq_cv rfl rfl rfl hg1 (hls.mono ?_))
      rintro v M ⟨rfl, rfl⟩
      repeat' (first | (refine Wp.sub (ih _ _ ?_) ⟨rfl, rfl, rfl, rfl, rfl, trivial⟩ rfl) | (refine wf rfl ?_; first | refine wq_iadd ?_ | refine wq_isub ?_ | refine wq_imul ?_ | refine wq_iinc rfl ?_ | refine wq_goto ?_ | refine wq_k rfl ?_ | refine wq_b rfl rfl ?_ | refine wq_getf (by assumption) rfl ?_ | refine wq_alen (by assumption) rfl ?_ | fail | (refine wq_eq ⟨by omega, by omega⟩ ⟨by omega, by omega⟩ (fun _ => ?_) (fun _ => ?_) <;> try (exfalso; omega)) | (refine wq_ne ⟨by omega, by omega⟩ ⟨by omega, by omega⟩ (fun _ => ?_) (fun _ => ?_) <;> try (exfalso; omega)) | (refine wq_lt ⟨by omega, by omega⟩ ⟨by omega, by omega⟩ (fun _ => ?_) (fun _ => ?_) <;> try (exfalso; omega)) | (refine wq_ge ⟨by omega, by omega⟩ ⟨by omega, by omega⟩ (fun _ => ?_) (fun _ => ?_) <;> try (exfalso; omega)) | (refine wq_gt ⟨by omega, by omega⟩ ⟨by omega, by omega⟩ (fun _ => ?_) (fun _ => ?_) <;> try (exfalso; omega)) | (refine wq_le ⟨by omega, by omega⟩ ⟨by omega, by omega⟩ (fun _ => ?_) (fun _ => ?_) <;> try (exfalso; omega)) | (refine wq_ifeq ⟨by omega, by omega⟩ (fun _ => ?_) (fun _ => ?_) <;> try (exfalso; omega)) | (refine wq_ifne ⟨by omega, by omega⟩ (fun _ => ?_) (fun _ => ?_) <;> try (exfalso; omega)) | (refine wq_iflt ⟨by omega, by omega⟩ (fun _ => ?_) (fun _ => ?_) <;> try (exfalso; omega)) | (refine wq_ifge ⟨by omega, by omega⟩ (fun _ => ?_) (fun _ => ?_) <;> try (exfalso; omega)) | (refine wq_ifgt ⟨by omega, by omega⟩ (fun _ => ?_) (fun _ => ?_) <;> try (exfalso; omega)) | (refine wq_ifle ⟨by omega, by omega⟩ (fun _ => ?_) (fun _ => ?_) <;> try (exfalso; omega)) | refine wq_r rfl rfl rfl rfl rfl rfl ?_))
      · rw [if_neg (by omega)] at i6
        refine ⟨by omega, by omega, by omega, by rw [sumL_take i1 c2, ← i5], ?_⟩
        rw [show (k + 1).toNat = k.toNat + 1 by omega, show q - (z + lsy N lt (rat xs k)) = q - z - lsy N lt (rat xs k) by omega]
        omega
      · rw [if_pos (by omega)] at i6
        exact ⟨by rw [← i6, show k + 0 = k by omega], rfl⟩
theorem c_Gr_positionOf (h : Gm M g N p X mn lt dp us W) (hr : Rw M a xs) (hb : SB xs) (hf : ∀ s ∈ xs, 0 ≤ lsy N lt s ∧ lsy N lt s ≤ 10000) {q : Int} (hq : inR q) : Wm 24 [.ref g, .ref a, .int (I q)] M (fun v M' => v = some (.int (I (posL (lsy N lt) xs q))) ∧ M' = M) := by
  have hl := hr.len
  refine wm_in (lv := _) rfl rfl rfl ?_
  repeat' (first | (refine Wp.sub (lp_pos h hr hb hf hq 100 _ _ ?_) ⟨rfl, rfl, rfl, rfl, rfl, trivial⟩ rfl) | (refine wf rfl ?_; first | refine wq_iadd ?_ | refine wq_isub ?_ | refine wq_imul ?_ | refine wq_iinc rfl ?_ | refine wq_goto ?_ | refine wq_k rfl ?_ | refine wq_b rfl rfl ?_ | refine wq_getf (by assumption) rfl ?_ | refine wq_alen (by assumption) rfl ?_ | fail | (refine wq_eq ⟨by omega, by omega⟩ ⟨by omega, by omega⟩ (fun _ => ?_) (fun _ => ?_) <;> try (exfalso; omega)) | (refine wq_ne ⟨by omega, by omega⟩ ⟨by omega, by omega⟩ (fun _ => ?_) (fun _ => ?_) <;> try (exfalso; omega)) | (refine wq_lt ⟨by omega, by omega⟩ ⟨by omega, by omega⟩ (fun _ => ?_) (fun _ => ?_) <;> try (exfalso; omega)) | (refine wq_ge ⟨by omega, by omega⟩ ⟨by omega, by omega⟩ (fun _ => ?_) (fun _ => ?_) <;> try (exfalso; omega)) | (refine wq_gt ⟨by omega, by omega⟩ ⟨by omega, by omega⟩ (fun _ => ?_) (fun _ => ?_) <;> try (exfalso; omega)) | (refine wq_le ⟨by omega, by omega⟩ ⟨by omega, by omega⟩ (fun _ => ?_) (fun _ => ?_) <;> try (exfalso; omega)) | (refine wq_ifeq ⟨by omega, by omega⟩ (fun _ => ?_) (fun _ => ?_) <;> try (exfalso; omega)) | (refine wq_ifne ⟨by omega, by omega⟩ (fun _ => ?_) (fun _ => ?_) <;> try (exfalso; omega)) | (refine wq_iflt ⟨by omega, by omega⟩ (fun _ => ?_) (fun _ => ?_) <;> try (exfalso; omega)) | (refine wq_ifge ⟨by omega, by omega⟩ (fun _ => ?_) (fun _ => ?_) <;> try (exfalso; omega)) | (refine wq_ifgt ⟨by omega, by omega⟩ (fun _ => ?_) (fun _ => ?_) <;> try (exfalso; omega)) | (refine wq_ifle ⟨by omega, by omega⟩ (fun _ => ?_) (fun _ => ?_) <;> try (exfalso; omega)) | refine wq_r rfl rfl rfl rfl rfl rfl ?_))
  exact ⟨by omega, by omega, by omega, by simp [sumL], by simp⟩
/-- how deep a symbol is -/
def dsy (N : Nat) (dp : Nat → Int) (s : Int) : Int := if 8 ≤ s ∧ s < 8 + N then dp (s - 8).toNat else 0
def mxD (f : Int → Int) : List Int → Int
  | [] => 0
  | x :: r => max (f x) (mxD f r)
theorem lp_depth (h : Gm M g N p X mn lt dp us W) (hr : Rw M a xs) (hb : SB xs) (hf : ∀ s ∈ xs, 0 ≤ dsy N dp s ∧ dsy N dp s ≤ 1000) (n : Nat) : ∀ (z k : Int), (0 ≤ k ∧ k ≤ xs.length ∧ xs.length - k < n ∧ 0 ≤ z ∧ z ≤ 1000 ∧ max z (mxD (dsy N dp) (xs.drop k.toNat)) = mxD (dsy N dp) xs) →
    Wp k_X0_depthOfRow (4, [(0, .ref g), (1, .ref a), (2, .int (I z)), (3, .int (I k))], [], M) (fun v M' => v = some (.int (I (mxD (dsy N dp) xs + 1))) ∧ M' = M) := by
  have hl := hr.len
  have hg1 := h.obj
  induction n with
  | zero => intro z k hi; exfalso; omega
  | succ n ih =>
    intro z k hi
    obtain ⟨i1, i2, i3, i4, i5, i6⟩ := hi
    have hsz := c_Row_size hr
    have hat := c_Row_at (p := k) ⟨by omega, by omega⟩ hr
    have bd := rat_bd hb k
    have hls := c_Gr_depthOfRule (k := rat xs k - 8) ⟨by omega, by omega⟩ h
    obtain ⟨gg, h1, h2, h3, h4⟩ := id hr
    repeat (refine wf rfl ?_; first | refine wq_iadd ?_ | refine wq_isub ?_ | refine wq_imul ?_ | refine wq_iinc rfl ?_ | refine wq_goto ?_ | refine wq_k rfl ?_ | refine wq_b rfl rfl ?_ | refine wq_getf (by assumption) rfl ?_ | refine wq_alen (by assumption) rfl ?_)
    refine wf rfl (wq_cv rfl rfl rfl h1 (hsz.mono ?_))
    rintro v M ⟨rfl, rfl⟩
    refine wf rfl (wq_ge ⟨by omega, by omega⟩ ⟨by omega, by omega⟩ (fun c2 => ?_) (fun c2 => ?_))
    · repeat' (refine wf rfl ?_; first | refine wq_iadd ?_ | refine wq_isub ?_ | refine wq_imul ?_ | refine wq_iinc rfl ?_ | refine wq_goto ?_ | refine wq_k rfl ?_ | refine wq_b rfl rfl ?_ | refine wq_getf (by assumption) rfl ?_ | refine wq_alen (by assumption) rfl ?_ | (refine wq_eq ⟨by omega, by omega⟩ ⟨by omega, by omega⟩ (fun _ => ?_) (fun _ => ?_) <;> try (exfalso; omega)) | (refine wq_ne ⟨by omega, by omega⟩ ⟨by omega, by omega⟩ (fun _ => ?_) (fun _ => ?_) <;> try (exfalso; omega)) | (refine wq_lt ⟨by omega, by omega⟩ ⟨by omega, by omega⟩ (fun _ => ?_) (fun _ => ?_) <;> try (exfalso; omega)) | (refine wq_ge ⟨by omega, by omega⟩ ⟨by omega, by omega⟩ (fun _ => ?_) (fun _ => ?_) <;> try (exfalso; omega)) | (refine wq_gt ⟨by omega, by omega⟩ ⟨by omega, by omega⟩ (fun _ => ?_) (fun _ => ?_) <;> try (exfalso; omega)) | (refine wq_le ⟨by omega, by omega⟩ ⟨by omega, by omega⟩ (fun _ => ?_) (fun _ => ?_) <;> try (exfalso; omega)) | (refine wq_ifeq ⟨by omega, by omega⟩ (fun _ => ?_) (fun _ => ?_) <;> try (exfalso; omega)) | (refine wq_ifne ⟨by omega, by omega⟩ (fun _ => ?_) (fun _ => ?_) <;> try (exfalso; omega)) | (refine wq_iflt ⟨by omega, by omega⟩ (fun _ => ?_) (fun _ => ?_) <;> try (exfalso; omega)) | (refine wq_ifge ⟨by omega, by omega⟩ (fun _ => ?_) (fun _ => ?_) <;> try (exfalso; omega)) | (refine wq_ifgt ⟨by omega, by omega⟩ (fun _ => ?_) (fun _ => ?_) <;> try (exfalso; omega)) | (refine wq_ifle ⟨by omega, by omega⟩ (fun _ => ?_) (fun _ => ?_) <;> try (exfalso; omega)) | refine wq_r rfl rfl rfl rfl rfl rfl ?_)
      rw [List.drop_eq_nil_of_le (by omega), mxD] at i6
      exact ⟨by rw [← i6, show max z 0 = z by omega], rfl⟩
    · have bl := hf _ (rat_mem i1 c2)
      have e1 : ((k.toNat : Nat) : Int) = k := by omega
      have hd := drop1 (xs := xs) (p := k.toNat) (by omega)
      rw [e1] at hd
      rw [hd, mxD] at i6
      have ed : (if 0 ≤ rat xs k - 8 ∧ rat xs k - 8 < N then dp (rat xs k - 8).toNat else 0) = dsy N dp (rat xs k) := by
        unfold dsy
        by_cases hq : 8 ≤ rat xs k ∧ rat xs k < 8 + N
        · rw [if_pos hq, if_pos (by omega)]
        · rw [if_neg hq, if_neg (by omega)]
      rw [ed] at hls
      have hmx := c_max (M := M) (x := z) (y := dsy N dp (rat xs k)) ⟨by omega, by omega⟩ ⟨by omega, by omega⟩
      repeat (refine wf rfl ?_; first | refine wq_iadd ?_ | refine wq_isub ?_ | refine wq_imul ?_ | refine wq_iinc rfl ?_ | refine wq_goto ?_ | refine wq_k rfl ?_ | refine wq_b rfl rfl ?_ | refine wq_getf (by assumption) rfl ?_ | refine wq_alen (by assumption) rfl ?_)
      refine wf rfl (wq_cv rfl rfl rfl h1 (hat.mono ?_))
      rintro v M ⟨rfl, rfl⟩
      repeat (refine wf rfl ?_; first | refine wq_iadd ?_ | refine wq_isub ?_ | refine wq_imul ?_ | refine wq_iinc rfl ?_ | refine wq_goto ?_ | refine wq_k rfl ?_ | refine wq_b rfl rfl ?_ | refine wq_getf (by assumption) rfl ?_ | refine wq_alen (by assumption) rfl ?_)
      refine wf rfl (wq_cv rfl rfl rfl hg1 (hls.mono ?_))
      rintro v M ⟨rfl, rfl⟩
      refine wf rfl (wq_cs rfl rfl (hmx.mono ?_))
      rintro v M ⟨rfl, rfl⟩
      repeat' (first | (refine Wp.sub (ih _ _ ?_) ⟨rfl, rfl, rfl, rfl, trivial⟩ rfl) | (refine wf rfl ?_; first | refine wq_iadd ?_ | refine wq_isub ?_ | refine wq_imul ?_ | refine wq_iinc rfl ?_ | refine wq_goto ?_ | refine wq_k rfl ?_ | refine wq_b rfl rfl ?_ | refine wq_getf (by assumption) rfl ?_ | refine wq_alen (by assumption) rfl ?_ | fail | (refine wq_eq ⟨by omega, by omega⟩ ⟨by omega, by omega⟩ (fun _ => ?_) (fun _ => ?_) <;> try (exfalso; omega)) | (refine wq_ne ⟨by omega, by omega⟩ ⟨by omega, by omega⟩ (fun _ => ?_) (fun _ => ?_) <;> try (exfalso; omega)) | (refine wq_lt ⟨by omega, by omega⟩ ⟨by omega, by omega⟩ (fun _ => ?_) (fun _ => ?_) <;> try (exfalso; omega)) | (refine wq_ge ⟨by omega, by omega⟩ ⟨by omega, by omega⟩ (fun _ => ?_) (fun _ => ?_) <;> try (exfalso; omega)) | (refine wq_gt ⟨by omega, by omega⟩ ⟨by omega, by omega⟩ (fun _ => ?_) (fun _ => ?_) <;> try (exfalso; omega)) | (refine wq_le ⟨by omega, by omega⟩ ⟨by omega, by omega⟩ (fun _ => ?_) (fun _ => ?_) <;> try (exfalso; omega)) | (refine wq_ifeq ⟨by omega, by omega⟩ (fun _ => ?_) (fun _ => ?_) <;> try (exfalso; omega)) | (refine wq_ifne ⟨by omega, by omega⟩ (fun _ => ?_) (fun _ => ?_) <;> try (exfalso; omega)) | (refine wq_iflt ⟨by omega, by omega⟩ (fun _ => ?_) (fun _ => ?_) <;> try (exfalso; omega)) | (refine wq_ifge ⟨by omega, by omega⟩ (fun _ => ?_) (fun _ => ?_) <;> try (exfalso; omega)) | (refine wq_ifgt ⟨by omega, by omega⟩ (fun _ => ?_) (fun _ => ?_) <;> try (exfalso; omega)) | (refine wq_ifle ⟨by omega, by omega⟩ (fun _ => ?_) (fun _ => ?_) <;> try (exfalso; omega)) | refine wq_r rfl rfl rfl rfl rfl rfl ?_))
      refine ⟨by omega, by omega, by omega, by omega, by omega, ?_⟩
      rw [show (k + 1).toNat = k.toNat + 1 by omega]
      omega
theorem c_Gr_depthOfRow (h : Gm M g N p X mn lt dp us W) (hr : Rw M a xs) (hb : SB xs) (hf : ∀ s ∈ xs, 0 ≤ dsy N dp s ∧ dsy N dp s ≤ 1000) : Wm 21 [.ref g, .ref a] M (fun v M' => v = some (.int (I (mxD (dsy N dp) xs + 1))) ∧ M' = M) := by
  have hl := hr.len
  have h0 : ∀ ys : List Int, 0 ≤ mxD (dsy N dp) ys := by
    intro ys
    induction ys with
    | nil => simp [mxD]
    | cons y r ih => rw [mxD]; omega
  have := h0 xs
  refine wm_in (lv := _) rfl rfl rfl ?_
  repeat' (first | (refine Wp.sub (lp_depth h hr hb hf 100 _ _ ?_) ⟨rfl, rfl, rfl, rfl, trivial⟩ rfl) | (refine wf rfl ?_; first | refine wq_iadd ?_ | refine wq_isub ?_ | refine wq_imul ?_ | refine wq_iinc rfl ?_ | refine wq_goto ?_ | refine wq_k rfl ?_ | refine wq_b rfl rfl ?_ | refine wq_getf (by assumption) rfl ?_ | refine wq_alen (by assumption) rfl ?_ | fail | (refine wq_eq ⟨by omega, by omega⟩ ⟨by omega, by omega⟩ (fun _ => ?_) (fun _ => ?_) <;> try (exfalso; omega)) | (refine wq_ne ⟨by omega, by omega⟩ ⟨by omega, by omega⟩ (fun _ => ?_) (fun _ => ?_) <;> try (exfalso; omega)) | (refine wq_lt ⟨by omega, by omega⟩ ⟨by omega, by omega⟩ (fun _ => ?_) (fun _ => ?_) <;> try (exfalso; omega)) | (refine wq_ge ⟨by omega, by omega⟩ ⟨by omega, by omega⟩ (fun _ => ?_) (fun _ => ?_) <;> try (exfalso; omega)) | (refine wq_gt ⟨by omega, by omega⟩ ⟨by omega, by omega⟩ (fun _ => ?_) (fun _ => ?_) <;> try (exfalso; omega)) | (refine wq_le ⟨by omega, by omega⟩ ⟨by omega, by omega⟩ (fun _ => ?_) (fun _ => ?_) <;> try (exfalso; omega)) | (refine wq_ifeq ⟨by omega, by omega⟩ (fun _ => ?_) (fun _ => ?_) <;> try (exfalso; omega)) | (refine wq_ifne ⟨by omega, by omega⟩ (fun _ => ?_) (fun _ => ?_) <;> try (exfalso; omega)) | (refine wq_iflt ⟨by omega, by omega⟩ (fun _ => ?_) (fun _ => ?_) <;> try (exfalso; omega)) | (refine wq_ifge ⟨by omega, by omega⟩ (fun _ => ?_) (fun _ => ?_) <;> try (exfalso; omega)) | (refine wq_ifgt ⟨by omega, by omega⟩ (fun _ => ?_) (fun _ => ?_) <;> try (exfalso; omega)) | (refine wq_ifle ⟨by omega, by omega⟩ (fun _ => ?_) (fun _ => ?_) <;> try (exfalso; omega)) | refine wq_r rfl rfl rfl rfl rfl rfl ?_))
  exact ⟨by omega, by omega, by omega, by omega, by omega, by simp; omega⟩
end GR2
