/-! The Model's calls over the whole word. -/
def spMark (G : GS) : Int := (wordG G).foldl (fun z s => 31 * z + s + 1) 7
def dif : Int → List Int → List Int → Int
  | _, [], [] => -6
  | k, x :: r, y :: s => if x = y then dif (k + 1) r s else k
  | k, [], _ :: _ => k
  | k, _ :: _, [] => k
def spUnlike (i : Int) (S : ST) : Int := if 0 ≤ i ∧ i < 2 then (match S.2.2.2 i.toNat with
  | none => -5
  | some G => dif 0 (wordG S.1) (wordG G)) else -2
/-- every grammar of the state told shortly enough -/
def OKS (S : ST) : Prop := OKG S.1 ∧ OKP S.2.1 ∧ (∀ G ∈ S.2.2.1, OKG G) ∧ ∀ i G, i < 2 → S.2.2.2 i = some G → OKG G
section MD21
variable {M : PM} {m : Nat} {S : ST}
theorem lp_mmark {w : Nat → Int} {a b c d e : Int} {ws : List Int} (hO : MO M m a b c d e) (hA : M[m + 9]? = some (aJ 9999 w)) (hL : Lw w 0 ws) (hl : ws.length ≤ 9999) (hw : ∀ s ∈ ws, 0 ≤ s ∧ s < 8) (n : Nat) : ∀ (k z : Int), (0 ≤ k ∧ k ≤ ws.length ∧ ws.length - k < n ∧ z = (ws.take k.toNat).foldl (fun z s => 31 * z + s + 1) 7) →
    Wp k_X10_mark (19, [(0, .ref m), (1, .int (I (ws.length : Nat))), (2, .int (I z)), (3, .int (I k))], [], M) (fun v M' => v = some (.int (I (ws.foldl (fun z s => 31 * z + s + 1) 7))) ∧ M' = M) := by
  induction n with
  | zero => intro k z hi; exfalso; omega
  | succ n ih =>
    rintro k z ⟨i1, i2, i3, i4⟩
    repeat (refine wf rfl ?_; first | refine wq_iadd ?_ | refine wq_isub ?_ | refine wq_imul ?_ | refine wq_iinc rfl ?_ | refine wq_goto ?_ | refine wq_k rfl ?_ | refine wq_b rfl rfl ?_ | refine wq_getf (by assumption) rfl ?_ | refine wq_alen (by assumption) rfl ?_)
    refine wf rfl (wq_ge ⟨by omega, by omega⟩ ⟨by omega, by omega⟩ (fun c1 => ?_) (fun c1 => ?_))
    · rw [List.take_of_length_le (by omega)] at i4
      repeat' (refine wf rfl ?_; first | refine wq_iadd ?_ | refine wq_isub ?_ | refine wq_imul ?_ | refine wq_iinc rfl ?_ | refine wq_goto ?_ | refine wq_k rfl ?_ | refine wq_b rfl rfl ?_ | refine wq_getf (by assumption) rfl ?_ | refine wq_alen (by assumption) rfl ?_ | (refine wq_eq ⟨by omega, by omega⟩ ⟨by omega, by omega⟩ (fun _ => ?_) (fun _ => ?_) <;> try (exfalso; omega)) | (refine wq_ne ⟨by omega, by omega⟩ ⟨by omega, by omega⟩ (fun _ => ?_) (fun _ => ?_) <;> try (exfalso; omega)) | (refine wq_lt ⟨by omega, by omega⟩ ⟨by omega, by omega⟩ (fun _ => ?_) (fun _ => ?_) <;> try (exfalso; omega)) | (refine wq_ge ⟨by omega, by omega⟩ ⟨by omega, by omega⟩ (fun _ => ?_) (fun _ => ?_) <;> try (exfalso; omega)) | (refine wq_gt ⟨by omega, by omega⟩ ⟨by omega, by omega⟩ (fun _ => ?_) (fun _ => ?_) <;> try (exfalso; omega)) | (refine wq_le ⟨by omega, by omega⟩ ⟨by omega, by omega⟩ (fun _ => ?_) (fun _ => ?_) <;> try (exfalso; omega)) | (refine wq_ifeq ⟨by omega, by omega⟩ (fun _ => ?_) (fun _ => ?_) <;> try (exfalso; omega)) | (refine wq_ifne ⟨by omega, by omega⟩ (fun _ => ?_) (fun _ => ?_) <;> try (exfalso; omega)) | (refine wq_iflt ⟨by omega, by omega⟩ (fun _ => ?_) (fun _ => ?_) <;> try (exfalso; omega)) | (refine wq_ifge ⟨by omega, by omega⟩ (fun _ => ?_) (fun _ => ?_) <;> try (exfalso; omega)) | (refine wq_ifgt ⟨by omega, by omega⟩ (fun _ => ?_) (fun _ => ?_) <;> try (exfalso; omega)) | (refine wq_ifle ⟨by omega, by omega⟩ (fun _ => ?_) (fun _ => ?_) <;> try (exfalso; omega)) | refine wq_r rfl rfl rfl rfl rfl rfl ?_)
      exact ⟨by rw [i4], rfl⟩
    · have hf : w k.toNat = rat ws k := by
        rw [rat_in i1 (hL k.toNat (by omega)), Nat.zero_add]
      repeat (refine wf rfl ?_; first | refine wq_iadd ?_ | refine wq_isub ?_ | refine wq_imul ?_ | refine wq_iinc rfl ?_ | refine wq_goto ?_ | refine wq_k rfl ?_ | refine wq_b rfl rfl ?_ | refine wq_getf (by assumption) rfl ?_ | refine wq_alen (by assumption) rfl ?_)
      refine wf rfl (wq_iald hA ⟨by omega, by omega⟩ (by omega) (by omega) ?_)
      rw [hf]
      repeat' (first | (refine Wp.sub (ih _ _ ?_) ⟨rfl, rfl, rfl, rfl, trivial⟩ rfl) | (refine wf rfl ?_; first | refine wq_iadd ?_ | refine wq_isub ?_ | refine wq_imul ?_ | refine wq_iinc rfl ?_ | refine wq_goto ?_ | refine wq_k rfl ?_ | refine wq_b rfl rfl ?_ | refine wq_getf (by assumption) rfl ?_ | refine wq_alen (by assumption) rfl ?_ | fail | (refine wq_eq ⟨by omega, by omega⟩ ⟨by omega, by omega⟩ (fun _ => ?_) (fun _ => ?_) <;> try (exfalso; omega)) | (refine wq_ne ⟨by omega, by omega⟩ ⟨by omega, by omega⟩ (fun _ => ?_) (fun _ => ?_) <;> try (exfalso; omega)) | (refine wq_lt ⟨by omega, by omega⟩ ⟨by omega, by omega⟩ (fun _ => ?_) (fun _ => ?_) <;> try (exfalso; omega)) | (refine wq_ge ⟨by omega, by omega⟩ ⟨by omega, by omega⟩ (fun _ => ?_) (fun _ => ?_) <;> try (exfalso; omega)) | (refine wq_gt ⟨by omega, by omega⟩ ⟨by omega, by omega⟩ (fun _ => ?_) (fun _ => ?_) <;> try (exfalso; omega)) | (refine wq_le ⟨by omega, by omega⟩ ⟨by omega, by omega⟩ (fun _ => ?_) (fun _ => ?_) <;> try (exfalso; omega)) | (refine wq_ifeq ⟨by omega, by omega⟩ (fun _ => ?_) (fun _ => ?_) <;> try (exfalso; omega)) | (refine wq_ifne ⟨by omega, by omega⟩ (fun _ => ?_) (fun _ => ?_) <;> try (exfalso; omega)) | (refine wq_iflt ⟨by omega, by omega⟩ (fun _ => ?_) (fun _ => ?_) <;> try (exfalso; omega)) | (refine wq_ifge ⟨by omega, by omega⟩ (fun _ => ?_) (fun _ => ?_) <;> try (exfalso; omega)) | (refine wq_ifgt ⟨by omega, by omega⟩ (fun _ => ?_) (fun _ => ?_) <;> try (exfalso; omega)) | (refine wq_ifle ⟨by omega, by omega⟩ (fun _ => ?_) (fun _ => ?_) <;> try (exfalso; omega)) | refine wq_r rfl rfl rfl rfl rfl rfl ?_))
      refine ⟨by omega, by omega, by omega, ?_⟩
      rw [show (k + 1).toNat = k.toNat + 1 by omega, ← take_rat i1 c1, List.foldl_append, ← i4]
      rfl
theorem c_Md_mark (h : MS M m S) (hK : OKG S.1) : Wm 178 [.ref m] M (fun v M' => v = some (.int (I (spMark S.1))) ∧ Fr (inM m) M M' ∧ MS M' m S) := by
  have hN := h.mr.le
  obtain ⟨⟨si, re, sp, hO⟩, ⟨f, g1, g2⟩, -, -, -, -, -, -, -, ⟨w, w9⟩, ⟨w', w10⟩, ⟨ri, r1⟩, ⟨pi, p1⟩, -⟩ := id h
  have htw := c_Md_tellsWord (o := 0) (af := m + 1) (ai := m + 9) hO hK hN g1 g2 (by omega) (by omega) (Or.inl rfl) (Or.inl rfl) r1 p1 w9
  have hlen := word_len hK
  have hwl := hK.2.1
  refine wm_in (lv := _) rfl rfl rfl ?_
  repeat (refine wf rfl ?_; first | refine wq_iadd ?_ | refine wq_isub ?_ | refine wq_imul ?_ | refine wq_iinc rfl ?_ | refine wq_goto ?_ | refine wq_k rfl ?_ | refine wq_b rfl rfl ?_ | refine wq_getf (by assumption) rfl ?_ | refine wq_alen (by assumption) rfl ?_)
  refine wf rfl (wq_cv rfl rfl rfl hO (htw.mono ?_))
  rintro v M1 ⟨rfl, f1, w2, q1, q2⟩
  have hO1 : MO M1 m _ si re _ sp := f1.at (by omega) hO
  have fin : Fr (inM m) M M1 ∧ MS M1 m S := ⟨f1.mono (fun z hz => by unfold inM; omega), h.work f1 (by omega) (by omega) (by omega) (by omega) (by omega) (by omega)⟩
  have hst := fun (_ : True) => (lp_mmark hO1 q1 q2 (by omega) (word_letters hK.1) 10001 0 7 ⟨by omega, by omega, by omega, by simp⟩).mono (Q' := fun v M' => v = some (.int (I (spMark S.1))) ∧ Fr (inM m) M M' ∧ MS M' m S) (fun v M' hv => ⟨hv.1, by rw [hv.2]; exact fin⟩)
  repeat' (first | (refine Wp.sub (hst  ?_) ⟨rfl, rfl, rfl, rfl, trivial⟩ rfl) | (refine wf rfl ?_; first | refine wq_iadd ?_ | refine wq_isub ?_ | refine wq_imul ?_ | refine wq_iinc rfl ?_ | refine wq_goto ?_ | refine wq_k rfl ?_ | refine wq_b rfl rfl ?_ | refine wq_getf (by assumption) rfl ?_ | refine wq_alen (by assumption) rfl ?_ | fail | (refine wq_eq ⟨by omega, by omega⟩ ⟨by omega, by omega⟩ (fun _ => ?_) (fun _ => ?_) <;> try (exfalso; omega)) | (refine wq_ne ⟨by omega, by omega⟩ ⟨by omega, by omega⟩ (fun _ => ?_) (fun _ => ?_) <;> try (exfalso; omega)) | (refine wq_lt ⟨by omega, by omega⟩ ⟨by omega, by omega⟩ (fun _ => ?_) (fun _ => ?_) <;> try (exfalso; omega)) | (refine wq_ge ⟨by omega, by omega⟩ ⟨by omega, by omega⟩ (fun _ => ?_) (fun _ => ?_) <;> try (exfalso; omega)) | (refine wq_gt ⟨by omega, by omega⟩ ⟨by omega, by omega⟩ (fun _ => ?_) (fun _ => ?_) <;> try (exfalso; omega)) | (refine wq_le ⟨by omega, by omega⟩ ⟨by omega, by omega⟩ (fun _ => ?_) (fun _ => ?_) <;> try (exfalso; omega)) | (refine wq_ifeq ⟨by omega, by omega⟩ (fun _ => ?_) (fun _ => ?_) <;> try (exfalso; omega)) | (refine wq_ifne ⟨by omega, by omega⟩ (fun _ => ?_) (fun _ => ?_) <;> try (exfalso; omega)) | (refine wq_iflt ⟨by omega, by omega⟩ (fun _ => ?_) (fun _ => ?_) <;> try (exfalso; omega)) | (refine wq_ifge ⟨by omega, by omega⟩ (fun _ => ?_) (fun _ => ?_) <;> try (exfalso; omega)) | (refine wq_ifgt ⟨by omega, by omega⟩ (fun _ => ?_) (fun _ => ?_) <;> try (exfalso; omega)) | (refine wq_ifle ⟨by omega, by omega⟩ (fun _ => ?_) (fun _ => ?_) <;> try (exfalso; omega)) | refine wq_r rfl rfl rfl rfl rfl rfl ?_))
  trivial
theorem dif_step {xs ys : List Int} {k : Int} (h0 : 0 ≤ k) (hx : k < xs.length) (hy : k < ys.length) : dif k (xs.drop k.toNat) (ys.drop k.toNat) = if rat xs k = rat ys k then dif (k + 1) (xs.drop (k + 1).toNat) (ys.drop (k + 1).toNat) else k := by
  rw [drop_at h0 hx, drop_at h0 hy, dif]
theorem dif_end {xs ys : List Int} {k : Int} (h0 : 0 ≤ k) (h1 : k ≤ xs.length) (h2 : k ≤ ys.length) (h : k = xs.length ∨ k = ys.length) : dif k (xs.drop k.toNat) (ys.drop k.toNat) = if k = xs.length ∧ k = ys.length then -6 else k := by
  by_cases hx : k = xs.length
  · rw [List.drop_eq_nil_of_le (as := xs) (by omega)]
    by_cases hy : k = ys.length
    · rw [List.drop_eq_nil_of_le (as := ys) (by omega), dif, if_pos ⟨hx, hy⟩]
    · rw [drop_at (xs := ys) h0 (by omega), dif, if_neg (fun z => hy z.2)]
  · have hy : k = ys.length := h.resolve_left hx
    rw [List.drop_eq_nil_of_le (as := ys) (by omega), drop_at (xs := xs) h0 (by omega), dif, if_neg (fun z => hx z.1)]
theorem lp_munl {w w' : Nat → Int} {a b c d e i : Int} {xs ys : List Int} (hO : MO M m a b c d e) (hA : M[m + 9]? = some (aJ 9999 w)) (hL : Lw w 0 xs) (hl : xs.length ≤ 9999) (hA' : M[m + 10]? = some (aJ 9999 w')) (hL' : Lw w' 0 ys) (hl' : ys.length ≤ 9999) (hx : ∀ s ∈ xs, 0 ≤ s ∧ s < 8) (hy : ∀ s ∈ ys, 0 ≤ s ∧ s < 8) (n : Nat) : ∀ (k : Int), (0 ≤ k ∧ k ≤ xs.length ∧ k ≤ ys.length ∧ xs.length - k < n ∧ dif k (xs.drop k.toNat) (ys.drop k.toNat) = dif 0 xs ys) →
    Wp k_X10_unlike (60, [(0, .ref m), (1, .int (I i)), (2, .int (I (xs.length : Nat))), (3, .int (I (ys.length : Nat))), (4, .int (I k))], [], M) (fun v M' => v = some (.int (I (dif 0 xs ys))) ∧ M' = M) := by
  induction n with
  | zero => intro k hi; exfalso; omega
  | succ n ih =>
    rintro k ⟨i1, i2, i3, i4, i5⟩
    by_cases hb : k < xs.length ∧ k < ys.length
    · have hf : w k.toNat = rat xs k := by
        rw [rat_in i1 (hL k.toNat (by omega)), Nat.zero_add]
      have hf' : w' k.toNat = rat ys k := by
        rw [rat_in i1 (hL' k.toNat (by omega)), Nat.zero_add]
      have b1 := hx _ (rat_mem i1 hb.1)
      have b2 := hy _ (rat_mem i1 hb.2)
      rw [dif_step i1 hb.1 hb.2] at i5
      repeat (refine wf rfl ?_; first | refine wq_iadd ?_ | refine wq_isub ?_ | refine wq_imul ?_ | refine wq_iinc rfl ?_ | refine wq_goto ?_ | refine wq_k rfl ?_ | refine wq_b rfl rfl ?_ | refine wq_getf (by assumption) rfl ?_ | refine wq_alen (by assumption) rfl ?_)
      refine wf rfl (wq_ge ⟨by omega, by omega⟩ ⟨by omega, by omega⟩ (fun c9 => by exfalso; omega) (fun _ => ?_))
      repeat (refine wf rfl ?_; first | refine wq_iadd ?_ | refine wq_isub ?_ | refine wq_imul ?_ | refine wq_iinc rfl ?_ | refine wq_goto ?_ | refine wq_k rfl ?_ | refine wq_b rfl rfl ?_ | refine wq_getf (by assumption) rfl ?_ | refine wq_alen (by assumption) rfl ?_)
      refine wf rfl (wq_ge ⟨by omega, by omega⟩ ⟨by omega, by omega⟩ (fun c9 => by exfalso; omega) (fun _ => ?_))
      repeat (refine wf rfl ?_; first | refine wq_iadd ?_ | refine wq_isub ?_ | refine wq_imul ?_ | refine wq_iinc rfl ?_ | refine wq_goto ?_ | refine wq_k rfl ?_ | refine wq_b rfl rfl ?_ | refine wq_getf (by assumption) rfl ?_ | refine wq_alen (by assumption) rfl ?_)
      refine wf rfl (wq_iald hA ⟨by omega, by omega⟩ (by omega) (by omega) ?_)
      rw [hf]
      repeat (refine wf rfl ?_; first | refine wq_iadd ?_ | refine wq_isub ?_ | refine wq_imul ?_ | refine wq_iinc rfl ?_ | refine wq_goto ?_ | refine wq_k rfl ?_ | refine wq_b rfl rfl ?_ | refine wq_getf (by assumption) rfl ?_ | refine wq_alen (by assumption) rfl ?_)
      refine wf rfl (wq_iald hA' ⟨by omega, by omega⟩ (by omega) (by omega) ?_)
      rw [hf']
      refine wf rfl (wq_ne ⟨by omega, by omega⟩ ⟨by omega, by omega⟩ (fun c3 => ?_) (fun c3 => ?_))
      · rw [if_neg c3] at i5
        repeat' (refine wf rfl ?_; first | refine wq_iadd ?_ | refine wq_isub ?_ | refine wq_imul ?_ | refine wq_iinc rfl ?_ | refine wq_goto ?_ | refine wq_k rfl ?_ | refine wq_b rfl rfl ?_ | refine wq_getf (by assumption) rfl ?_ | refine wq_alen (by assumption) rfl ?_ | (refine wq_eq ⟨by omega, by omega⟩ ⟨by omega, by omega⟩ (fun _ => ?_) (fun _ => ?_) <;> try (exfalso; omega)) | (refine wq_ne ⟨by omega, by omega⟩ ⟨by omega, by omega⟩ (fun _ => ?_) (fun _ => ?_) <;> try (exfalso; omega)) | (refine wq_lt ⟨by omega, by omega⟩ ⟨by omega, by omega⟩ (fun _ => ?_) (fun _ => ?_) <;> try (exfalso; omega)) | (refine wq_ge ⟨by omega, by omega⟩ ⟨by omega, by omega⟩ (fun _ => ?_) (fun _ => ?_) <;> try (exfalso; omega)) | (refine wq_gt ⟨by omega, by omega⟩ ⟨by omega, by omega⟩ (fun _ => ?_) (fun _ => ?_) <;> try (exfalso; omega)) | (refine wq_le ⟨by omega, by omega⟩ ⟨by omega, by omega⟩ (fun _ => ?_) (fun _ => ?_) <;> try (exfalso; omega)) | (refine wq_ifeq ⟨by omega, by omega⟩ (fun _ => ?_) (fun _ => ?_) <;> try (exfalso; omega)) | (refine wq_ifne ⟨by omega, by omega⟩ (fun _ => ?_) (fun _ => ?_) <;> try (exfalso; omega)) | (refine wq_iflt ⟨by omega, by omega⟩ (fun _ => ?_) (fun _ => ?_) <;> try (exfalso; omega)) | (refine wq_ifge ⟨by omega, by omega⟩ (fun _ => ?_) (fun _ => ?_) <;> try (exfalso; omega)) | (refine wq_ifgt ⟨by omega, by omega⟩ (fun _ => ?_) (fun _ => ?_) <;> try (exfalso; omega)) | (refine wq_ifle ⟨by omega, by omega⟩ (fun _ => ?_) (fun _ => ?_) <;> try (exfalso; omega)) | refine wq_r rfl rfl rfl rfl rfl rfl ?_)
        all_goals exact ⟨by rw [← i5], rfl⟩
      · rw [if_pos c3] at i5
        repeat' (first | (refine Wp.sub (ih _ ?_) ⟨rfl, rfl, rfl, rfl, rfl, trivial⟩ rfl) | (refine wf rfl ?_; first | refine wq_iadd ?_ | refine wq_isub ?_ | refine wq_imul ?_ | refine wq_iinc rfl ?_ | refine wq_goto ?_ | refine wq_k rfl ?_ | refine wq_b rfl rfl ?_ | refine wq_getf (by assumption) rfl ?_ | refine wq_alen (by assumption) rfl ?_ | fail | (refine wq_eq ⟨by omega, by omega⟩ ⟨by omega, by omega⟩ (fun _ => ?_) (fun _ => ?_) <;> try (exfalso; omega)) | (refine wq_ne ⟨by omega, by omega⟩ ⟨by omega, by omega⟩ (fun _ => ?_) (fun _ => ?_) <;> try (exfalso; omega)) | (refine wq_lt ⟨by omega, by omega⟩ ⟨by omega, by omega⟩ (fun _ => ?_) (fun _ => ?_) <;> try (exfalso; omega)) | (refine wq_ge ⟨by omega, by omega⟩ ⟨by omega, by omega⟩ (fun _ => ?_) (fun _ => ?_) <;> try (exfalso; omega)) | (refine wq_gt ⟨by omega, by omega⟩ ⟨by omega, by omega⟩ (fun _ => ?_) (fun _ => ?_) <;> try (exfalso; omega)) | (refine wq_le ⟨by omega, by omega⟩ ⟨by omega, by omega⟩ (fun _ => ?_) (fun _ => ?_) <;> try (exfalso; omega)) | (refine wq_ifeq ⟨by omega, by omega⟩ (fun _ => ?_) (fun _ => ?_) <;> try (exfalso; omega)) | (refine wq_ifne ⟨by omega, by omega⟩ (fun _ => ?_) (fun _ => ?_) <;> try (exfalso; omega)) | (refine wq_iflt ⟨by omega, by omega⟩ (fun _ => ?_) (fun _ => ?_) <;> try (exfalso; omega)) | (refine wq_ifge ⟨by omega, by omega⟩ (fun _ => ?_) (fun _ => ?_) <;> try (exfalso; omega)) | (refine wq_ifgt ⟨by omega, by omega⟩ (fun _ => ?_) (fun _ => ?_) <;> try (exfalso; omega)) | (refine wq_ifle ⟨by omega, by omega⟩ (fun _ => ?_) (fun _ => ?_) <;> try (exfalso; omega)) | refine wq_r rfl rfl rfl rfl rfl rfl ?_))
        exact ⟨by omega, by omega, by omega, by omega, i5⟩
    · rw [dif_end i1 i2 i3 (by omega)] at i5
      by_cases he : k = xs.length ∧ k = ys.length
      · rw [if_pos he] at i5
        repeat' (refine wf rfl ?_; first | refine wq_iadd ?_ | refine wq_isub ?_ | refine wq_imul ?_ | refine wq_iinc rfl ?_ | refine wq_goto ?_ | refine wq_k rfl ?_ | refine wq_b rfl rfl ?_ | refine wq_getf (by assumption) rfl ?_ | refine wq_alen (by assumption) rfl ?_ | (refine wq_eq ⟨by omega, by omega⟩ ⟨by omega, by omega⟩ (fun _ => ?_) (fun _ => ?_) <;> try (exfalso; omega)) | (refine wq_ne ⟨by omega, by omega⟩ ⟨by omega, by omega⟩ (fun _ => ?_) (fun _ => ?_) <;> try (exfalso; omega)) | (refine wq_lt ⟨by omega, by omega⟩ ⟨by omega, by omega⟩ (fun _ => ?_) (fun _ => ?_) <;> try (exfalso; omega)) | (refine wq_ge ⟨by omega, by omega⟩ ⟨by omega, by omega⟩ (fun _ => ?_) (fun _ => ?_) <;> try (exfalso; omega)) | (refine wq_gt ⟨by omega, by omega⟩ ⟨by omega, by omega⟩ (fun _ => ?_) (fun _ => ?_) <;> try (exfalso; omega)) | (refine wq_le ⟨by omega, by omega⟩ ⟨by omega, by omega⟩ (fun _ => ?_) (fun _ => ?_) <;> try (exfalso; omega)) | (refine wq_ifeq ⟨by omega, by omega⟩ (fun _ => ?_) (fun _ => ?_) <;> try (exfalso; omega)) | (refine wq_ifne ⟨by omega, by omega⟩ (fun _ => ?_) (fun _ => ?_) <;> try (exfalso; omega)) | (refine wq_iflt ⟨by omega, by omega⟩ (fun _ => ?_) (fun _ => ?_) <;> try (exfalso; omega)) | (refine wq_ifge ⟨by omega, by omega⟩ (fun _ => ?_) (fun _ => ?_) <;> try (exfalso; omega)) | (refine wq_ifgt ⟨by omega, by omega⟩ (fun _ => ?_) (fun _ => ?_) <;> try (exfalso; omega)) | (refine wq_ifle ⟨by omega, by omega⟩ (fun _ => ?_) (fun _ => ?_) <;> try (exfalso; omega)) | refine wq_r rfl rfl rfl rfl rfl rfl ?_)
        all_goals exact ⟨by rw [← i5], rfl⟩
      · rw [if_neg he] at i5
        repeat' (refine wf rfl ?_; first | refine wq_iadd ?_ | refine wq_isub ?_ | refine wq_imul ?_ | refine wq_iinc rfl ?_ | refine wq_goto ?_ | refine wq_k rfl ?_ | refine wq_b rfl rfl ?_ | refine wq_getf (by assumption) rfl ?_ | refine wq_alen (by assumption) rfl ?_ | (refine wq_eq ⟨by omega, by omega⟩ ⟨by omega, by omega⟩ (fun _ => ?_) (fun _ => ?_) <;> try (exfalso; omega)) | (refine wq_ne ⟨by omega, by omega⟩ ⟨by omega, by omega⟩ (fun _ => ?_) (fun _ => ?_) <;> try (exfalso; omega)) | (refine wq_lt ⟨by omega, by omega⟩ ⟨by omega, by omega⟩ (fun _ => ?_) (fun _ => ?_) <;> try (exfalso; omega)) | (refine wq_ge ⟨by omega, by omega⟩ ⟨by omega, by omega⟩ (fun _ => ?_) (fun _ => ?_) <;> try (exfalso; omega)) | (refine wq_gt ⟨by omega, by omega⟩ ⟨by omega, by omega⟩ (fun _ => ?_) (fun _ => ?_) <;> try (exfalso; omega)) | (refine wq_le ⟨by omega, by omega⟩ ⟨by omega, by omega⟩ (fun _ => ?_) (fun _ => ?_) <;> try (exfalso; omega)) | (refine wq_ifeq ⟨by omega, by omega⟩ (fun _ => ?_) (fun _ => ?_) <;> try (exfalso; omega)) | (refine wq_ifne ⟨by omega, by omega⟩ (fun _ => ?_) (fun _ => ?_) <;> try (exfalso; omega)) | (refine wq_iflt ⟨by omega, by omega⟩ (fun _ => ?_) (fun _ => ?_) <;> try (exfalso; omega)) | (refine wq_ifge ⟨by omega, by omega⟩ (fun _ => ?_) (fun _ => ?_) <;> try (exfalso; omega)) | (refine wq_ifgt ⟨by omega, by omega⟩ (fun _ => ?_) (fun _ => ?_) <;> try (exfalso; omega)) | (refine wq_ifle ⟨by omega, by omega⟩ (fun _ => ?_) (fun _ => ?_) <;> try (exfalso; omega)) | refine wq_r rfl rfl rfl rfl rfl rfl ?_)
        all_goals exact ⟨by rw [← i5], rfl⟩
theorem c_Md_unlike {i : Int} (hi : inR i) (h : MS M m S) (hK : OKS S) : Wm 180 [.ref m, .int (I i)] M (fun v M' => v = some (.int (I (spUnlike i S))) ∧ Fr (inM m) M M' ∧ MS M' m S) := by
  obtain ⟨hi1, hi2⟩ := id hi
  obtain ⟨hK1, -, -, hK4⟩ := hK
  have hN := h.mr.le
  obtain ⟨⟨si, re, sp, hO⟩, ⟨f, g1, g2⟩, -, -, ⟨⟨fs, s1, s2⟩, fv, v1, v2⟩, -, -, -, -, ⟨w, w9⟩, ⟨w', w10⟩, ⟨ri, r1⟩, ⟨pi, p1⟩, -⟩ := id h
  have htw := c_Md_tellsWord (o := 0) (af := m + 1) (ai := m + 9) hO hK1 hN g1 g2 (by omega) (by omega) (Or.inl rfl) (Or.inl rfl) r1 p1 w9
  have hlen := word_len hK1
  have hwl := hK1.2.1
  unfold spUnlike
  refine wm_in (lv := _) rfl rfl rfl ?_
  repeat (refine wf rfl ?_; first | refine wq_iadd ?_ | refine wq_isub ?_ | refine wq_imul ?_ | refine wq_iinc rfl ?_ | refine wq_goto ?_ | refine wq_k rfl ?_ | refine wq_b rfl rfl ?_ | refine wq_getf (by assumption) rfl ?_ | refine wq_alen (by assumption) rfl ?_)
  refine wf rfl (wq_cs rfl rfl ((c_inC (a := 0) (b := 1) hi (by omega) (by omega)).mono ?_))
  rintro v M ⟨rfl, rfl⟩
  by_cases hq : 0 ≤ i ∧ i < 2
  · rw [if_pos hq, if_pos (by omega)]
    have hv := v2 i.toNat (by omega)
    refine wf rfl (wq_ifne ⟨by omega, by omega⟩ (fun _ => ?_) (fun c9 => by exfalso; omega))
    repeat (refine wf rfl ?_; first | refine wq_iadd ?_ | refine wq_isub ?_ | refine wq_imul ?_ | refine wq_iinc rfl ?_ | refine wq_goto ?_ | refine wq_k rfl ?_ | refine wq_b rfl rfl ?_ | refine wq_getf (by assumption) rfl ?_ | refine wq_alen (by assumption) rfl ?_)
    cases hs : S.2.2.2 i.toNat with
    | none =>
      have hv : fv i.toNat = 0 := by rw [hv, hs]; rfl
      refine wf rfl (wq_iald v1 ⟨by omega, by omega⟩ (by omega) (by omega) ?_)
      rw [hv]
      repeat' (refine wf rfl ?_; first | refine wq_iadd ?_ | refine wq_isub ?_ | refine wq_imul ?_ | refine wq_iinc rfl ?_ | refine wq_goto ?_ | refine wq_k rfl ?_ | refine wq_b rfl rfl ?_ | refine wq_getf (by assumption) rfl ?_ | refine wq_alen (by assumption) rfl ?_ | (refine wq_eq ⟨by omega, by omega⟩ ⟨by omega, by omega⟩ (fun _ => ?_) (fun _ => ?_) <;> try (exfalso; omega)) | (refine wq_ne ⟨by omega, by omega⟩ ⟨by omega, by omega⟩ (fun _ => ?_) (fun _ => ?_) <;> try (exfalso; omega)) | (refine wq_lt ⟨by omega, by omega⟩ ⟨by omega, by omega⟩ (fun _ => ?_) (fun _ => ?_) <;> try (exfalso; omega)) | (refine wq_ge ⟨by omega, by omega⟩ ⟨by omega, by omega⟩ (fun _ => ?_) (fun _ => ?_) <;> try (exfalso; omega)) | (refine wq_gt ⟨by omega, by omega⟩ ⟨by omega, by omega⟩ (fun _ => ?_) (fun _ => ?_) <;> try (exfalso; omega)) | (refine wq_le ⟨by omega, by omega⟩ ⟨by omega, by omega⟩ (fun _ => ?_) (fun _ => ?_) <;> try (exfalso; omega)) | (refine wq_ifeq ⟨by omega, by omega⟩ (fun _ => ?_) (fun _ => ?_) <;> try (exfalso; omega)) | (refine wq_ifne ⟨by omega, by omega⟩ (fun _ => ?_) (fun _ => ?_) <;> try (exfalso; omega)) | (refine wq_iflt ⟨by omega, by omega⟩ (fun _ => ?_) (fun _ => ?_) <;> try (exfalso; omega)) | (refine wq_ifge ⟨by omega, by omega⟩ (fun _ => ?_) (fun _ => ?_) <;> try (exfalso; omega)) | (refine wq_ifgt ⟨by omega, by omega⟩ (fun _ => ?_) (fun _ => ?_) <;> try (exfalso; omega)) | (refine wq_ifle ⟨by omega, by omega⟩ (fun _ => ?_) (fun _ => ?_) <;> try (exfalso; omega)) | refine wq_r rfl rfl rfl rfl rfl rfl ?_)
      exact ⟨rfl, Fr.rf, h⟩
    | some G =>
      have hv : fv i.toNat = 1 := by rw [hv, hs]; rfl
      have hGa := s2 i.toNat G (by omega) hs
      have hK2 := hK4 i.toNat G (by omega) hs
      have hlen2 := word_len hK2
      have hwl2 := hK2.2.1
      refine wf rfl (wq_iald v1 ⟨by omega, by omega⟩ (by omega) (by omega) ?_)
      rw [hv]
      refine wf rfl (wq_ifne ⟨by omega, by omega⟩ (fun _ => ?_) (fun c9 => by exfalso; omega))
      repeat (refine wf rfl ?_; first | refine wq_iadd ?_ | refine wq_isub ?_ | refine wq_imul ?_ | refine wq_iinc rfl ?_ | refine wq_goto ?_ | refine wq_k rfl ?_ | refine wq_b rfl rfl ?_ | refine wq_getf (by assumption) rfl ?_ | refine wq_alen (by assumption) rfl ?_)
      refine wf rfl (wq_cv rfl rfl rfl hO (htw.mono ?_))
      rintro v M1 ⟨rfl, f1, w2, q1, q2⟩
      have hO1 : MO M1 m _ si re _ sp := f1.at (by omega) hO
      obtain ⟨ri', r1'⟩ := f1.arr ⟨_, r1⟩
      obtain ⟨pi', p1'⟩ := f1.arr ⟨_, p1⟩
      have htw2 := c_Md_tellsWord (o := 2188 * i.toNat) (af := m + 5) (ai := m + 10) hO1 hK2 hGa.2.1 (f1.at (by omega) s1) hGa (by omega) (by omega) (Or.inr rfl) (Or.inr rfl) r1' p1' (f1.at (by omega) w10)
      rw [show ((2188 * i.toNat : Nat) : Int) = 2188 * i by omega] at htw2
      repeat (refine wf rfl ?_; first | refine wq_iadd ?_ | refine wq_isub ?_ | refine wq_imul ?_ | refine wq_iinc rfl ?_ | refine wq_goto ?_ | refine wq_k rfl ?_ | refine wq_b rfl rfl ?_ | refine wq_getf (by assumption) rfl ?_ | refine wq_alen (by assumption) rfl ?_)
      refine wf rfl (wq_cv rfl rfl rfl hO1 (htw2.mono ?_))
      rintro v M2 ⟨rfl, f2, w3, q3, q4⟩
      have hO2 : MO M2 m _ si re _ sp := f2.at (by omega) hO1
      have ff := f1.tr2 f2
      have fin : Fr (inM m) M M2 ∧ MS M2 m S := ⟨ff.mono (fun z hz => by unfold inM; omega), h.work ff (by omega) (by omega) (by omega) (by omega) (by omega) (by omega)⟩
      have hst := fun (_ : True) => (lp_munl (i := i) hO2 (f2.at (by omega) q1) q2 (by omega) q3 q4 (by omega) (word_letters hK1.1) (word_letters hK2.1) 10001 0 ⟨by omega, by omega, by omega, by omega, rfl⟩).mono (Q' := fun v M' => v = some (.int (I (dif 0 (wordG S.1) (wordG G)))) ∧ Fr (inM m) M M' ∧ MS M' m S) (fun v M' hv => ⟨hv.1, by rw [hv.2]; exact fin⟩)
      repeat' (first | (refine Wp.sub (hst  ?_) ⟨rfl, rfl, rfl, rfl, rfl, trivial⟩ rfl) | (refine wf rfl ?_; first | refine wq_iadd ?_ | refine wq_isub ?_ | refine wq_imul ?_ | refine wq_iinc rfl ?_ | refine wq_goto ?_ | refine wq_k rfl ?_ | refine wq_b rfl rfl ?_ | refine wq_getf (by assumption) rfl ?_ | refine wq_alen (by assumption) rfl ?_ | fail | (refine wq_eq ⟨by omega, by omega⟩ ⟨by omega, by omega⟩ (fun _ => ?_) (fun _ => ?_) <;> try (exfalso; omega)) | (refine wq_ne ⟨by omega, by omega⟩ ⟨by omega, by omega⟩ (fun _ => ?_) (fun _ => ?_) <;> try (exfalso; omega)) | (refine wq_lt ⟨by omega, by omega⟩ ⟨by omega, by omega⟩ (fun _ => ?_) (fun _ => ?_) <;> try (exfalso; omega)) | (refine wq_ge ⟨by omega, by omega⟩ ⟨by omega, by omega⟩ (fun _ => ?_) (fun _ => ?_) <;> try (exfalso; omega)) | (refine wq_gt ⟨by omega, by omega⟩ ⟨by omega, by omega⟩ (fun _ => ?_) (fun _ => ?_) <;> try (exfalso; omega)) | (refine wq_le ⟨by omega, by omega⟩ ⟨by omega, by omega⟩ (fun _ => ?_) (fun _ => ?_) <;> try (exfalso; omega)) | (refine wq_ifeq ⟨by omega, by omega⟩ (fun _ => ?_) (fun _ => ?_) <;> try (exfalso; omega)) | (refine wq_ifne ⟨by omega, by omega⟩ (fun _ => ?_) (fun _ => ?_) <;> try (exfalso; omega)) | (refine wq_iflt ⟨by omega, by omega⟩ (fun _ => ?_) (fun _ => ?_) <;> try (exfalso; omega)) | (refine wq_ifge ⟨by omega, by omega⟩ (fun _ => ?_) (fun _ => ?_) <;> try (exfalso; omega)) | (refine wq_ifgt ⟨by omega, by omega⟩ (fun _ => ?_) (fun _ => ?_) <;> try (exfalso; omega)) | (refine wq_ifle ⟨by omega, by omega⟩ (fun _ => ?_) (fun _ => ?_) <;> try (exfalso; omega)) | refine wq_r rfl rfl rfl rfl rfl rfl ?_))
      trivial
  · rw [if_neg hq, if_neg (by omega)]
    repeat' (refine wf rfl ?_; first | refine wq_iadd ?_ | refine wq_isub ?_ | refine wq_imul ?_ | refine wq_iinc rfl ?_ | refine wq_goto ?_ | refine wq_k rfl ?_ | refine wq_b rfl rfl ?_ | refine wq_getf (by assumption) rfl ?_ | refine wq_alen (by assumption) rfl ?_ | (refine wq_eq ⟨by omega, by omega⟩ ⟨by omega, by omega⟩ (fun _ => ?_) (fun _ => ?_) <;> try (exfalso; omega)) | (refine wq_ne ⟨by omega, by omega⟩ ⟨by omega, by omega⟩ (fun _ => ?_) (fun _ => ?_) <;> try (exfalso; omega)) | (refine wq_lt ⟨by omega, by omega⟩ ⟨by omega, by omega⟩ (fun _ => ?_) (fun _ => ?_) <;> try (exfalso; omega)) | (refine wq_ge ⟨by omega, by omega⟩ ⟨by omega, by omega⟩ (fun _ => ?_) (fun _ => ?_) <;> try (exfalso; omega)) | (refine wq_gt ⟨by omega, by omega⟩ ⟨by omega, by omega⟩ (fun _ => ?_) (fun _ => ?_) <;> try (exfalso; omega)) | (refine wq_le ⟨by omega, by omega⟩ ⟨by omega, by omega⟩ (fun _ => ?_) (fun _ => ?_) <;> try (exfalso; omega)) | (refine wq_ifeq ⟨by omega, by omega⟩ (fun _ => ?_) (fun _ => ?_) <;> try (exfalso; omega)) | (refine wq_ifne ⟨by omega, by omega⟩ (fun _ => ?_) (fun _ => ?_) <;> try (exfalso; omega)) | (refine wq_iflt ⟨by omega, by omega⟩ (fun _ => ?_) (fun _ => ?_) <;> try (exfalso; omega)) | (refine wq_ifge ⟨by omega, by omega⟩ (fun _ => ?_) (fun _ => ?_) <;> try (exfalso; omega)) | (refine wq_ifgt ⟨by omega, by omega⟩ (fun _ => ?_) (fun _ => ?_) <;> try (exfalso; omega)) | (refine wq_ifle ⟨by omega, by omega⟩ (fun _ => ?_) (fun _ => ?_) <;> try (exfalso; omega)) | refine wq_r rfl rfl rfl rfl rfl rfl ?_)
    exact ⟨rfl, Fr.rf, h⟩
end MD21
