/-! The class finds the first place at which two words differ. -/
section UNL
variable {M : PM} {c : Nat} {S : ST}
theorem hd6_in {R : List Int} (h : ∀ s ∈ R, 0 ≤ s ∧ s < 8) : -6 ≤ hd6 R ∧ hd6 R < 8 := by
  cases R with
  | nil => exact ⟨by decide, by decide⟩
  | cons x r =>
    have := h x List.mem_cons_self
    show -6 ≤ x ∧ x < 8
    omega
theorem dif_ne {R1 R2 : List Int} {k : Int} (h : ¬ hd6 R1 = hd6 R2) : dif k R1 R2 = k := by
  cases R1 with
  | nil =>
    cases R2 with
    | nil => exact absurd rfl h
    | cons y s => rfl
  | cons x r =>
    cases R2 with
    | nil => rfl
    | cons y s => rw [dif, if_neg (show ¬ x = y from h)]
theorem dif_eq {R1 R2 : List Int} {k : Int} (h1 : ∀ s ∈ R1, 0 ≤ s ∧ s < 8) (h2 : ∀ s ∈ R2, 0 ≤ s ∧ s < 8) (h : hd6 R1 = hd6 R2) : (hd6 R1 = -6 ∧ R1 = [] ∧ dif k R1 R2 = -6) ∨ (hd6 R1 ≠ -6 ∧ R1.length = R1.tail.length + 1 ∧ R2.length = R2.tail.length + 1 ∧ dif k R1 R2 = dif (k + 1) R1.tail R2.tail) := by
  cases R1 with
  | nil =>
    cases R2 with
    | nil => exact Or.inl ⟨rfl, rfl, rfl⟩
    | cons y s =>
      have := h2 y List.mem_cons_self
      have h : (-6 : Int) = y := h
      exfalso
      omega
  | cons x r =>
    have q1 := h1 x List.mem_cons_self
    cases R2 with
    | nil =>
      have h : x = (-6 : Int) := h
      exfalso
      omega
    | cons y s =>
      have h : x = y := h
      refine Or.inr ⟨?_, rfl, rfl, by rw [dif, if_pos h]; rfl⟩
      show x ≠ -6
      omega
theorem lp_punl {i : Int} {G : GS} {p p' : Nat → Nat} {X X' : Nat → List Int} {lt dp us lt' dp' us' : Nat → Int} (h : CS M c S) (hi : 0 ≤ i ∧ i < 2) (y : GV M (c + 1) S.1 p X lt dp us) (y' : GV M (c + 494 + 59 * i.toNat) G p' X' lt' dp' us') (D : Int) (n : Nat) : ∀ (k : Int) (M1 : PM) (ro po : Nat → Int) (o : Nat) (ro' po' : Nat → Int) (o' : Nat), (Fr (fun q => c + 488 ≤ q ∧ q < c + 494) M M1 ∧ Wk M1 (c + 488) ro po (o : Int) ∧ WkS S.1 ro po o ∧ Wk M1 (c + 491) ro' po' (o' : Int) ∧ WkS G ro' po' o' ∧ 0 ≤ k ∧ k + (rem S.1 ro po o).length ≤ 9999 ∧ (rem S.1 ro po o).length < n ∧ (∀ s ∈ rem S.1 ro po o, 0 ≤ s ∧ s < 8) ∧ (∀ s ∈ rem G ro' po' o', 0 ≤ s ∧ s < 8) ∧ dif k (rem S.1 ro po o) (rem G ro' po' o') = D) →
    Wp k_X9_unlike (39, [(0, .ref c), (1, .int (I i)), (2, .int (I k))], [], M1) (fun v M' => v = some (.int (I D)) ∧ Fr (inC c) M M' ∧ CS M' c S) := by
  induction n with
  | zero => rintro k M1 ro po o ro' po' o' ⟨-, -, -, -, -, -, -, q, -⟩; exact absurd q (Nat.not_lt_zero _)
  | succ n ih =>
    rintro k M1 ro po o ro' po' o' ⟨f1, w1, s1, w2, s2, i1, i2, i3, i4, i5, i6⟩
    obtain ⟨a1, a2, a3, a4, a5, ⟨⟨f, h1, h2⟩, -⟩, a7, a8⟩ := id h
    have a11 : CO M1 c := f1.at (by omega) a1
    have h11 := f1.at (by omega) h1
    have wo := w1.1
    have n1 := c_Walk_next (w := c + 488) (g := c + 1) (M := M1) ⟨y.1.fr f1 (fun z z1 z2 => by omega), y.2⟩ (by omega) w1 s1
    have l1 := hd6_in i4
    have l2 := hd6_in i5
    repeat (refine wf rfl ?_; first | refine wq_iadd ?_ | refine wq_isub ?_ | refine wq_imul ?_ | refine wq_iinc rfl ?_ | refine wq_goto ?_ | refine wq_k rfl ?_ | refine wq_b rfl rfl ?_ | refine wq_getf (by assumption) rfl ?_ | refine wq_alen (by assumption) rfl ?_)
    refine wf rfl (wq_gt ⟨by omega, by omega⟩ ⟨by omega, by omega⟩ (fun c9 => by exfalso; omega) (fun _ => ?_))
    repeat (refine wf rfl ?_; first | refine wq_iadd ?_ | refine wq_isub ?_ | refine wq_imul ?_ | refine wq_iinc rfl ?_ | refine wq_goto ?_ | refine wq_k rfl ?_ | refine wq_b rfl rfl ?_ | refine wq_getf (by assumption) rfl ?_ | refine wq_alen (by assumption) rfl ?_)
    refine wf rfl (wq_cv rfl rfl rfl wo (n1.mono ?_))
    rintro v M2 ⟨rfl, f2, ro2, po2, o2, t1, t2, t3⟩
    have f2' : Fr (fun q => c + 488 ≤ q ∧ q < c + 494) M1 M2 := f2.mono (fun q hq => by unfold inW at hq; omega)
    have f12 := f1.tr f2'
    have a12 : CO M2 c := f12.at (by omega) a1
    have w2' : Wk M2 (c + 491) ro' po' (o' : Int) := w2.fr f2 (by unfold inW; omega) (by unfold inW; omega) (by unfold inW; omega)
    have wo' := w2'.1
    have n2 := c_Walk_next (w := c + 491) (g := c + 494 + 59 * i.toNat) (M := M2) ⟨y'.1.fr f12 (fun z z1 z2 => by omega), y'.2⟩ (by omega) w2' s2
    repeat (refine wf rfl ?_; first | refine wq_iadd ?_ | refine wq_isub ?_ | refine wq_imul ?_ | refine wq_iinc rfl ?_ | refine wq_goto ?_ | refine wq_k rfl ?_ | refine wq_b rfl rfl ?_ | refine wq_getf (by assumption) rfl ?_ | refine wq_alen (by assumption) rfl ?_)
    refine wf rfl (wq_aald (f12.at (by omega) h1) rfl ⟨by omega, by omega⟩ (by omega) (by omega) (h2 _ (by omega)) ?_)
    refine wf rfl (wq_cv rfl rfl rfl wo' (n2.mono ?_))
    rintro v M3 ⟨rfl, f3, ro3, po3, o3, t4, t5, t6⟩
    have f3' : Fr (fun q => c + 488 ≤ q ∧ q < c + 494) M2 M3 := f3.mono (fun q hq => by unfold inW at hq; omega)
    have f13 := f12.tr f3'
    have t1' : Wk M3 (c + 488) ro2 po2 (o2 : Int) := t1.fr f3 (by unfold inW; omega) (by unfold inW; omega) (by unfold inW; omega)
    have fin := h.help f13 (fun q hq => by omega) (by
      obtain ⟨b1, ⟨fa, su, ff, s, b2⟩, ⟨fl, rp, b3⟩, -⟩ := a8
      exact ⟨b1.fr f13 (by omega) (by omega), ⟨fa, su, ff, s, b2.fr f13 (by omega) (by omega) (by omega)⟩, ⟨fl, rp, f13.at (by omega) b3⟩, ⟨_, _, _, t1'⟩, ⟨_, _, _, t4⟩⟩)
    refine wf rfl (wq_eq ⟨by omega, by omega⟩ ⟨by omega, by omega⟩ (fun c3 => ?_) (fun c3 => ?_))
    · rcases dif_eq (k := k) i4 i5 c3 with ⟨d1, d2, d3⟩ | ⟨d1, d2, d3, d4⟩
      · rw [d3] at i6
        repeat (refine wf rfl ?_; first | refine wq_iadd ?_ | refine wq_isub ?_ | refine wq_imul ?_ | refine wq_iinc rfl ?_ | refine wq_goto ?_ | refine wq_k rfl ?_ | refine wq_b rfl rfl ?_ | refine wq_getf (by assumption) rfl ?_ | refine wq_alen (by assumption) rfl ?_)
        refine wf rfl (wq_ne ⟨by omega, by omega⟩ ⟨by omega, by omega⟩ (fun c9 => absurd d1 c9) (fun _ => ?_))
        repeat' (refine wf rfl ?_; first | refine wq_iadd ?_ | refine wq_isub ?_ | refine wq_imul ?_ | refine wq_iinc rfl ?_ | refine wq_goto ?_ | refine wq_k rfl ?_ | refine wq_b rfl rfl ?_ | refine wq_getf (by assumption) rfl ?_ | refine wq_alen (by assumption) rfl ?_ | (refine wq_eq ⟨by omega, by omega⟩ ⟨by omega, by omega⟩ (fun _ => ?_) (fun _ => ?_) <;> try (exfalso; omega)) | (refine wq_ne ⟨by omega, by omega⟩ ⟨by omega, by omega⟩ (fun _ => ?_) (fun _ => ?_) <;> try (exfalso; omega)) | (refine wq_lt ⟨by omega, by omega⟩ ⟨by omega, by omega⟩ (fun _ => ?_) (fun _ => ?_) <;> try (exfalso; omega)) | (refine wq_ge ⟨by omega, by omega⟩ ⟨by omega, by omega⟩ (fun _ => ?_) (fun _ => ?_) <;> try (exfalso; omega)) | (refine wq_gt ⟨by omega, by omega⟩ ⟨by omega, by omega⟩ (fun _ => ?_) (fun _ => ?_) <;> try (exfalso; omega)) | (refine wq_le ⟨by omega, by omega⟩ ⟨by omega, by omega⟩ (fun _ => ?_) (fun _ => ?_) <;> try (exfalso; omega)) | (refine wq_ifeq ⟨by omega, by omega⟩ (fun _ => ?_) (fun _ => ?_) <;> try (exfalso; omega)) | (refine wq_ifne ⟨by omega, by omega⟩ (fun _ => ?_) (fun _ => ?_) <;> try (exfalso; omega)) | (refine wq_iflt ⟨by omega, by omega⟩ (fun _ => ?_) (fun _ => ?_) <;> try (exfalso; omega)) | (refine wq_ifge ⟨by omega, by omega⟩ (fun _ => ?_) (fun _ => ?_) <;> try (exfalso; omega)) | (refine wq_ifgt ⟨by omega, by omega⟩ (fun _ => ?_) (fun _ => ?_) <;> try (exfalso; omega)) | (refine wq_ifle ⟨by omega, by omega⟩ (fun _ => ?_) (fun _ => ?_) <;> try (exfalso; omega)) | refine wq_r rfl rfl rfl rfl rfl rfl ?_)
        exact ⟨by rw [← i6], fin⟩
      · rw [d4] at i6
        repeat (refine wf rfl ?_; first | refine wq_iadd ?_ | refine wq_isub ?_ | refine wq_imul ?_ | refine wq_iinc rfl ?_ | refine wq_goto ?_ | refine wq_k rfl ?_ | refine wq_b rfl rfl ?_ | refine wq_getf (by assumption) rfl ?_ | refine wq_alen (by assumption) rfl ?_)
        refine wf rfl (wq_ne ⟨by omega, by omega⟩ ⟨by omega, by omega⟩ (fun _ => ?_) (fun c9 => absurd c9 d1))
        rw [← t3, ← t6] at i6
        rw [← t3] at d2
        rw [← t6] at d3
        have hst := fun (_ : True) => ih (k + 1) M3 ro2 po2 o2 ro3 po3 o3 ⟨f13, t1', t2, t4, t5, by omega, by omega, by omega, fun s hs => i4 s (by rw [t3] at hs; exact List.mem_of_mem_tail hs), fun s hs => i5 s (by rw [t6] at hs; exact List.mem_of_mem_tail hs), i6⟩
        repeat' (first | (refine Wp.sub (hst  ?_) ⟨rfl, rfl, rfl, trivial⟩ rfl) | (refine wf rfl ?_; first | refine wq_iadd ?_ | refine wq_isub ?_ | refine wq_imul ?_ | refine wq_iinc rfl ?_ | refine wq_goto ?_ | refine wq_k rfl ?_ | refine wq_b rfl rfl ?_ | refine wq_getf (by assumption) rfl ?_ | refine wq_alen (by assumption) rfl ?_ | fail | (refine wq_eq ⟨by omega, by omega⟩ ⟨by omega, by omega⟩ (fun _ => ?_) (fun _ => ?_) <;> try (exfalso; omega)) | (refine wq_ne ⟨by omega, by omega⟩ ⟨by omega, by omega⟩ (fun _ => ?_) (fun _ => ?_) <;> try (exfalso; omega)) | (refine wq_lt ⟨by omega, by omega⟩ ⟨by omega, by omega⟩ (fun _ => ?_) (fun _ => ?_) <;> try (exfalso; omega)) | (refine wq_ge ⟨by omega, by omega⟩ ⟨by omega, by omega⟩ (fun _ => ?_) (fun _ => ?_) <;> try (exfalso; omega)) | (refine wq_gt ⟨by omega, by omega⟩ ⟨by omega, by omega⟩ (fun _ => ?_) (fun _ => ?_) <;> try (exfalso; omega)) | (refine wq_le ⟨by omega, by omega⟩ ⟨by omega, by omega⟩ (fun _ => ?_) (fun _ => ?_) <;> try (exfalso; omega)) | (refine wq_ifeq ⟨by omega, by omega⟩ (fun _ => ?_) (fun _ => ?_) <;> try (exfalso; omega)) | (refine wq_ifne ⟨by omega, by omega⟩ (fun _ => ?_) (fun _ => ?_) <;> try (exfalso; omega)) | (refine wq_iflt ⟨by omega, by omega⟩ (fun _ => ?_) (fun _ => ?_) <;> try (exfalso; omega)) | (refine wq_ifge ⟨by omega, by omega⟩ (fun _ => ?_) (fun _ => ?_) <;> try (exfalso; omega)) | (refine wq_ifgt ⟨by omega, by omega⟩ (fun _ => ?_) (fun _ => ?_) <;> try (exfalso; omega)) | (refine wq_ifle ⟨by omega, by omega⟩ (fun _ => ?_) (fun _ => ?_) <;> try (exfalso; omega)) | refine wq_r rfl rfl rfl rfl rfl rfl ?_))
        trivial
    · rw [dif_ne c3] at i6
      repeat' (refine wf rfl ?_; first | refine wq_iadd ?_ | refine wq_isub ?_ | refine wq_imul ?_ | refine wq_iinc rfl ?_ | refine wq_goto ?_ | refine wq_k rfl ?_ | refine wq_b rfl rfl ?_ | refine wq_getf (by assumption) rfl ?_ | refine wq_alen (by assumption) rfl ?_ | (refine wq_eq ⟨by omega, by omega⟩ ⟨by omega, by omega⟩ (fun _ => ?_) (fun _ => ?_) <;> try (exfalso; omega)) | (refine wq_ne ⟨by omega, by omega⟩ ⟨by omega, by omega⟩ (fun _ => ?_) (fun _ => ?_) <;> try (exfalso; omega)) | (refine wq_lt ⟨by omega, by omega⟩ ⟨by omega, by omega⟩ (fun _ => ?_) (fun _ => ?_) <;> try (exfalso; omega)) | (refine wq_ge ⟨by omega, by omega⟩ ⟨by omega, by omega⟩ (fun _ => ?_) (fun _ => ?_) <;> try (exfalso; omega)) | (refine wq_gt ⟨by omega, by omega⟩ ⟨by omega, by omega⟩ (fun _ => ?_) (fun _ => ?_) <;> try (exfalso; omega)) | (refine wq_le ⟨by omega, by omega⟩ ⟨by omega, by omega⟩ (fun _ => ?_) (fun _ => ?_) <;> try (exfalso; omega)) | (refine wq_ifeq ⟨by omega, by omega⟩ (fun _ => ?_) (fun _ => ?_) <;> try (exfalso; omega)) | (refine wq_ifne ⟨by omega, by omega⟩ (fun _ => ?_) (fun _ => ?_) <;> try (exfalso; omega)) | (refine wq_iflt ⟨by omega, by omega⟩ (fun _ => ?_) (fun _ => ?_) <;> try (exfalso; omega)) | (refine wq_ifge ⟨by omega, by omega⟩ (fun _ => ?_) (fun _ => ?_) <;> try (exfalso; omega)) | (refine wq_ifgt ⟨by omega, by omega⟩ (fun _ => ?_) (fun _ => ?_) <;> try (exfalso; omega)) | (refine wq_ifle ⟨by omega, by omega⟩ (fun _ => ?_) (fun _ => ?_) <;> try (exfalso; omega)) | refine wq_r rfl rfl rfl rfl rfl rfl ?_)
      exact ⟨by rw [← i6], fin⟩
theorem c_PG_unlike {i : Int} (hi : inR i) (h : CS M c S) (hK : OKS S) : Wm 108 [.ref c, .int (I i)] M (fun v M' => v = some (.int (I (spUnlike i S))) ∧ Fr (inC c) M M' ∧ CS M' c S) := by
  obtain ⟨hi1, hi2⟩ := id hi
  obtain ⟨a1, a2, a3, a4, a5, ⟨⟨f, h1, h2⟩, ⟨g, h3, h4⟩, h5, h6⟩, a7, a8⟩ := id h
  unfold spUnlike
  refine wm_in (lv := _) rfl rfl rfl ?_
  repeat (refine wf rfl ?_; first | refine wq_iadd ?_ | refine wq_isub ?_ | refine wq_imul ?_ | refine wq_iinc rfl ?_ | refine wq_goto ?_ | refine wq_k rfl ?_ | refine wq_b rfl rfl ?_ | refine wq_getf (by assumption) rfl ?_ | refine wq_alen (by assumption) rfl ?_)
  refine wf rfl (wq_cv rfl rfl rfl a1 ((c_isSlot hi h).mono ?_))
  rintro v M ⟨rfl, rfl⟩
  by_cases hq : 0 ≤ i ∧ i < 2
  · rw [if_pos hq, if_pos hq]
    have hv := h4 i.toNat (by omega)
    refine wf rfl (wq_ifne ⟨by omega, by omega⟩ (fun _ => ?_) (fun c9 => by exfalso; omega))
    repeat (refine wf rfl ?_; first | refine wq_iadd ?_ | refine wq_isub ?_ | refine wq_imul ?_ | refine wq_iinc rfl ?_ | refine wq_goto ?_ | refine wq_k rfl ?_ | refine wq_b rfl rfl ?_ | refine wq_getf (by assumption) rfl ?_ | refine wq_alen (by assumption) rfl ?_)
    cases hs : S.2.2.2 i.toNat with
    | none =>
      have hv : g i.toNat = 0 := by rw [hv, hs]; rfl
      refine wf rfl (wq_bald h3 ⟨by omega, by omega⟩ (by omega) (by omega) ?_)
      rw [hv]
      repeat' (refine wf rfl ?_; first | refine wq_iadd ?_ | refine wq_isub ?_ | refine wq_imul ?_ | refine wq_iinc rfl ?_ | refine wq_goto ?_ | refine wq_k rfl ?_ | refine wq_b rfl rfl ?_ | refine wq_getf (by assumption) rfl ?_ | refine wq_alen (by assumption) rfl ?_ | (refine wq_eq ⟨by omega, by omega⟩ ⟨by omega, by omega⟩ (fun _ => ?_) (fun _ => ?_) <;> try (exfalso; omega)) | (refine wq_ne ⟨by omega, by omega⟩ ⟨by omega, by omega⟩ (fun _ => ?_) (fun _ => ?_) <;> try (exfalso; omega)) | (refine wq_lt ⟨by omega, by omega⟩ ⟨by omega, by omega⟩ (fun _ => ?_) (fun _ => ?_) <;> try (exfalso; omega)) | (refine wq_ge ⟨by omega, by omega⟩ ⟨by omega, by omega⟩ (fun _ => ?_) (fun _ => ?_) <;> try (exfalso; omega)) | (refine wq_gt ⟨by omega, by omega⟩ ⟨by omega, by omega⟩ (fun _ => ?_) (fun _ => ?_) <;> try (exfalso; omega)) | (refine wq_le ⟨by omega, by omega⟩ ⟨by omega, by omega⟩ (fun _ => ?_) (fun _ => ?_) <;> try (exfalso; omega)) | (refine wq_ifeq ⟨by omega, by omega⟩ (fun _ => ?_) (fun _ => ?_) <;> try (exfalso; omega)) | (refine wq_ifne ⟨by omega, by omega⟩ (fun _ => ?_) (fun _ => ?_) <;> try (exfalso; omega)) | (refine wq_iflt ⟨by omega, by omega⟩ (fun _ => ?_) (fun _ => ?_) <;> try (exfalso; omega)) | (refine wq_ifge ⟨by omega, by omega⟩ (fun _ => ?_) (fun _ => ?_) <;> try (exfalso; omega)) | (refine wq_ifgt ⟨by omega, by omega⟩ (fun _ => ?_) (fun _ => ?_) <;> try (exfalso; omega)) | (refine wq_ifle ⟨by omega, by omega⟩ (fun _ => ?_) (fun _ => ?_) <;> try (exfalso; omega)) | refine wq_r rfl rfl rfl rfl rfl rfl ?_)
      exact ⟨rfl, Fr.rf, h⟩
    | some G =>
      have hv : g i.toNat = 1 := by rw [hv, hs]; rfl
      refine wf rfl (wq_bald h3 ⟨by omega, by omega⟩ (by omega) (by omega) ?_)
      rw [hv]
      refine wf rfl (wq_ifne ⟨by omega, by omega⟩ (fun _ => ?_) (fun c9 => by exfalso; omega))
      have hK2 := hK.2.2.2 i.toNat G (by omega) hs
      have hl1 := word_len hK.1
      have hl2 := word_len hK2
      have hw1 := hK.1.2.1
      obtain ⟨p, X, lt, dp, us, y⟩ := a2.gv
      obtain ⟨p', X', lt', dp', us', y'⟩ := (h6 i.toNat G (by omega) hs).gv
      obtain ⟨b1, b2, b3, ⟨ro, po, o, b4⟩, ⟨ro', po', o', b5⟩⟩ := id a8
      have wo := b4.1
      repeat (refine wf rfl ?_; first | refine wq_iadd ?_ | refine wq_isub ?_ | refine wq_imul ?_ | refine wq_iinc rfl ?_ | refine wq_goto ?_ | refine wq_k rfl ?_ | refine wq_b rfl rfl ?_ | refine wq_getf (by assumption) rfl ?_ | refine wq_alen (by assumption) rfl ?_)
      refine wf rfl (wq_cv rfl rfl rfl wo ((c_Walk_start b4).mono ?_))
      rintro v M1 ⟨rfl, f1, k1⟩
      have a11 : CO M1 c := f1.at (by unfold inW; omega) a1
      have b5' := b5.fr f1 (by unfold inW; omega) (by unfold inW; omega) (by unfold inW; omega)
      have wo' := b5'.1
      repeat (refine wf rfl ?_; first | refine wq_iadd ?_ | refine wq_isub ?_ | refine wq_imul ?_ | refine wq_iinc rfl ?_ | refine wq_goto ?_ | refine wq_k rfl ?_ | refine wq_b rfl rfl ?_ | refine wq_getf (by assumption) rfl ?_ | refine wq_alen (by assumption) rfl ?_)
      refine wf rfl (wq_cv rfl rfl rfl wo' ((c_Walk_start b5').mono ?_))
      rintro v M2 ⟨rfl, f2, k2⟩
      have a12 : CO M2 c := f2.at (by unfold inW; omega) a11
      have hst := fun (_ : True) => lp_punl h hq y y' (dif 0 (wordG S.1) (wordG G)) 10001 0 M2 (upz ro 0 (-6)) (upz po 0 0) 1 (upz ro' 0 (-6)) (upz po' 0 0) 1 ⟨(f1.mono (fun q hq => by unfold inW at hq; omega)).tr (f2.mono (fun q hq => by unfold inW at hq; omega)), k1.fr f2 (by unfold inW; omega) (by unfold inW; omega) (by unfold inW; omega), WkS_start, k2, WkS_start, by omega, by rw [rem_start]; omega, by rw [rem_start]; omega, by rw [rem_start]; exact word_letters hK.1.1, by rw [rem_start]; exact word_letters hK2.1, by rw [rem_start, rem_start]⟩
      repeat' (first | (refine Wp.sub (hst  ?_) ⟨rfl, rfl, rfl, trivial⟩ rfl) | (refine wf rfl ?_; first | refine wq_iadd ?_ | refine wq_isub ?_ | refine wq_imul ?_ | refine wq_iinc rfl ?_ | refine wq_goto ?_ | refine wq_k rfl ?_ | refine wq_b rfl rfl ?_ | refine wq_getf (by assumption) rfl ?_ | refine wq_alen (by assumption) rfl ?_ | fail | (refine wq_eq ⟨by omega, by omega⟩ ⟨by omega, by omega⟩ (fun _ => ?_) (fun _ => ?_) <;> try (exfalso; omega)) | (refine wq_ne ⟨by omega, by omega⟩ ⟨by omega, by omega⟩ (fun _ => ?_) (fun _ => ?_) <;> try (exfalso; omega)) | (refine wq_lt ⟨by omega, by omega⟩ ⟨by omega, by omega⟩ (fun _ => ?_) (fun _ => ?_) <;> try (exfalso; omega)) | (refine wq_ge ⟨by omega, by omega⟩ ⟨by omega, by omega⟩ (fun _ => ?_) (fun _ => ?_) <;> try (exfalso; omega)) | (refine wq_gt ⟨by omega, by omega⟩ ⟨by omega, by omega⟩ (fun _ => ?_) (fun _ => ?_) <;> try (exfalso; omega)) | (refine wq_le ⟨by omega, by omega⟩ ⟨by omega, by omega⟩ (fun _ => ?_) (fun _ => ?_) <;> try (exfalso; omega)) | (refine wq_ifeq ⟨by omega, by omega⟩ (fun _ => ?_) (fun _ => ?_) <;> try (exfalso; omega)) | (refine wq_ifne ⟨by omega, by omega⟩ (fun _ => ?_) (fun _ => ?_) <;> try (exfalso; omega)) | (refine wq_iflt ⟨by omega, by omega⟩ (fun _ => ?_) (fun _ => ?_) <;> try (exfalso; omega)) | (refine wq_ifge ⟨by omega, by omega⟩ (fun _ => ?_) (fun _ => ?_) <;> try (exfalso; omega)) | (refine wq_ifgt ⟨by omega, by omega⟩ (fun _ => ?_) (fun _ => ?_) <;> try (exfalso; omega)) | (refine wq_ifle ⟨by omega, by omega⟩ (fun _ => ?_) (fun _ => ?_) <;> try (exfalso; omega)) | refine wq_r rfl rfl rfl rfl rfl rfl ?_))
      trivial
  · rw [if_neg hq, if_neg hq]
    repeat' (refine wf rfl ?_; first | refine wq_iadd ?_ | refine wq_isub ?_ | refine wq_imul ?_ | refine wq_iinc rfl ?_ | refine wq_goto ?_ | refine wq_k rfl ?_ | refine wq_b rfl rfl ?_ | refine wq_getf (by assumption) rfl ?_ | refine wq_alen (by assumption) rfl ?_ | (refine wq_eq ⟨by omega, by omega⟩ ⟨by omega, by omega⟩ (fun _ => ?_) (fun _ => ?_) <;> try (exfalso; omega)) | (refine wq_ne ⟨by omega, by omega⟩ ⟨by omega, by omega⟩ (fun _ => ?_) (fun _ => ?_) <;> try (exfalso; omega)) | (refine wq_lt ⟨by omega, by omega⟩ ⟨by omega, by omega⟩ (fun _ => ?_) (fun _ => ?_) <;> try (exfalso; omega)) | (refine wq_ge ⟨by omega, by omega⟩ ⟨by omega, by omega⟩ (fun _ => ?_) (fun _ => ?_) <;> try (exfalso; omega)) | (refine wq_gt ⟨by omega, by omega⟩ ⟨by omega, by omega⟩ (fun _ => ?_) (fun _ => ?_) <;> try (exfalso; omega)) | (refine wq_le ⟨by omega, by omega⟩ ⟨by omega, by omega⟩ (fun _ => ?_) (fun _ => ?_) <;> try (exfalso; omega)) | (refine wq_ifeq ⟨by omega, by omega⟩ (fun _ => ?_) (fun _ => ?_) <;> try (exfalso; omega)) | (refine wq_ifne ⟨by omega, by omega⟩ (fun _ => ?_) (fun _ => ?_) <;> try (exfalso; omega)) | (refine wq_iflt ⟨by omega, by omega⟩ (fun _ => ?_) (fun _ => ?_) <;> try (exfalso; omega)) | (refine wq_ifge ⟨by omega, by omega⟩ (fun _ => ?_) (fun _ => ?_) <;> try (exfalso; omega)) | (refine wq_ifgt ⟨by omega, by omega⟩ (fun _ => ?_) (fun _ => ?_) <;> try (exfalso; omega)) | (refine wq_ifle ⟨by omega, by omega⟩ (fun _ => ?_) (fun _ => ?_) <;> try (exfalso; omega)) | refine wq_r rfl rfl rfl rfl rfl rfl ?_)
    exact ⟨rfl, Fr.rf, h⟩
end UNL
