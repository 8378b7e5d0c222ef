/-! The law's isGrammar: a text is put together on both sides, and told. -/
theorem sy_cdI {i : Int} (h0 : -5 ≤ i) (h1 : i < 26) : syC (cdI i) = if i < 0 then i + 5 else 8 + i := by
  unfold cdI
  split
  · exact sy_letter (by omega) (by omega)
  · exact sy_rule (by omega) (by omega)
theorem cdI_bd {i : Int} (h0 : -5 ≤ i) (h1 : i < 26) : 65 ≤ cdI i ∧ cdI i < 127 := by
  unfold cdI
  split <;> omega
theorem sy_cdb {i : Int} {n : Nat} (h0 : -5 ≤ i) (h1 : i < 26) (h2 : i < n) : 0 ≤ syC (cdI i) ∧ syC (cdI i) < 8 + (n : Int) := by
  rw [sy_cdI h0 h1]
  split <;> omega
/-- rules as the law's texts have them -/
def GRk (R : List (List Int)) : Prop := R.length ≤ 4 ∧ (∀ j, j < R.length → (xof R j).length ≤ 3) ∧ WFG (R, [])
theorem GRk.nil : GRk [] := ⟨by decide, fun j hj => absurd hj (Nat.not_lt_zero j), fun k hk => absurd hk (Nat.not_lt_zero k), fun s hs => absurd hs (List.not_mem_nil), fun k hk => absurd hk (Nat.not_lt_zero k)⟩
theorem GRk.snoc {R : List (List Int)} {ru : List Int} (h : GRk R) (h4 : R.length < 4) (h1 : 1 ≤ ru.length) (h3 : ru.length ≤ 3) (hm : WFm R.length ru) : GRk (R ++ [ru]) := by
  obtain ⟨a, b, c, d, e⟩ := h
  have hl : (R ++ [ru]).length = R.length + 1 := by rw [List.length_append, List.length_singleton]
  refine ⟨by omega, fun j hj => ?_, fun k hk s hs => ?_, fun s hs => absurd hs (List.not_mem_nil), fun k hk => ?_⟩
  · rw [hl] at hj
    by_cases q : j < R.length
    · rw [xof_app1 q]
      exact b j q
    · rw [show j = R.length by omega, xof_app2]
      exact h3
  · have hk : k < R.length + 1 := by rw [← hl]; exact hk
    have hs : s ∈ xof (R ++ [ru]) k := hs
    by_cases q : k < R.length
    · rw [xof_app1 q] at hs
      exact c k q s hs
    · have ek : k = R.length := by omega
      rw [ek, xof_app2] at hs
      rw [ek]
      exact hm s hs
  · have hk : k < R.length + 1 := by rw [← hl]; exact hk
    show 1 ≤ (xof (R ++ [ru]) k).length
    by_cases q : k < R.length
    · rw [xof_app1 q]
      exact e k q
    · rw [show k = R.length by omega, xof_app2]
      exact h1
theorem GRk.main {R : List (List Int)} {mn : List Int} (h : GRk R) (hm : WFm R.length mn) : WFG (R, mn) := ⟨h.2.2.1, hm, h.2.2.2.2⟩
theorem long_61 : (I 61).toInt64 = Int64.ofNat 61 := by decide +kernel
theorem long_59 : (I 59).toInt64 = Int64.ofNat 59 := by decide +kernel
theorem o_putK {u : Nat} (he : (I (u : Int)).toInt64 = Int64.ofNat u) (h0 : 33 ≤ u) (h1 : u < 97) {M : PM} {L z : Nat} {f : Nat → Int} {S T : ST} (hp : S.2.1.length < 80) (h : TX M L z f S T) : Wm 110 [.ref 1, .long (Int64.ofNat u)] M (fun v M' => v = some (.int (I ((S.2.1.length : Int) + 1))) ∧ TX M' L z f (putC S u) T) := by
  rw [← he]
  exact o_put (by omega) (by omega) hp h
theorem q_putK {u : Nat} (he : (I (u : Int)).toInt64 = Int64.ofNat u) (h0 : 33 ≤ u) (h1 : u < 97) {M : PM} {L z : Nat} {f : Nat → Int} {S S2 : ST} (hp : S.2.1.length < 80) (h : TX M L z f S2 (fl_S S)) : Wm 110 [.ref 613, .long (Int64.ofNat u)] M (fun v M' => v = some (.int (I ((S.2.1.length : Int) + 1))) ∧ TX M' L z f S2 (fl_S (putC S u))) := by
  rw [← he]
  exact q_put (by omega) (by omega) hp h
def GQ (L z : Nat) (f : Nat → Int) : Option Value → PM → Prop := fun v M' => v = some (.int (I 1)) ∧ ∃ S', TX M' L z f S' (fl_S S') ∧ OKS S'
section GRA
variable {L z : Nat} {f : Nat → Int} {x y : Int32}
/-- the end: the text is told -/
theorem g_tell {M : PM} {S : ST} {R : List (List Int)} {mn ru : List Int} {a7 : Value} {len : Int} (h : TX M L z f S (fl_S S)) (hK : OKS S) (hG : GRk R) (hr : rdTo S.2.1 (4, (R, mn), ru)) (hw : WFm R.length mn) (hl : mn.length ≤ 24) : Wp k_L_isGrammar (265, [(0, .ref 1), (1, .ref 613), (2, .int x), (3, .int y), (4, .int (I 1)), (5, .int (I (R.length : Int))), (6, .int (I len)), (7, a7)], [], M) (GQ L z f) := by
  have hW : WFG (R, mn) := hG.main hw
  have e := tell_fact hr hW hG.1 hG.2.1 hl
  obtain ⟨fs, ho⟩ := h.o
  repeat (refine wf rfl ?_; first | refine wq_iadd ?_ | refine wq_isub ?_ | refine wq_imul ?_ | refine wq_iinc rfl ?_ | refine wq_goto ?_ | refine wq_k rfl ?_ | refine wq_b rfl rfl ?_ | refine wq_getf (by assumption) rfl ?_ | refine wq_alen (by assumption) rfl ?_)
  refine wf rfl (wq_cv rfl rfl rfl ho ((o_tell hK h).mono ?_))
  rintro v M1 ⟨rfl, h1⟩
  have hK1 : OKS (spTell S).2 := OKS_tell hK h1.2.1.wf
  obtain ⟨fs1, ho1⟩ := h1.p
  repeat (refine wf rfl ?_; first | refine wq_iadd ?_ | refine wq_isub ?_ | refine wq_imul ?_ | refine wq_iinc rfl ?_ | refine wq_goto ?_ | refine wq_k rfl ?_ | refine wq_b rfl rfl ?_ | refine wq_getf (by assumption) rfl ?_ | refine wq_alen (by assumption) rfl ?_)
  refine wf rfl (wq_ifeq ⟨by omega, by omega⟩ (fun c9 => by exfalso; omega) (fun _ => ?_))
  repeat (refine wf rfl ?_; first | refine wq_iadd ?_ | refine wq_isub ?_ | refine wq_imul ?_ | refine wq_iinc rfl ?_ | refine wq_goto ?_ | refine wq_k rfl ?_ | refine wq_b rfl rfl ?_ | refine wq_getf (by assumption) rfl ?_ | refine wq_alen (by assumption) rfl ?_)
  refine wf rfl (wq_cv rfl rfl rfl ho1 ((q_tell hK h1).mono ?_))
  rintro v M2 ⟨rfl, h2⟩
  refine wf rfl (wq_neS ?_)
  rw [e] at h2 hK1 ⊢
  dsimp only at h2 hK1 ⊢
  obtain ⟨fs2, ho2⟩ := h2.o
  repeat (refine wf rfl ?_; first | refine wq_iadd ?_ | refine wq_isub ?_ | refine wq_imul ?_ | refine wq_iinc rfl ?_ | refine wq_goto ?_ | refine wq_k rfl ?_ | refine wq_b rfl rfl ?_ | refine wq_getf (by assumption) rfl ?_ | refine wq_alen (by assumption) rfl ?_)
  refine wf rfl (wq_cv rfl rfl rfl ho2 ((o_count (t := 0) ⟨by omega, by omega⟩ h2).mono ?_))
  rintro v M3 ⟨rfl, h3⟩
  refine wf rfl (wq_neS ?_)
  obtain ⟨fs3, ho3⟩ := h3.o
  repeat (refine wf rfl ?_; first | refine wq_iadd ?_ | refine wq_isub ?_ | refine wq_imul ?_ | refine wq_iinc rfl ?_ | refine wq_goto ?_ | refine wq_k rfl ?_ | refine wq_b rfl rfl ?_ | refine wq_getf (by assumption) rfl ?_ | refine wq_alen (by assumption) rfl ?_)
  refine wf rfl (wq_cv rfl rfl rfl ho3 ((o_count (t := 6) ⟨by omega, by omega⟩ h3).mono ?_))
  rintro v M4 ⟨rfl, h4⟩
  have e6 : spCount 6 ((R, mn), [], push S.2.2.1 S.1, S.2.2.2) = 0 := rfl
  rw [e6]
  refine wf rfl (wq_ifne ⟨by omega, by omega⟩ (fun c9 => by exfalso; omega) (fun _ => ?_))
  obtain ⟨fs4, ho4⟩ := h4.o
  repeat (refine wf rfl ?_; first | refine wq_iadd ?_ | refine wq_isub ?_ | refine wq_imul ?_ | refine wq_iinc rfl ?_ | refine wq_goto ?_ | refine wq_k rfl ?_ | refine wq_b rfl rfl ?_ | refine wq_getf (by assumption) rfl ?_ | refine wq_alen (by assumption) rfl ?_)
  refine wf rfl (wq_cv rfl rfl rfl ho4 ((o_count (t := 2) ⟨by omega, by omega⟩ h4).mono ?_))
  rintro v M5 ⟨rfl, h5⟩
  have e2 : spCount 2 ((R, mn), [], push S.2.2.1 S.1, S.2.2.2) = (R.length : Int) := rfl
  rw [e2]
  repeat (refine wf rfl ?_; first | refine wq_iadd ?_ | refine wq_isub ?_ | refine wq_imul ?_ | refine wq_iinc rfl ?_ | refine wq_goto ?_ | refine wq_k rfl ?_ | refine wq_b rfl rfl ?_ | refine wq_getf (by assumption) rfl ?_ | refine wq_alen (by assumption) rfl ?_)
  refine wf rfl (wq_neS ?_)
  repeat' (refine wf rfl ?_; first | refine wq_iadd ?_ | refine wq_isub ?_ | refine wq_imul ?_ | refine wq_iinc rfl ?_ | refine wq_goto ?_ | refine wq_k rfl ?_ | refine wq_b rfl rfl ?_ | refine wq_getf (by assumption) rfl ?_ | refine wq_alen (by assumption) rfl ?_ | (refine wq_eq ⟨by omega, by omega⟩ ⟨by omega, by omega⟩ (fun _ => ?_) (fun _ => ?_) <;> try (exfalso; omega)) | (refine wq_ne ⟨by omega, by omega⟩ ⟨by omega, by omega⟩ (fun _ => ?_) (fun _ => ?_) <;> try (exfalso; omega)) | (refine wq_lt ⟨by omega, by omega⟩ ⟨by omega, by omega⟩ (fun _ => ?_) (fun _ => ?_) <;> try (exfalso; omega)) | (refine wq_ge ⟨by omega, by omega⟩ ⟨by omega, by omega⟩ (fun _ => ?_) (fun _ => ?_) <;> try (exfalso; omega)) | (refine wq_gt ⟨by omega, by omega⟩ ⟨by omega, by omega⟩ (fun _ => ?_) (fun _ => ?_) <;> try (exfalso; omega)) | (refine wq_le ⟨by omega, by omega⟩ ⟨by omega, by omega⟩ (fun _ => ?_) (fun _ => ?_) <;> try (exfalso; omega)) | (refine wq_ifeq ⟨by omega, by omega⟩ (fun _ => ?_) (fun _ => ?_) <;> try (exfalso; omega)) | (refine wq_ifne ⟨by omega, by omega⟩ (fun _ => ?_) (fun _ => ?_) <;> try (exfalso; omega)) | (refine wq_iflt ⟨by omega, by omega⟩ (fun _ => ?_) (fun _ => ?_) <;> try (exfalso; omega)) | (refine wq_ifge ⟨by omega, by omega⟩ (fun _ => ?_) (fun _ => ?_) <;> try (exfalso; omega)) | (refine wq_ifgt ⟨by omega, by omega⟩ (fun _ => ?_) (fun _ => ?_) <;> try (exfalso; omega)) | (refine wq_ifle ⟨by omega, by omega⟩ (fun _ => ?_) (fun _ => ?_) <;> try (exfalso; omega)) | refine wq_r rfl rfl rfl rfl rfl rfl ?_)
  exact ⟨rfl, _, h5, hK1⟩
/-- the main row's symbols -/
theorem lp_gmain {R : List (List Int)} {len : Int} (hG : GRk R) (hlen : 1 ≤ len ∧ len ≤ 24) (n : Nat) : ∀ (k : Int) (M : PM) (S : ST) (st : Int) (mn ru : List Int), (TX M L z f S (fl_S S) ∧ OKS S ∧ 0 ≤ k ∧ k ≤ len ∧ len - k < n ∧ rdTo S.2.1 (st, (R, mn), ru) ∧ ((k = 0 ∧ st = 0) ∨ st = 4) ∧ (mn.length : Int) = k ∧ WFm R.length mn ∧ (S.2.1.length : Int) ≤ 24 + k) →
    Wp k_L_isGrammar (205, [(0, .ref 1), (1, .ref 613), (2, .int x), (3, .int y), (4, .int (I 1)), (5, .int (I (R.length : Int))), (6, .int (I len)), (7, .int (I k))], [], M) (GQ L z f) := by
  induction n with
  | zero =>
    rintro k M S st mn ru ⟨h, hK, i0, i1, i2, -⟩
    exfalso
    omega
  | succ n ih =>
    rintro k M S st mn ru ⟨h, hK, i0, i1, i2, hr, hst, hml, hw, hp⟩
    have hR := hG.1
    by_cases hk : k < len
    · repeat (refine wf rfl ?_; first | refine wq_iadd ?_ | refine wq_isub ?_ | refine wq_imul ?_ | refine wq_iinc rfl ?_ | refine wq_goto ?_ | refine wq_k rfl ?_ | refine wq_b rfl rfl ?_ | refine wq_getf (by assumption) rfl ?_ | refine wq_alen (by assumption) rfl ?_)
      refine wf rfl (wq_ge ⟨by omega, by omega⟩ ⟨by omega, by omega⟩ (fun c9 => by exfalso; omega) (fun _ => ?_))
      repeat (refine wf rfl ?_; first | refine wq_iadd ?_ | refine wq_isub ?_ | refine wq_imul ?_ | refine wq_iinc rfl ?_ | refine wq_goto ?_ | refine wq_k rfl ?_ | refine wq_b rfl rfl ?_ | refine wq_getf (by assumption) rfl ?_ | refine wq_alen (by assumption) rfl ?_)
      refine wf rfl (wq_ifeq ⟨by omega, by omega⟩ (fun c9 => by exfalso; omega) (fun _ => ?_))
      repeat (refine wf rfl ?_; first | refine wq_iadd ?_ | refine wq_isub ?_ | refine wq_imul ?_ | refine wq_iinc rfl ?_ | refine wq_goto ?_ | refine wq_k rfl ?_ | refine wq_b rfl rfl ?_ | refine wq_getf (by assumption) rfl ?_ | refine wq_alen (by assumption) rfl ?_)
      refine wf rfl (wq_cs rfl rfl ((c_up (M := M) (n := 4 + (R.length : Int)) (by omega) (by omega)).mono ?_))
      rintro v M ⟨⟨r, r0, r1, rfl⟩, rfl⟩
      repeat (refine wf rfl ?_; first | refine wq_iadd ?_ | refine wq_isub ?_ | refine wq_imul ?_ | refine wq_iinc rfl ?_ | refine wq_goto ?_ | refine wq_k rfl ?_ | refine wq_b rfl rfl ?_ | refine wq_getf (by assumption) rfl ?_ | refine wq_alen (by assumption) rfl ?_)
      refine wf rfl (wq_cs rfl rfl ((c_puts (its := r - 4) (by omega) (by omega) h (by omega)).mono ?_))
      rintro v M1 ⟨rfl, h1⟩
      refine wf rfl (wq_ifeq ⟨by omega, by omega⟩ (fun c9 => by exfalso; omega) (fun _ => ?_))
      have hb := cdI_bd (i := r - 4) (by omega) (by omega)
      have hs := sy_cdb (i := r - 4) (n := R.length) (by omega) (by omega) (by omega)
      have hnext := fun (_ : True) => ih (k + 1) M1 (putC S (cdI (r - 4))) 4 (mn ++ [syC (cdI (r - 4))]) ru ⟨h1, hK.pc (by omega) (by omega), by omega, by omega, by omega, hr.snoc (step_main (by omega) hs (by omega)) (by dsimp only; omega), Or.inr rfl, by rw [List.length_append, List.length_singleton]; omega, hw.app hs, by rw [putC_len]; omega⟩
      repeat' (first | (refine Wp.sub (hnext  ?_) ⟨rfl, rfl, rfl, rfl, rfl, rfl, rfl, rfl, trivial⟩ rfl) | (refine wf rfl ?_; first | refine wq_iadd ?_ | refine wq_isub ?_ | refine wq_imul ?_ | refine wq_iinc rfl ?_ | refine wq_goto ?_ | refine wq_k rfl ?_ | refine wq_b rfl rfl ?_ | refine wq_getf (by assumption) rfl ?_ | refine wq_alen (by assumption) rfl ?_ | fail | (refine wq_eq ⟨by omega, by omega⟩ ⟨by omega, by omega⟩ (fun _ => ?_) (fun _ => ?_) <;> try (exfalso; omega)) | (refine wq_ne ⟨by omega, by omega⟩ ⟨by omega, by omega⟩ (fun _ => ?_) (fun _ => ?_) <;> try (exfalso; omega)) | (refine wq_lt ⟨by omega, by omega⟩ ⟨by omega, by omega⟩ (fun _ => ?_) (fun _ => ?_) <;> try (exfalso; omega)) | (refine wq_ge ⟨by omega, by omega⟩ ⟨by omega, by omega⟩ (fun _ => ?_) (fun _ => ?_) <;> try (exfalso; omega)) | (refine wq_gt ⟨by omega, by omega⟩ ⟨by omega, by omega⟩ (fun _ => ?_) (fun _ => ?_) <;> try (exfalso; omega)) | (refine wq_le ⟨by omega, by omega⟩ ⟨by omega, by omega⟩ (fun _ => ?_) (fun _ => ?_) <;> try (exfalso; omega)) | (refine wq_ifeq ⟨by omega, by omega⟩ (fun _ => ?_) (fun _ => ?_) <;> try (exfalso; omega)) | (refine wq_ifne ⟨by omega, by omega⟩ (fun _ => ?_) (fun _ => ?_) <;> try (exfalso; omega)) | (refine wq_iflt ⟨by omega, by omega⟩ (fun _ => ?_) (fun _ => ?_) <;> try (exfalso; omega)) | (refine wq_ifge ⟨by omega, by omega⟩ (fun _ => ?_) (fun _ => ?_) <;> try (exfalso; omega)) | (refine wq_ifgt ⟨by omega, by omega⟩ (fun _ => ?_) (fun _ => ?_) <;> try (exfalso; omega)) | (refine wq_ifle ⟨by omega, by omega⟩ (fun _ => ?_) (fun _ => ?_) <;> try (exfalso; omega)) | refine wq_r rfl rfl rfl rfl rfl rfl ?_))
      trivial
    · have h4 : st = 4 := by omega
      subst h4
      repeat (refine wf rfl ?_; first | refine wq_iadd ?_ | refine wq_isub ?_ | refine wq_imul ?_ | refine wq_iinc rfl ?_ | refine wq_goto ?_ | refine wq_k rfl ?_ | refine wq_b rfl rfl ?_ | refine wq_getf (by assumption) rfl ?_ | refine wq_alen (by assumption) rfl ?_)
      refine wf rfl (wq_ge ⟨by omega, by omega⟩ ⟨by omega, by omega⟩ (fun _ => ?_) (fun c9 => by exfalso; omega))
      exact g_tell h hK hG hr hw (by omega)
/-- a rule's symbols -/
theorem lp_grow {R : List (List Int)} {len : Int} {N : Int} (hG : GRk R) (hlen : 1 ≤ len ∧ len ≤ 3) {Q : Option Value → PM → Prop} (hk : ∀ (M : PM) (S : ST) (ru : List Int) (a8 : Value), TX M L z f S (fl_S S) → OKS S → rdTo S.2.1 (3, (R, []), ru) → (ru.length : Int) = len → WFm R.length ru → (S.2.1.length : Int) ≤ 6 * R.length + 2 + len → Wp k_L_isGrammar (157, [(0, .ref 1), (1, .ref 613), (2, .int x), (3, .int y), (4, .int (I 1)), (5, .int (I N)), (6, .int (I (R.length : Int)))], [], M) Q) (n : Nat) : ∀ (k : Int) (M : PM) (S : ST) (st : Int) (ru : List Int), (TX M L z f S (fl_S S) ∧ OKS S ∧ 0 ≤ k ∧ k ≤ len ∧ len - k < n ∧ rdTo S.2.1 (st, (R, []), ru) ∧ ((k = 0 ∧ st = 2) ∨ st = 3) ∧ (ru.length : Int) = k ∧ WFm R.length ru ∧ (S.2.1.length : Int) ≤ 6 * R.length + 2 + k) →
    Wp k_L_isGrammar (104, [(0, .ref 1), (1, .ref 613), (2, .int x), (3, .int y), (4, .int (I 1)), (5, .int (I N)), (6, .int (I (R.length : Int))), (7, .int (I len)), (8, .int (I k))], [], M) Q := by
  induction n with
  | zero =>
    rintro k M S st ru ⟨h, hK, i0, i1, i2, -⟩
    exfalso
    omega
  | succ n ih =>
    rintro k M S st ru ⟨h, hK, i0, i1, i2, hr, hst, hml, hw, hp⟩
    have hR := hG.1
    by_cases hkl : k < len
    · repeat (refine wf rfl ?_; first | refine wq_iadd ?_ | refine wq_isub ?_ | refine wq_imul ?_ | refine wq_iinc rfl ?_ | refine wq_goto ?_ | refine wq_k rfl ?_ | refine wq_b rfl rfl ?_ | refine wq_getf (by assumption) rfl ?_ | refine wq_alen (by assumption) rfl ?_)
      refine wf rfl (wq_ge ⟨by omega, by omega⟩ ⟨by omega, by omega⟩ (fun c9 => by exfalso; omega) (fun _ => ?_))
      repeat (refine wf rfl ?_; first | refine wq_iadd ?_ | refine wq_isub ?_ | refine wq_imul ?_ | refine wq_iinc rfl ?_ | refine wq_goto ?_ | refine wq_k rfl ?_ | refine wq_b rfl rfl ?_ | refine wq_getf (by assumption) rfl ?_ | refine wq_alen (by assumption) rfl ?_)
      refine wf rfl (wq_ifeq ⟨by omega, by omega⟩ (fun c9 => by exfalso; omega) (fun _ => ?_))
      repeat (refine wf rfl ?_; first | refine wq_iadd ?_ | refine wq_isub ?_ | refine wq_imul ?_ | refine wq_iinc rfl ?_ | refine wq_goto ?_ | refine wq_k rfl ?_ | refine wq_b rfl rfl ?_ | refine wq_getf (by assumption) rfl ?_ | refine wq_alen (by assumption) rfl ?_)
      refine wf rfl (wq_cs rfl rfl ((c_up (M := M) (n := 5 + (R.length : Int)) (by omega) (by omega)).mono ?_))
      rintro v M ⟨⟨r, r0, r1, rfl⟩, rfl⟩
      repeat (refine wf rfl ?_; first | refine wq_iadd ?_ | refine wq_isub ?_ | refine wq_imul ?_ | refine wq_iinc rfl ?_ | refine wq_goto ?_ | refine wq_k rfl ?_ | refine wq_b rfl rfl ?_ | refine wq_getf (by assumption) rfl ?_ | refine wq_alen (by assumption) rfl ?_)
      refine wf rfl (wq_cs rfl rfl ((c_puts (its := r - 5) (by omega) (by omega) h (by omega)).mono ?_))
      rintro v M1 ⟨rfl, h1⟩
      refine wf rfl (wq_ifeq ⟨by omega, by omega⟩ (fun c9 => by exfalso; omega) (fun _ => ?_))
      have hb := cdI_bd (i := r - 5) (by omega) (by omega)
      have hs := sy_cdb (i := r - 5) (n := R.length) (by omega) (by omega) (by omega)
      have hnext := fun (_ : True) => ih (k + 1) M1 (putC S (cdI (r - 5))) 3 (ru ++ [syC (cdI (r - 5))]) ⟨h1, hK.pc (by omega) (by omega), by omega, by omega, by omega, hr.snoc (step_row (by omega) (by omega) hs (by omega)) (by dsimp only; omega), Or.inr rfl, by rw [List.length_append, List.length_singleton]; omega, hw.app hs, by rw [putC_len]; omega⟩
      repeat' (first | (refine Wp.sub (hnext  ?_) ⟨rfl, rfl, rfl, rfl, rfl, rfl, rfl, rfl, rfl, trivial⟩ rfl) | (refine wf rfl ?_; first | refine wq_iadd ?_ | refine wq_isub ?_ | refine wq_imul ?_ | refine wq_iinc rfl ?_ | refine wq_goto ?_ | refine wq_k rfl ?_ | refine wq_b rfl rfl ?_ | refine wq_getf (by assumption) rfl ?_ | refine wq_alen (by assumption) rfl ?_ | fail | (refine wq_eq ⟨by omega, by omega⟩ ⟨by omega, by omega⟩ (fun _ => ?_) (fun _ => ?_) <;> try (exfalso; omega)) | (refine wq_ne ⟨by omega, by omega⟩ ⟨by omega, by omega⟩ (fun _ => ?_) (fun _ => ?_) <;> try (exfalso; omega)) | (refine wq_lt ⟨by omega, by omega⟩ ⟨by omega, by omega⟩ (fun _ => ?_) (fun _ => ?_) <;> try (exfalso; omega)) | (refine wq_ge ⟨by omega, by omega⟩ ⟨by omega, by omega⟩ (fun _ => ?_) (fun _ => ?_) <;> try (exfalso; omega)) | (refine wq_gt ⟨by omega, by omega⟩ ⟨by omega, by omega⟩ (fun _ => ?_) (fun _ => ?_) <;> try (exfalso; omega)) | (refine wq_le ⟨by omega, by omega⟩ ⟨by omega, by omega⟩ (fun _ => ?_) (fun _ => ?_) <;> try (exfalso; omega)) | (refine wq_ifeq ⟨by omega, by omega⟩ (fun _ => ?_) (fun _ => ?_) <;> try (exfalso; omega)) | (refine wq_ifne ⟨by omega, by omega⟩ (fun _ => ?_) (fun _ => ?_) <;> try (exfalso; omega)) | (refine wq_iflt ⟨by omega, by omega⟩ (fun _ => ?_) (fun _ => ?_) <;> try (exfalso; omega)) | (refine wq_ifge ⟨by omega, by omega⟩ (fun _ => ?_) (fun _ => ?_) <;> try (exfalso; omega)) | (refine wq_ifgt ⟨by omega, by omega⟩ (fun _ => ?_) (fun _ => ?_) <;> try (exfalso; omega)) | (refine wq_ifle ⟨by omega, by omega⟩ (fun _ => ?_) (fun _ => ?_) <;> try (exfalso; omega)) | refine wq_r rfl rfl rfl rfl rfl rfl ?_))
      trivial
    · have h4 : st = 3 := by omega
      subst h4
      have hek : k = len := by omega
      have hx := fun (_ : True) => hk M S ru (.int (I k)) h hK hr (by omega) hw (by omega)
      repeat (refine wf rfl ?_; first | refine wq_iadd ?_ | refine wq_isub ?_ | refine wq_imul ?_ | refine wq_iinc rfl ?_ | refine wq_goto ?_ | refine wq_k rfl ?_ | refine wq_b rfl rfl ?_ | refine wq_getf (by assumption) rfl ?_ | refine wq_alen (by assumption) rfl ?_)
      refine wf rfl (wq_ge ⟨by omega, by omega⟩ ⟨by omega, by omega⟩ (fun _ => ?_) (fun c9 => by exfalso; omega))
      repeat' (first | (refine Wp.sub (hx  ?_) ⟨rfl, rfl, rfl, rfl, rfl, rfl, rfl, trivial⟩ rfl) | (refine wf rfl ?_; first | refine wq_iadd ?_ | refine wq_isub ?_ | refine wq_imul ?_ | refine wq_iinc rfl ?_ | refine wq_goto ?_ | refine wq_k rfl ?_ | refine wq_b rfl rfl ?_ | refine wq_getf (by assumption) rfl ?_ | refine wq_alen (by assumption) rfl ?_ | fail | (refine wq_eq ⟨by omega, by omega⟩ ⟨by omega, by omega⟩ (fun _ => ?_) (fun _ => ?_) <;> try (exfalso; omega)) | (refine wq_ne ⟨by omega, by omega⟩ ⟨by omega, by omega⟩ (fun _ => ?_) (fun _ => ?_) <;> try (exfalso; omega)) | (refine wq_lt ⟨by omega, by omega⟩ ⟨by omega, by omega⟩ (fun _ => ?_) (fun _ => ?_) <;> try (exfalso; omega)) | (refine wq_ge ⟨by omega, by omega⟩ ⟨by omega, by omega⟩ (fun _ => ?_) (fun _ => ?_) <;> try (exfalso; omega)) | (refine wq_gt ⟨by omega, by omega⟩ ⟨by omega, by omega⟩ (fun _ => ?_) (fun _ => ?_) <;> try (exfalso; omega)) | (refine wq_le ⟨by omega, by omega⟩ ⟨by omega, by omega⟩ (fun _ => ?_) (fun _ => ?_) <;> try (exfalso; omega)) | (refine wq_ifeq ⟨by omega, by omega⟩ (fun _ => ?_) (fun _ => ?_) <;> try (exfalso; omega)) | (refine wq_ifne ⟨by omega, by omega⟩ (fun _ => ?_) (fun _ => ?_) <;> try (exfalso; omega)) | (refine wq_iflt ⟨by omega, by omega⟩ (fun _ => ?_) (fun _ => ?_) <;> try (exfalso; omega)) | (refine wq_ifge ⟨by omega, by omega⟩ (fun _ => ?_) (fun _ => ?_) <;> try (exfalso; omega)) | (refine wq_ifgt ⟨by omega, by omega⟩ (fun _ => ?_) (fun _ => ?_) <;> try (exfalso; omega)) | (refine wq_ifle ⟨by omega, by omega⟩ (fun _ => ?_) (fun _ => ?_) <;> try (exfalso; omega)) | refine wq_r rfl rfl rfl rfl rfl rfl ?_))
      trivial
/-- the rules -/
theorem lp_grules {N : Int} (hN : 0 ≤ N ∧ N ≤ 4) (n : Nat) : ∀ (R : List (List Int)) (M : PM) (S : ST) (ru : List Int), (TX M L z f S (fl_S S) ∧ OKS S ∧ (R.length : Int) ≤ N ∧ N - R.length < n ∧ rdTo S.2.1 (0, (R, []), ru) ∧ GRk R ∧ (S.2.1.length : Int) ≤ 6 * R.length) →
    Wp k_L_isGrammar (28, [(0, .ref 1), (1, .ref 613), (2, .int x), (3, .int y), (4, .int (I 1)), (5, .int (I N)), (6, .int (I (R.length : Int)))], [], M) (GQ L z f) := by
  induction n with
  | zero =>
    rintro R M S ru ⟨h, hK, i1, i2, -⟩
    exfalso
    omega
  | succ n ih =>
    rintro R M S ru ⟨h, hK, i1, i2, hr, hG, hp⟩
    by_cases hc : (R.length : Int) < N
    · repeat (refine wf rfl ?_; first | refine wq_iadd ?_ | refine wq_isub ?_ | refine wq_imul ?_ | refine wq_iinc rfl ?_ | refine wq_goto ?_ | refine wq_k rfl ?_ | refine wq_b rfl rfl ?_ | refine wq_getf (by assumption) rfl ?_ | refine wq_alen (by assumption) rfl ?_)
      refine wf rfl (wq_ge ⟨by omega, by omega⟩ ⟨by omega, by omega⟩ (fun c9 => by exfalso; omega) (fun _ => ?_))
      repeat (refine wf rfl ?_; first | refine wq_iadd ?_ | refine wq_isub ?_ | refine wq_imul ?_ | refine wq_iinc rfl ?_ | refine wq_goto ?_ | refine wq_k rfl ?_ | refine wq_b rfl rfl ?_ | refine wq_getf (by assumption) rfl ?_ | refine wq_alen (by assumption) rfl ?_)
      refine wf rfl (wq_cs rfl rfl ((c_up (M := M) (n := 3) (by omega) (by omega)).mono ?_))
      rintro v M ⟨⟨r, r0, r1, rfl⟩, rfl⟩
      repeat (refine wf rfl ?_; first | refine wq_iadd ?_ | refine wq_isub ?_ | refine wq_imul ?_ | refine wq_iinc rfl ?_ | refine wq_goto ?_ | refine wq_k rfl ?_ | refine wq_b rfl rfl ?_ | refine wq_getf (by assumption) rfl ?_ | refine wq_alen (by assumption) rfl ?_)
      refine wf rfl (wq_ifeq ⟨by omega, by omega⟩ (fun c9 => by exfalso; omega) (fun _ => ?_))
      obtain ⟨fs, ho⟩ := h.o
      repeat (refine wf rfl ?_; first | refine wq_iadd ?_ | refine wq_isub ?_ | refine wq_imul ?_ | refine wq_iinc rfl ?_ | refine wq_goto ?_ | refine wq_k rfl ?_ | refine wq_b rfl rfl ?_ | refine wq_getf (by assumption) rfl ?_ | refine wq_alen (by assumption) rfl ?_)
      refine wf rfl (wq_cv rfl rfl rfl ho ((o_put (u := 65 + (R.length : Int)) (by omega) (by omega) (by omega) h).mono ?_))
      rintro v M1 ⟨rfl, h1⟩
      obtain ⟨fs1, ho1⟩ := h1.p
      repeat (refine wf rfl ?_; first | refine wq_iadd ?_ | refine wq_isub ?_ | refine wq_imul ?_ | refine wq_iinc rfl ?_ | refine wq_goto ?_ | refine wq_k rfl ?_ | refine wq_b rfl rfl ?_ | refine wq_getf (by assumption) rfl ?_ | refine wq_alen (by assumption) rfl ?_)
      refine wf rfl (wq_cv rfl rfl rfl ho1 ((q_put (u := 65 + (R.length : Int)) (by omega) (by omega) (by omega) h1).mono ?_))
      rintro v M2 ⟨rfl, h2⟩
      refine wf rfl (wq_neS ?_)
      have hK2 := hK.pc (u := 65 + (R.length : Int)) (by omega) (by omega)
      have hr2 : rdTo (putC S (65 + (R.length : Int))).2.1 (1, (R, []), []) := hr.snoc (step_name (sy_rule (by omega) (by omega))) (by dsimp only; omega)
      have hl2 := putC_len (S := S) (u := 65 + (R.length : Int))
      generalize putC S (65 + (R.length : Int)) = S2 at *
      obtain ⟨fs2, ho2⟩ := h2.o
      repeat (refine wf rfl ?_; first | refine wq_iadd ?_ | refine wq_isub ?_ | refine wq_imul ?_ | refine wq_iinc rfl ?_ | refine wq_goto ?_ | refine wq_k rfl ?_ | refine wq_b rfl rfl ?_ | refine wq_getf (by assumption) rfl ?_ | refine wq_alen (by assumption) rfl ?_)
      refine wf rfl (wq_cv rfl rfl rfl ho2 ((o_putK (u := 61) long_61 (by omega) (by omega) (by omega) h2).mono ?_))
      rintro v M3 ⟨rfl, h3⟩
      obtain ⟨fs3, ho3⟩ := h3.p
      repeat (refine wf rfl ?_; first | refine wq_iadd ?_ | refine wq_isub ?_ | refine wq_imul ?_ | refine wq_iinc rfl ?_ | refine wq_goto ?_ | refine wq_k rfl ?_ | refine wq_b rfl rfl ?_ | refine wq_getf (by assumption) rfl ?_ | refine wq_alen (by assumption) rfl ?_)
      refine wf rfl (wq_cv rfl rfl rfl ho3 ((q_putK (u := 61) long_61 (by omega) (by omega) (by omega) h3).mono ?_))
      rintro v M4 ⟨rfl, h4⟩
      refine wf rfl (wq_neS ?_)
      have hK3 := hK2.pc (u := ((61 : Nat) : Int)) (by omega) (by omega)
      have hr3 : rdTo (putC S2 ((61 : Nat) : Int)).2.1 (2, (R, []), []) := hr2.snoc step_eq (by dsimp only; omega)
      have hl3 := putC_len (S := S2) (u := ((61 : Nat) : Int))
      generalize putC S2 ((61 : Nat) : Int) = S3 at *
      have hrow := fun (_ : True) => lp_grow (x := x) (y := y) (N := N) (Q := GQ L z f) hG (len := 1 + r) (by omega) (fun M5 S5 ru5 a8 h5 hK5 hr5 hl5 hw5 hp5 => by
        obtain ⟨fs5, ho5⟩ := h5.o
        repeat (refine wf rfl ?_; first | refine wq_iadd ?_ | refine wq_isub ?_ | refine wq_imul ?_ | refine wq_iinc rfl ?_ | refine wq_goto ?_ | refine wq_k rfl ?_ | refine wq_b rfl rfl ?_ | refine wq_getf (by assumption) rfl ?_ | refine wq_alen (by assumption) rfl ?_)
        refine wf rfl (wq_ifeq ⟨by omega, by omega⟩ (fun c9 => by exfalso; omega) (fun _ => ?_))
        repeat (refine wf rfl ?_; first | refine wq_iadd ?_ | refine wq_isub ?_ | refine wq_imul ?_ | refine wq_iinc rfl ?_ | refine wq_goto ?_ | refine wq_k rfl ?_ | refine wq_b rfl rfl ?_ | refine wq_getf (by assumption) rfl ?_ | refine wq_alen (by assumption) rfl ?_)
        refine wf rfl (wq_cv rfl rfl rfl ho5 ((o_putK (u := 59) long_59 (by omega) (by omega) (by omega) h5).mono ?_))
        rintro v M6 ⟨rfl, h6⟩
        obtain ⟨fs6, ho6⟩ := h6.p
        repeat (refine wf rfl ?_; first | refine wq_iadd ?_ | refine wq_isub ?_ | refine wq_imul ?_ | refine wq_iinc rfl ?_ | refine wq_goto ?_ | refine wq_k rfl ?_ | refine wq_b rfl rfl ?_ | refine wq_getf (by assumption) rfl ?_ | refine wq_alen (by assumption) rfl ?_)
        refine wf rfl (wq_cv rfl rfl rfl ho6 ((q_putK (u := 59) long_59 (by omega) (by omega) (by omega) h6).mono ?_))
        rintro v M7 ⟨rfl, h7⟩
        refine wf rfl (wq_neS ?_)
        have hnext := fun (_ : True) => ih (R ++ [ru5]) M7 (putC S5 ((59 : Nat) : Int)) ru5 ⟨h7, hK5.pc (by omega) (by omega), by rw [List.length_append, List.length_singleton]; omega, by rw [List.length_append, List.length_singleton]; omega, hr5.snoc step_end (by dsimp only; omega), hG.snoc (by omega) (by omega) (by omega) hw5, by rw [putC_len, List.length_append, List.length_singleton]; omega⟩
        rw [show (((R ++ [ru5]).length : Nat) : Int) = (R.length : Int) + 1 by rw [List.length_append, List.length_singleton]; omega] at hnext
        repeat' (first | (refine Wp.sub (hnext  ?_) ⟨rfl, rfl, rfl, rfl, rfl, rfl, rfl, trivial⟩ rfl) | (refine wf rfl ?_; first | refine wq_iadd ?_ | refine wq_isub ?_ | refine wq_imul ?_ | refine wq_iinc rfl ?_ | refine wq_goto ?_ | refine wq_k rfl ?_ | refine wq_b rfl rfl ?_ | refine wq_getf (by assumption) rfl ?_ | refine wq_alen (by assumption) rfl ?_ | fail | (refine wq_eq ⟨by omega, by omega⟩ ⟨by omega, by omega⟩ (fun _ => ?_) (fun _ => ?_) <;> try (exfalso; omega)) | (refine wq_ne ⟨by omega, by omega⟩ ⟨by omega, by omega⟩ (fun _ => ?_) (fun _ => ?_) <;> try (exfalso; omega)) | (refine wq_lt ⟨by omega, by omega⟩ ⟨by omega, by omega⟩ (fun _ => ?_) (fun _ => ?_) <;> try (exfalso; omega)) | (refine wq_ge ⟨by omega, by omega⟩ ⟨by omega, by omega⟩ (fun _ => ?_) (fun _ => ?_) <;> try (exfalso; omega)) | (refine wq_gt ⟨by omega, by omega⟩ ⟨by omega, by omega⟩ (fun _ => ?_) (fun _ => ?_) <;> try (exfalso; omega)) | (refine wq_le ⟨by omega, by omega⟩ ⟨by omega, by omega⟩ (fun _ => ?_) (fun _ => ?_) <;> try (exfalso; omega)) | (refine wq_ifeq ⟨by omega, by omega⟩ (fun _ => ?_) (fun _ => ?_) <;> try (exfalso; omega)) | (refine wq_ifne ⟨by omega, by omega⟩ (fun _ => ?_) (fun _ => ?_) <;> try (exfalso; omega)) | (refine wq_iflt ⟨by omega, by omega⟩ (fun _ => ?_) (fun _ => ?_) <;> try (exfalso; omega)) | (refine wq_ifge ⟨by omega, by omega⟩ (fun _ => ?_) (fun _ => ?_) <;> try (exfalso; omega)) | (refine wq_ifgt ⟨by omega, by omega⟩ (fun _ => ?_) (fun _ => ?_) <;> try (exfalso; omega)) | (refine wq_ifle ⟨by omega, by omega⟩ (fun _ => ?_) (fun _ => ?_) <;> try (exfalso; omega)) | refine wq_r rfl rfl rfl rfl rfl rfl ?_))
        trivial) 10 0 M4 S3 2 [] ⟨h4, hK3, by omega, by omega, by omega, hr3, Or.inl ⟨rfl, rfl⟩, rfl, fun s hs => absurd hs (List.not_mem_nil), by omega⟩
      repeat' (first | (refine Wp.sub (hrow  ?_) ⟨rfl, rfl, rfl, rfl, rfl, rfl, rfl, rfl, rfl, trivial⟩ rfl) | (refine wf rfl ?_; first | refine wq_iadd ?_ | refine wq_isub ?_ | refine wq_imul ?_ | refine wq_iinc rfl ?_ | refine wq_goto ?_ | refine wq_k rfl ?_ | refine wq_b rfl rfl ?_ | refine wq_getf (by assumption) rfl ?_ | refine wq_alen (by assumption) rfl ?_ | fail | (refine wq_eq ⟨by omega, by omega⟩ ⟨by omega, by omega⟩ (fun _ => ?_) (fun _ => ?_) <;> try (exfalso; omega)) | (refine wq_ne ⟨by omega, by omega⟩ ⟨by omega, by omega⟩ (fun _ => ?_) (fun _ => ?_) <;> try (exfalso; omega)) | (refine wq_lt ⟨by omega, by omega⟩ ⟨by omega, by omega⟩ (fun _ => ?_) (fun _ => ?_) <;> try (exfalso; omega)) | (refine wq_ge ⟨by omega, by omega⟩ ⟨by omega, by omega⟩ (fun _ => ?_) (fun _ => ?_) <;> try (exfalso; omega)) | (refine wq_gt ⟨by omega, by omega⟩ ⟨by omega, by omega⟩ (fun _ => ?_) (fun _ => ?_) <;> try (exfalso; omega)) | (refine wq_le ⟨by omega, by omega⟩ ⟨by omega, by omega⟩ (fun _ => ?_) (fun _ => ?_) <;> try (exfalso; omega)) | (refine wq_ifeq ⟨by omega, by omega⟩ (fun _ => ?_) (fun _ => ?_) <;> try (exfalso; omega)) | (refine wq_ifne ⟨by omega, by omega⟩ (fun _ => ?_) (fun _ => ?_) <;> try (exfalso; omega)) | (refine wq_iflt ⟨by omega, by omega⟩ (fun _ => ?_) (fun _ => ?_) <;> try (exfalso; omega)) | (refine wq_ifge ⟨by omega, by omega⟩ (fun _ => ?_) (fun _ => ?_) <;> try (exfalso; omega)) | (refine wq_ifgt ⟨by omega, by omega⟩ (fun _ => ?_) (fun _ => ?_) <;> try (exfalso; omega)) | (refine wq_ifle ⟨by omega, by omega⟩ (fun _ => ?_) (fun _ => ?_) <;> try (exfalso; omega)) | refine wq_r rfl rfl rfl rfl rfl rfl ?_))
      trivial
    · have hN : N = (R.length : Int) := by omega
      subst hN
      have hR := hG.1
      repeat (refine wf rfl ?_; first | refine wq_iadd ?_ | refine wq_isub ?_ | refine wq_imul ?_ | refine wq_iinc rfl ?_ | refine wq_goto ?_ | refine wq_k rfl ?_ | refine wq_b rfl rfl ?_ | refine wq_getf (by assumption) rfl ?_ | refine wq_alen (by assumption) rfl ?_)
      refine wf rfl (wq_ge ⟨by omega, by omega⟩ ⟨by omega, by omega⟩ (fun _ => ?_) (fun c9 => by exfalso; omega))
      repeat (refine wf rfl ?_; first | refine wq_iadd ?_ | refine wq_isub ?_ | refine wq_imul ?_ | refine wq_iinc rfl ?_ | refine wq_goto ?_ | refine wq_k rfl ?_ | refine wq_b rfl rfl ?_ | refine wq_getf (by assumption) rfl ?_ | refine wq_alen (by assumption) rfl ?_)
      refine wf rfl (wq_cs rfl rfl ((c_up (M := M) (n := 24) (by omega) (by omega)).mono ?_))
      rintro v M ⟨⟨r, r0, r1, rfl⟩, rfl⟩
      have hm := fun (_ : True) => lp_gmain (x := x) (y := y) hG (len := 1 + r) (by omega) 30 0 M S 0 [] ru ⟨h, hK, by omega, by omega, by omega, hr, Or.inl ⟨rfl, rfl⟩, rfl, fun s hs => absurd hs (List.not_mem_nil), by omega⟩
      repeat' (first | (refine Wp.sub (hm  ?_) ⟨rfl, rfl, rfl, rfl, rfl, rfl, rfl, rfl, trivial⟩ rfl) | (refine wf rfl ?_; first | refine wq_iadd ?_ | refine wq_isub ?_ | refine wq_imul ?_ | refine wq_iinc rfl ?_ | refine wq_goto ?_ | refine wq_k rfl ?_ | refine wq_b rfl rfl ?_ | refine wq_getf (by assumption) rfl ?_ | refine wq_alen (by assumption) rfl ?_ | fail | (refine wq_eq ⟨by omega, by omega⟩ ⟨by omega, by omega⟩ (fun _ => ?_) (fun _ => ?_) <;> try (exfalso; omega)) | (refine wq_ne ⟨by omega, by omega⟩ ⟨by omega, by omega⟩ (fun _ => ?_) (fun _ => ?_) <;> try (exfalso; omega)) | (refine wq_lt ⟨by omega, by omega⟩ ⟨by omega, by omega⟩ (fun _ => ?_) (fun _ => ?_) <;> try (exfalso; omega)) | (refine wq_ge ⟨by omega, by omega⟩ ⟨by omega, by omega⟩ (fun _ => ?_) (fun _ => ?_) <;> try (exfalso; omega)) | (refine wq_gt ⟨by omega, by omega⟩ ⟨by omega, by omega⟩ (fun _ => ?_) (fun _ => ?_) <;> try (exfalso; omega)) | (refine wq_le ⟨by omega, by omega⟩ ⟨by omega, by omega⟩ (fun _ => ?_) (fun _ => ?_) <;> try (exfalso; omega)) | (refine wq_ifeq ⟨by omega, by omega⟩ (fun _ => ?_) (fun _ => ?_) <;> try (exfalso; omega)) | (refine wq_ifne ⟨by omega, by omega⟩ (fun _ => ?_) (fun _ => ?_) <;> try (exfalso; omega)) | (refine wq_iflt ⟨by omega, by omega⟩ (fun _ => ?_) (fun _ => ?_) <;> try (exfalso; omega)) | (refine wq_ifge ⟨by omega, by omega⟩ (fun _ => ?_) (fun _ => ?_) <;> try (exfalso; omega)) | (refine wq_ifgt ⟨by omega, by omega⟩ (fun _ => ?_) (fun _ => ?_) <;> try (exfalso; omega)) | (refine wq_ifle ⟨by omega, by omega⟩ (fun _ => ?_) (fun _ => ?_) <;> try (exfalso; omega)) | refine wq_r rfl rfl rfl rfl rfl rfl ?_))
      trivial
theorem c_isGrammar {M : PM} {S : ST} (h : TX M L z f S (fl_S S)) (hK : OKS S) : Wm 127 [.ref 1, .ref 613, .int x, .int y] M (GQ L z f) := by
  obtain ⟨fs, ho⟩ := h.o
  refine wm_in (lv := _) rfl rfl rfl ?_
  repeat (refine wf rfl ?_; first | refine wq_iadd ?_ | refine wq_isub ?_ | refine wq_imul ?_ | refine wq_iinc rfl ?_ | refine wq_goto ?_ | refine wq_k rfl ?_ | refine wq_b rfl rfl ?_ | refine wq_getf (by assumption) rfl ?_ | refine wq_alen (by assumption) rfl ?_)
  refine wf rfl (wq_cv rfl rfl rfl ho ((o_wipe h).mono ?_))
  rintro v M1 ⟨rfl, h1⟩
  obtain ⟨fs1, ho1⟩ := h1.p
  repeat (refine wf rfl ?_; first | refine wq_iadd ?_ | refine wq_isub ?_ | refine wq_imul ?_ | refine wq_iinc rfl ?_ | refine wq_goto ?_ | refine wq_k rfl ?_ | refine wq_b rfl rfl ?_ | refine wq_getf (by assumption) rfl ?_ | refine wq_alen (by assumption) rfl ?_)
  refine wf rfl (wq_cv rfl rfl rfl ho1 ((q_wipe h1).mono ?_))
  rintro v M2 ⟨rfl, h2⟩
  refine wf rfl (wq_neS ?_)
  have hK2 := OKS_wipe hK
  have hr2 : rdTo (spWipe S).2.2.1 (0, ([], []), []) := rdTo_nil
  have hl2 : (spWipe S).2.2.1.length = 0 := rfl
  generalize (spWipe S).2 = S2 at *
  repeat (refine wf rfl ?_; first | refine wq_iadd ?_ | refine wq_isub ?_ | refine wq_imul ?_ | refine wq_iinc rfl ?_ | refine wq_goto ?_ | refine wq_k rfl ?_ | refine wq_b rfl rfl ?_ | refine wq_getf (by assumption) rfl ?_ | refine wq_alen (by assumption) rfl ?_)
  refine wf rfl (wq_cs rfl rfl ((c_up (M := M2) (n := 5) (by omega) (by omega)).mono ?_))
  rintro v M2 ⟨⟨r, r0, r1, rfl⟩, rfl⟩
  have hm := fun (_ : True) => lp_grules (x := x) (y := y) (N := r) (by omega) 10 [] M2 S2 [] ⟨h2, hK2, by show (0 : Int) ≤ r; omega, by show r - (0 : Int) < 10; omega, hr2, GRk.nil, by rw [hl2]; show (0 : Int) ≤ 6 * 0; omega⟩
  repeat' (first | (refine Wp.sub (hm  ?_) ⟨rfl, rfl, rfl, rfl, rfl, rfl, rfl, trivial⟩ rfl) | (refine wf rfl ?_; first | refine wq_iadd ?_ | refine wq_isub ?_ | refine wq_imul ?_ | refine wq_iinc rfl ?_ | refine wq_goto ?_ | refine wq_k rfl ?_ | refine wq_b rfl rfl ?_ | refine wq_getf (by assumption) rfl ?_ | refine wq_alen (by assumption) rfl ?_ | fail | (refine wq_eq ⟨by omega, by omega⟩ ⟨by omega, by omega⟩ (fun _ => ?_) (fun _ => ?_) <;> try (exfalso; omega)) | (refine wq_ne ⟨by omega, by omega⟩ ⟨by omega, by omega⟩ (fun _ => ?_) (fun _ => ?_) <;> try (exfalso; omega)) | (refine wq_lt ⟨by omega, by omega⟩ ⟨by omega, by omega⟩ (fun _ => ?_) (fun _ => ?_) <;> try (exfalso; omega)) | (refine wq_ge ⟨by omega, by omega⟩ ⟨by omega, by omega⟩ (fun _ => ?_) (fun _ => ?_) <;> try (exfalso; omega)) | (refine wq_gt ⟨by omega, by omega⟩ ⟨by omega, by omega⟩ (fun _ => ?_) (fun _ => ?_) <;> try (exfalso; omega)) | (refine wq_le ⟨by omega, by omega⟩ ⟨by omega, by omega⟩ (fun _ => ?_) (fun _ => ?_) <;> try (exfalso; omega)) | (refine wq_ifeq ⟨by omega, by omega⟩ (fun _ => ?_) (fun _ => ?_) <;> try (exfalso; omega)) | (refine wq_ifne ⟨by omega, by omega⟩ (fun _ => ?_) (fun _ => ?_) <;> try (exfalso; omega)) | (refine wq_iflt ⟨by omega, by omega⟩ (fun _ => ?_) (fun _ => ?_) <;> try (exfalso; omega)) | (refine wq_ifge ⟨by omega, by omega⟩ (fun _ => ?_) (fun _ => ?_) <;> try (exfalso; omega)) | (refine wq_ifgt ⟨by omega, by omega⟩ (fun _ => ?_) (fun _ => ?_) <;> try (exfalso; omega)) | (refine wq_ifle ⟨by omega, by omega⟩ (fun _ => ?_) (fun _ => ?_) <;> try (exfalso; omega)) | refine wq_r rfl rfl rfl rfl rfl rfl ?_))
  trivial
end GRA
