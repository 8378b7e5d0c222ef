/-! The constructors of the history and of the class. -/
section KEE2
variable {P : Nat → Prop} {n s : Nat} {M M' : PM}
theorem GE.kee {g : Nat} (h : GE M g) (f : Kee P n s M M') (hP : ∀ q, g ≤ q → q < g + 59 → ¬ P q) : GE M' g := by
  obtain ⟨N, p, X, mn, lt, dp, us, W, h1⟩ := h
  exact ⟨N, p, X, mn, lt, dp, us, W, h1.kee f hP⟩
theorem CH.kee {h : Nat} {hist : List GS} (k : CH M h hist) (f : Kee P n s M M') (hP : ∀ q, h ≤ q → q < h + 356 → ¬ P q) : CH M' h hist := by
  obtain ⟨nx, h1, h2, ⟨ff, h3, h4⟩, h5, h6, h7⟩ := k
  refine ⟨nx, h1, f.at (hP _ (by omega) (by omega)) h2, ⟨ff, f.at (hP _ (by omega) (by omega)) h3, h4⟩, fun i hi => (h5 i hi).kee f (fun q q1 q2 => hP q (by omega) (by omega)), h6, fun k G k1 k2 k3 => (h7 k G k1 k2 k3).kee f (fun q q1 q2 => by
    have := Nat.mod_lt (nx + 6 - k) (show 0 < 6 by omega)
    exact hP q (by omega) (by omega))⟩
theorem Kee.rf : Kee P 0 0 M M := ⟨rfl, Nat.le_refl _, fun _ _ _ h => h⟩
end KEE2
section INI2
variable {M : PM}
/-- an array of grammars at a, filled up to i -/
def QI (M : PM) (a N b i : Nat) : Prop := (∃ f : Nat → Option Nat, M[a]? = some (aQ 3 N f) ∧ ∀ k, k < i → f k = some (b + 59 * k)) ∧ (∀ k, k < i → GE M (b + 59 * k)) ∧ M.length = b + 59 * i
theorem QI.up {M1 M2 M3 : PM} {a N b i : Nat} (hab : a < b) (h : QI M1 a N b i) (k : Kee (fun _ => False) 59 2610 M1 M2) (hG : GE M2 (b + 59 * i)) {f : Nat → Option Nat} (hf : M1[a]? = some (aQ 3 N f)) (hf2 : ∀ k, k < i → f k = some (b + 59 * k)) (e : M3[a]? = some (aQ 3 N (va_up f i (some (b + 59 * i))))) (fr : Fr (fun q => q = a) M2 M3) : QI M3 a N b (i + 1) ∧ Kee (fun q => q = a) 59 2610 M1 M3 := by
  refine ⟨⟨⟨_, e, fun k hk => ?_⟩, fun j hj => ?_, by rw [fr.1, k.1, h.2.2]; omega⟩, ⟨by rw [fr.1, k.1], by rw [fr.2.1]; exact k.2.1, fun q x hq hx => fr.at hq (k.at id hx)⟩⟩
  · unfold va_up
    by_cases he : k = i
    · rw [if_pos he, he]
    · rw [if_neg he]
      exact hf2 k (by omega)
  · by_cases he : j = i
    · subst he
      exact hG.fr fr (fun q hq => by unfold inG at hq; omega)
    · exact ((h.2.1 j (by omega)).kee k (fun q q1 q2 => id)).fr fr (fun q hq => by unfold inG at hq; omega)

theorem lp_hinit {h : Nat} (n : Nat) : ∀ (i : Nat) (M1 : PM), (i + n = 6 ∧ M1[h]? = some (.inr (1, [.ref (h + 1), .int (I 0), .int (I 0)])) ∧ QI M1 (h + 1) 6 (h + 2) i ∧ Kee (fun q => q = h + 1) (59 * i) (2610 * i) M M1) →
    Wp k_X1_init (25, [(0, .ref h), (1, .int (I i))], [], M1) (fun v M' => v = none ∧ M'[h]? = some (.inr (1, [.ref (h + 1), .int (I 0), .int (I 0)])) ∧ QI M' (h + 1) 6 (h + 2) 6 ∧ Kee (fun q => q = h + 1) (59 * 6) (2610 * 6) M M') := by
  induction n with
  | zero =>
    rintro i M1 ⟨i1, a1, a2, a3⟩
    have e26 : i = 6 := by omega
    subst e26
    obtain ⟨f, a4, a5⟩ := id a2.1
    repeat (refine wf rfl ?_; first | refine wq_iadd ?_ | refine wq_isub ?_ | refine wq_imul ?_ | refine wq_iinc rfl ?_ | refine wq_goto ?_ | refine wq_k rfl ?_ | refine wq_b rfl rfl ?_ | refine wq_getf (by assumption) rfl ?_ | refine wq_alen (by assumption) rfl ?_)
    refine wf rfl (wq_ge ⟨by omega, by omega⟩ ⟨by omega, by omega⟩ (fun _ => ?_) (fun c9 => by exfalso; omega))
    repeat' (refine wf rfl ?_; first | refine wq_iadd ?_ | refine wq_isub ?_ | refine wq_imul ?_ | refine wq_iinc rfl ?_ | refine wq_goto ?_ | refine wq_k rfl ?_ | refine wq_b rfl rfl ?_ | refine wq_getf (by assumption) rfl ?_ | refine wq_alen (by assumption) rfl ?_ | (refine wq_eq ⟨by omega, by omega⟩ ⟨by omega, by omega⟩ (fun _ => ?_) (fun _ => ?_) <;> try (exfalso; omega)) | (refine wq_ne ⟨by omega, by omega⟩ ⟨by omega, by omega⟩ (fun _ => ?_) (fun _ => ?_) <;> try (exfalso; omega)) | (refine wq_lt ⟨by omega, by omega⟩ ⟨by omega, by omega⟩ (fun _ => ?_) (fun _ => ?_) <;> try (exfalso; omega)) | (refine wq_ge ⟨by omega, by omega⟩ ⟨by omega, by omega⟩ (fun _ => ?_) (fun _ => ?_) <;> try (exfalso; omega)) | (refine wq_gt ⟨by omega, by omega⟩ ⟨by omega, by omega⟩ (fun _ => ?_) (fun _ => ?_) <;> try (exfalso; omega)) | (refine wq_le ⟨by omega, by omega⟩ ⟨by omega, by omega⟩ (fun _ => ?_) (fun _ => ?_) <;> try (exfalso; omega)) | (refine wq_ifeq ⟨by omega, by omega⟩ (fun _ => ?_) (fun _ => ?_) <;> try (exfalso; omega)) | (refine wq_ifne ⟨by omega, by omega⟩ (fun _ => ?_) (fun _ => ?_) <;> try (exfalso; omega)) | (refine wq_iflt ⟨by omega, by omega⟩ (fun _ => ?_) (fun _ => ?_) <;> try (exfalso; omega)) | (refine wq_ifge ⟨by omega, by omega⟩ (fun _ => ?_) (fun _ => ?_) <;> try (exfalso; omega)) | (refine wq_ifgt ⟨by omega, by omega⟩ (fun _ => ?_) (fun _ => ?_) <;> try (exfalso; omega)) | (refine wq_ifle ⟨by omega, by omega⟩ (fun _ => ?_) (fun _ => ?_) <;> try (exfalso; omega)) | refine wq_r rfl rfl rfl rfl rfl rfl ?_)
    exact ⟨rfl, a1, a2, a3⟩
  | succ n ih =>
    rintro i M1 ⟨i1, a1, a2, a3⟩
    obtain ⟨f, a4, a5⟩ := id a2.1
    have a6 := a2.2.2
    repeat (refine wf rfl ?_; first | refine wq_iadd ?_ | refine wq_isub ?_ | refine wq_imul ?_ | refine wq_iinc rfl ?_ | refine wq_goto ?_ | refine wq_k rfl ?_ | refine wq_b rfl rfl ?_ | refine wq_getf (by assumption) rfl ?_ | refine wq_alen (by assumption) rfl ?_)
    refine wf rfl (wq_ge ⟨by omega, by omega⟩ ⟨by omega, by omega⟩ (fun c9 => by exfalso; omega) (fun _ => ?_))
    repeat (refine wf rfl ?_; first | refine wq_new ?_ | refine wq_iadd ?_ | refine wq_isub ?_ | refine wq_imul ?_ | refine wq_iinc rfl ?_ | refine wq_goto ?_ | refine wq_k rfl ?_ | refine wq_b rfl rfl ?_ | refine wq_getf (by assumption) rfl ?_ | refine wq_alen (by assumption) rfl ?_)
    refine wf rfl (wq_ci rfl rfl ((c_Gr_init (M := M1 ++ [.inr (0, nth [] dfl 0)]) (g := M1.length) getL (by rw [List.length_append]; rfl)).mono ?_))
    rintro v M2 ⟨rfl, k1, r1⟩
    have k1' : Kee (fun _ => False) 59 2610 M1 M2 := (Kee.new (P := fun _ => False) k1).mono rfl (by decide) (fun q hq => hq)
    rw [a6] at r1
    rw [a6]
    obtain ⟨fo, rr1⟩ := r1.obj
    have a4' := k1'.at id a4
    have a1' := k1'.at id a1
    refine wf rfl (wq_aast a4' rr1 rfl ⟨by omega, by omega⟩ (by omega) (by omega) (fun M3 e3 f3 => ?_))
    rw [show ((i : Int)).toNat = i by omega] at e3
    obtain ⟨q1, q2⟩ := a2.up (by omega) k1' r1.ge a4 a5 e3 f3
    have hst := fun (_ : True) => ih (i + 1) M3 ⟨by omega, f3.at (by omega) a1', q1, (a3.tr q2).mono (by omega) (by omega) (fun q hq => hq)⟩
    rw [show ((i + 1 : Nat) : Int) = (i : Int) + 1 by omega] at hst
    repeat' (first | (refine Wp.sub (hst  ?_) ⟨rfl, rfl, trivial⟩ rfl) | (refine wf rfl ?_; first | refine wq_iadd ?_ | refine wq_isub ?_ | refine wq_imul ?_ | refine wq_iinc rfl ?_ | refine wq_goto ?_ | refine wq_k rfl ?_ | refine wq_b rfl rfl ?_ | refine wq_getf (by assumption) rfl ?_ | refine wq_alen (by assumption) rfl ?_ | fail | (refine wq_eq ⟨by omega, by omega⟩ ⟨by omega, by omega⟩ (fun _ => ?_) (fun _ => ?_) <;> try (exfalso; omega)) | (refine wq_ne ⟨by omega, by omega⟩ ⟨by omega, by omega⟩ (fun _ => ?_) (fun _ => ?_) <;> try (exfalso; omega)) | (refine wq_lt ⟨by omega, by omega⟩ ⟨by omega, by omega⟩ (fun _ => ?_) (fun _ => ?_) <;> try (exfalso; omega)) | (refine wq_ge ⟨by omega, by omega⟩ ⟨by omega, by omega⟩ (fun _ => ?_) (fun _ => ?_) <;> try (exfalso; omega)) | (refine wq_gt ⟨by omega, by omega⟩ ⟨by omega, by omega⟩ (fun _ => ?_) (fun _ => ?_) <;> try (exfalso; omega)) | (refine wq_le ⟨by omega, by omega⟩ ⟨by omega, by omega⟩ (fun _ => ?_) (fun _ => ?_) <;> try (exfalso; omega)) | (refine wq_ifeq ⟨by omega, by omega⟩ (fun _ => ?_) (fun _ => ?_) <;> try (exfalso; omega)) | (refine wq_ifne ⟨by omega, by omega⟩ (fun _ => ?_) (fun _ => ?_) <;> try (exfalso; omega)) | (refine wq_iflt ⟨by omega, by omega⟩ (fun _ => ?_) (fun _ => ?_) <;> try (exfalso; omega)) | (refine wq_ifge ⟨by omega, by omega⟩ (fun _ => ?_) (fun _ => ?_) <;> try (exfalso; omega)) | (refine wq_ifgt ⟨by omega, by omega⟩ (fun _ => ?_) (fun _ => ?_) <;> try (exfalso; omega)) | (refine wq_ifle ⟨by omega, by omega⟩ (fun _ => ?_) (fun _ => ?_) <;> try (exfalso; omega)) | refine wq_r rfl rfl rfl rfl rfl rfl ?_))
    trivial

theorem lp_cinit {c : Nat} (n : Nat) : ∀ (i : Nat) (M1 : PM), (i + n = 2 ∧ M1[c]? = some (.inr (9, [.ref (c + 1), .ref (c + 60), .ref (c + 119), .ref (c + 121), .ref (c + 477), .ref (c + 478), .ref (c + 479), .ref (c + 482), .ref (c + 484), .ref (c + 487), .ref (c + 488), .ref (c + 491)])) ∧ QI M1 (c + 477) 2 (c + 494) i ∧ Kee (fun q => q = c + 477) (59 * i) (2610 * i) M M1) →
    Wp k_X9_init (131, [(0, .ref c), (1, .int (I i))], [], M1) (fun v M' => v = none ∧ M'[c]? = some (.inr (9, [.ref (c + 1), .ref (c + 60), .ref (c + 119), .ref (c + 121), .ref (c + 477), .ref (c + 478), .ref (c + 479), .ref (c + 482), .ref (c + 484), .ref (c + 487), .ref (c + 488), .ref (c + 491)])) ∧ QI M' (c + 477) 2 (c + 494) 2 ∧ Kee (fun q => q = c + 477) (59 * 2) (2610 * 2) M M') := by
  induction n with
  | zero =>
    rintro i M1 ⟨i1, a1, a2, a3⟩
    have e26 : i = 2 := by omega
    subst e26
    obtain ⟨f, a4, a5⟩ := id a2.1
    repeat (refine wf rfl ?_; first | refine wq_iadd ?_ | refine wq_isub ?_ | refine wq_imul ?_ | refine wq_iinc rfl ?_ | refine wq_goto ?_ | refine wq_k rfl ?_ | refine wq_b rfl rfl ?_ | refine wq_getf (by assumption) rfl ?_ | refine wq_alen (by assumption) rfl ?_)
    refine wf rfl (wq_ge ⟨by omega, by omega⟩ ⟨by omega, by omega⟩ (fun _ => ?_) (fun c9 => by exfalso; omega))
    repeat' (refine wf rfl ?_; first | refine wq_iadd ?_ | refine wq_isub ?_ | refine wq_imul ?_ | refine wq_iinc rfl ?_ | refine wq_goto ?_ | refine wq_k rfl ?_ | refine wq_b rfl rfl ?_ | refine wq_getf (by assumption) rfl ?_ | refine wq_alen (by assumption) rfl ?_ | (refine wq_eq ⟨by omega, by omega⟩ ⟨by omega, by omega⟩ (fun _ => ?_) (fun _ => ?_) <;> try (exfalso; omega)) | (refine wq_ne ⟨by omega, by omega⟩ ⟨by omega, by omega⟩ (fun _ => ?_) (fun _ => ?_) <;> try (exfalso; omega)) | (refine wq_lt ⟨by omega, by omega⟩ ⟨by omega, by omega⟩ (fun _ => ?_) (fun _ => ?_) <;> try (exfalso; omega)) | (refine wq_ge ⟨by omega, by omega⟩ ⟨by omega, by omega⟩ (fun _ => ?_) (fun _ => ?_) <;> try (exfalso; omega)) | (refine wq_gt ⟨by omega, by omega⟩ ⟨by omega, by omega⟩ (fun _ => ?_) (fun _ => ?_) <;> try (exfalso; omega)) | (refine wq_le ⟨by omega, by omega⟩ ⟨by omega, by omega⟩ (fun _ => ?_) (fun _ => ?_) <;> try (exfalso; omega)) | (refine wq_ifeq ⟨by omega, by omega⟩ (fun _ => ?_) (fun _ => ?_) <;> try (exfalso; omega)) | (refine wq_ifne ⟨by omega, by omega⟩ (fun _ => ?_) (fun _ => ?_) <;> try (exfalso; omega)) | (refine wq_iflt ⟨by omega, by omega⟩ (fun _ => ?_) (fun _ => ?_) <;> try (exfalso; omega)) | (refine wq_ifge ⟨by omega, by omega⟩ (fun _ => ?_) (fun _ => ?_) <;> try (exfalso; omega)) | (refine wq_ifgt ⟨by omega, by omega⟩ (fun _ => ?_) (fun _ => ?_) <;> try (exfalso; omega)) | (refine wq_ifle ⟨by omega, by omega⟩ (fun _ => ?_) (fun _ => ?_) <;> try (exfalso; omega)) | refine wq_r rfl rfl rfl rfl rfl rfl ?_)
    exact ⟨rfl, a1, a2, a3⟩
  | succ n ih =>
    rintro i M1 ⟨i1, a1, a2, a3⟩
    obtain ⟨f, a4, a5⟩ := id a2.1
    have a6 := a2.2.2
    repeat (refine wf rfl ?_; first | refine wq_iadd ?_ | refine wq_isub ?_ | refine wq_imul ?_ | refine wq_iinc rfl ?_ | refine wq_goto ?_ | refine wq_k rfl ?_ | refine wq_b rfl rfl ?_ | refine wq_getf (by assumption) rfl ?_ | refine wq_alen (by assumption) rfl ?_)
    refine wf rfl (wq_ge ⟨by omega, by omega⟩ ⟨by omega, by omega⟩ (fun c9 => by exfalso; omega) (fun _ => ?_))
    repeat (refine wf rfl ?_; first | refine wq_new ?_ | refine wq_iadd ?_ | refine wq_isub ?_ | refine wq_imul ?_ | refine wq_iinc rfl ?_ | refine wq_goto ?_ | refine wq_k rfl ?_ | refine wq_b rfl rfl ?_ | refine wq_getf (by assumption) rfl ?_ | refine wq_alen (by assumption) rfl ?_)
    refine wf rfl (wq_ci rfl rfl ((c_Gr_init (M := M1 ++ [.inr (0, nth [] dfl 0)]) (g := M1.length) getL (by rw [List.length_append]; rfl)).mono ?_))
    rintro v M2 ⟨rfl, k1, r1⟩
    have k1' : Kee (fun _ => False) 59 2610 M1 M2 := (Kee.new (P := fun _ => False) k1).mono rfl (by decide) (fun q hq => hq)
    rw [a6] at r1
    rw [a6]
    obtain ⟨fo, rr1⟩ := r1.obj
    have a4' := k1'.at id a4
    have a1' := k1'.at id a1
    refine wf rfl (wq_aast a4' rr1 rfl ⟨by omega, by omega⟩ (by omega) (by omega) (fun M3 e3 f3 => ?_))
    rw [show ((i : Int)).toNat = i by omega] at e3
    obtain ⟨q1, q2⟩ := a2.up (by omega) k1' r1.ge a4 a5 e3 f3
    have hst := fun (_ : True) => ih (i + 1) M3 ⟨by omega, f3.at (by omega) a1', q1, (a3.tr q2).mono (by omega) (by omega) (fun q hq => hq)⟩
    rw [show ((i + 1 : Nat) : Int) = (i : Int) + 1 by omega] at hst
    repeat' (first | (refine Wp.sub (hst  ?_) ⟨rfl, rfl, trivial⟩ rfl) | (refine wf rfl ?_; first | refine wq_iadd ?_ | refine wq_isub ?_ | refine wq_imul ?_ | refine wq_iinc rfl ?_ | refine wq_goto ?_ | refine wq_k rfl ?_ | refine wq_b rfl rfl ?_ | refine wq_getf (by assumption) rfl ?_ | refine wq_alen (by assumption) rfl ?_ | fail | (refine wq_eq ⟨by omega, by omega⟩ ⟨by omega, by omega⟩ (fun _ => ?_) (fun _ => ?_) <;> try (exfalso; omega)) | (refine wq_ne ⟨by omega, by omega⟩ ⟨by omega, by omega⟩ (fun _ => ?_) (fun _ => ?_) <;> try (exfalso; omega)) | (refine wq_lt ⟨by omega, by omega⟩ ⟨by omega, by omega⟩ (fun _ => ?_) (fun _ => ?_) <;> try (exfalso; omega)) | (refine wq_ge ⟨by omega, by omega⟩ ⟨by omega, by omega⟩ (fun _ => ?_) (fun _ => ?_) <;> try (exfalso; omega)) | (refine wq_gt ⟨by omega, by omega⟩ ⟨by omega, by omega⟩ (fun _ => ?_) (fun _ => ?_) <;> try (exfalso; omega)) | (refine wq_le ⟨by omega, by omega⟩ ⟨by omega, by omega⟩ (fun _ => ?_) (fun _ => ?_) <;> try (exfalso; omega)) | (refine wq_ifeq ⟨by omega, by omega⟩ (fun _ => ?_) (fun _ => ?_) <;> try (exfalso; omega)) | (refine wq_ifne ⟨by omega, by omega⟩ (fun _ => ?_) (fun _ => ?_) <;> try (exfalso; omega)) | (refine wq_iflt ⟨by omega, by omega⟩ (fun _ => ?_) (fun _ => ?_) <;> try (exfalso; omega)) | (refine wq_ifge ⟨by omega, by omega⟩ (fun _ => ?_) (fun _ => ?_) <;> try (exfalso; omega)) | (refine wq_ifgt ⟨by omega, by omega⟩ (fun _ => ?_) (fun _ => ?_) <;> try (exfalso; omega)) | (refine wq_ifle ⟨by omega, by omega⟩ (fun _ => ?_) (fun _ => ?_) <;> try (exfalso; omega)) | refine wq_r rfl rfl rfl rfl rfl rfl ?_))
    trivial

theorem c_Hist_init {h : Nat} (h0 : M[h]? = some (.inr (1, [.null, .int 0, .int 0]))) (hl : M.length = h + 1) : Wm 37 [.ref h] M (fun v M' => v = none ∧ Kee (fun q => q = h) 355 16000 M M' ∧ CH M' h []) := by
  refine wm_in (lv := _) rfl rfl rfl ?_
  repeat (refine wf rfl ?_; first | refine wq_oinit rfl ?_ | refine wq_iadd ?_ | refine wq_isub ?_ | refine wq_imul ?_ | refine wq_iinc rfl ?_ | refine wq_goto ?_ | refine wq_k rfl ?_ | refine wq_b rfl rfl ?_ | refine wq_getf (by assumption) rfl ?_ | refine wq_alen (by assumption) rfl ?_)
  refine wf rfl (wq_newq ⟨by omega, by omega⟩ (by omega) (by omega) ?_)
  refine wf rfl (wq_putf (getA h0) rfl (fun M1 e1 f1 => ?_))
  have k1 : Kee (fun q => q = h) 1 6 M M1 := ((Kee.app _).tr f1.kee).mono rfl (by decide) (fun q hq => hq)
  have g1 : M1[h + 1]? = some (aQ 3 6 (fun _ => none)) := f1.at (by omega) (by rw [← hl]; exact getL)
  rw [hl] at e1
  repeat (refine wf rfl ?_; first | refine wq_iadd ?_ | refine wq_isub ?_ | refine wq_imul ?_ | refine wq_iinc rfl ?_ | refine wq_goto ?_ | refine wq_k rfl ?_ | refine wq_b rfl rfl ?_ | refine wq_getf (by assumption) rfl ?_ | refine wq_alen (by assumption) rfl ?_)
  refine wf rfl (wq_putf e1 rfl (fun M2 e2 f2 => ?_))
  repeat (refine wf rfl ?_; first | refine wq_iadd ?_ | refine wq_isub ?_ | refine wq_imul ?_ | refine wq_iinc rfl ?_ | refine wq_goto ?_ | refine wq_k rfl ?_ | refine wq_b rfl rfl ?_ | refine wq_getf (by assumption) rfl ?_ | refine wq_alen (by assumption) rfl ?_)
  refine wf rfl (wq_putf e2 rfl (fun M3 e3 f3 => ?_))
  have k3 : Kee (fun q => q = h) 1 6 M M3 := ((k1.tr f2.kee).tr f3.kee).mono rfl (by decide) (fun q hq => hq)
  have hst := fun (_ : True) => (lp_hinit (M := M3) (h := h) 6 0 M3 ⟨rfl, e3, ⟨⟨_, f3.at (by omega) (f2.at (by omega) g1), fun k hk => by omega⟩, fun k hk => by omega, by rw [k3.1, hl]⟩, Kee.rf⟩).mono (Q' := fun v M' => v = none ∧ Kee (fun q => q = h) 355 16000 M M' ∧ CH M' h []) (fun v M' hv => by
    obtain ⟨h1, h2, ⟨⟨f, h3, h4⟩, h5, -⟩, h6⟩ := hv
    have k6 := (k3.mono (P' := fun q => q = h ∨ q = h + 1) rfl (Nat.le_refl _) (fun q hq => Or.inl hq)).tr (h6.mono (P' := fun q => q = h ∨ q = h + 1) rfl (Nat.le_refl _) (fun q hq => Or.inr hq))
    refine ⟨h1, ⟨k6.1, by have := k6.2.1; omega, fun q x hq hx => k6.2.2 q x ?_ hx⟩, 0, by omega, h2, ⟨f, h3, h4⟩, h5, by simp, fun k G k1 k2 k3 => ?_⟩
    · have := (List.getElem?_eq_some_iff.mp hx).1
      omega
    · have k2 : k ≤ 0 := k2
      exact absurd k1 (by omega))
  repeat' (first | (refine Wp.sub (hst  ?_) ⟨rfl, rfl, trivial⟩ rfl) | (refine wf rfl ?_; first | refine wq_iadd ?_ | refine wq_isub ?_ | refine wq_imul ?_ | refine wq_iinc rfl ?_ | refine wq_goto ?_ | refine wq_k rfl ?_ | refine wq_b rfl rfl ?_ | refine wq_getf (by assumption) rfl ?_ | refine wq_alen (by assumption) rfl ?_ | fail | (refine wq_eq ⟨by omega, by omega⟩ ⟨by omega, by omega⟩ (fun _ => ?_) (fun _ => ?_) <;> try (exfalso; omega)) | (refine wq_ne ⟨by omega, by omega⟩ ⟨by omega, by omega⟩ (fun _ => ?_) (fun _ => ?_) <;> try (exfalso; omega)) | (refine wq_lt ⟨by omega, by omega⟩ ⟨by omega, by omega⟩ (fun _ => ?_) (fun _ => ?_) <;> try (exfalso; omega)) | (refine wq_ge ⟨by omega, by omega⟩ ⟨by omega, by omega⟩ (fun _ => ?_) (fun _ => ?_) <;> try (exfalso; omega)) | (refine wq_gt ⟨by omega, by omega⟩ ⟨by omega, by omega⟩ (fun _ => ?_) (fun _ => ?_) <;> try (exfalso; omega)) | (refine wq_le ⟨by omega, by omega⟩ ⟨by omega, by omega⟩ (fun _ => ?_) (fun _ => ?_) <;> try (exfalso; omega)) | (refine wq_ifeq ⟨by omega, by omega⟩ (fun _ => ?_) (fun _ => ?_) <;> try (exfalso; omega)) | (refine wq_ifne ⟨by omega, by omega⟩ (fun _ => ?_) (fun _ => ?_) <;> try (exfalso; omega)) | (refine wq_iflt ⟨by omega, by omega⟩ (fun _ => ?_) (fun _ => ?_) <;> try (exfalso; omega)) | (refine wq_ifge ⟨by omega, by omega⟩ (fun _ => ?_) (fun _ => ?_) <;> try (exfalso; omega)) | (refine wq_ifgt ⟨by omega, by omega⟩ (fun _ => ?_) (fun _ => ?_) <;> try (exfalso; omega)) | (refine wq_ifle ⟨by omega, by omega⟩ (fun _ => ?_) (fun _ => ?_) <;> try (exfalso; omega)) | refine wq_r rfl rfl rfl rfl rfl rfl ?_))
  trivial
def S0 : ST := (G0, [], [], fun _ => none)
set_option maxHeartbeats 1000000 in
theorem c_PG_init {c : Nat} (h0 : M[c]? = some (.inr (9, [.null, .null, .null, .null, .null, .null, .null, .null, .null, .null, .null, .null]))) (hl : M.length = c + 1) : Wm 90 [.ref c] M (fun v M' => v = none ∧ Kee (fun q => q = c) 611 60000 M M' ∧ CS M' c S0) := by
  refine wm_in (lv := _) rfl rfl rfl ?_
  repeat (refine wf rfl ?_; first | refine wq_oinit rfl ?_ | refine wq_iadd ?_ | refine wq_isub ?_ | refine wq_imul ?_ | refine wq_iinc rfl ?_ | refine wq_goto ?_ | refine wq_k rfl ?_ | refine wq_b rfl rfl ?_ | refine wq_getf (by assumption) rfl ?_ | refine wq_alen (by assumption) rfl ?_)
  repeat (refine wf rfl ?_; first | refine wq_new ?_ | refine wq_iadd ?_ | refine wq_isub ?_ | refine wq_imul ?_ | refine wq_iinc rfl ?_ | refine wq_goto ?_ | refine wq_k rfl ?_ | refine wq_b rfl rfl ?_ | refine wq_getf (by assumption) rfl ?_ | refine wq_alen (by assumption) rfl ?_)
  refine wf rfl (wq_ci rfl rfl ((c_Gr_init (M := M ++ [.inr (0, nth [] dfl 0)]) (g := M.length) getL (by rw [List.length_append]; rfl)).mono ?_))
  rintro v N1 ⟨rfl, j1, t1⟩
  have p1 := Kee.new (P := fun q => q = c) j1
  have o1 := j1.at (by omega) (getA (x := .inr (0, nth [] dfl 0)) h0)
  rw [hl] at t1
  rw [hl]
  refine wf rfl (wq_putf o1 rfl (fun M1 e1 f1 => ?_))
  have k1 : Kee (fun q => q = c) 59 2610 M M1 := (p1.tr f1.kee).mono rfl (by decide) (fun q hq => hq)
  have r1 := t1.kee f1.kee (fun q q1 q2 => by omega)
  have l1 : M1.length = c + 60 := by rw [k1.1, hl]
  repeat (refine wf rfl ?_; first | refine wq_new ?_ | refine wq_iadd ?_ | refine wq_isub ?_ | refine wq_imul ?_ | refine wq_iinc rfl ?_ | refine wq_goto ?_ | refine wq_k rfl ?_ | refine wq_b rfl rfl ?_ | refine wq_getf (by assumption) rfl ?_ | refine wq_alen (by assumption) rfl ?_)
  refine wf rfl (wq_ci rfl rfl ((c_Gr_init (M := M1 ++ [.inr (0, nth [] dfl 0)]) (g := M1.length) getL (by rw [List.length_append]; rfl)).mono ?_))
  rintro v N2 ⟨rfl, j2, t2⟩
  have p2 := Kee.new (P := fun q => q = c) j2
  have o2 := j2.at (by omega) (getA (x := .inr (0, nth [] dfl 0)) e1)
  rw [l1] at t2
  rw [l1]
  refine wf rfl (wq_putf o2 rfl (fun M2 e2 f2 => ?_))
  have k2 : Kee (fun q => q = c) 59 2610 M1 M2 := (p2.tr f2.kee).mono rfl (by decide) (fun q hq => hq)
  have r2 := t2.kee f2.kee (fun q q1 q2 => by omega)
  have l2 : M2.length = c + 119 := by rw [k2.1, l1]
  repeat (refine wf rfl ?_; first | refine wq_new ?_ | refine wq_iadd ?_ | refine wq_isub ?_ | refine wq_imul ?_ | refine wq_iinc rfl ?_ | refine wq_goto ?_ | refine wq_k rfl ?_ | refine wq_b rfl rfl ?_ | refine wq_getf (by assumption) rfl ?_ | refine wq_alen (by assumption) rfl ?_)
  refine wf rfl (wq_ci rfl rfl ((c_Pad_init (M := M2 ++ [.inr (2, nth [] dfl 2)]) (a := M2.length) getL (by rw [List.length_append]; rfl)).mono ?_))
  rintro v N3 ⟨rfl, j3, t3⟩
  have p3 := Kee.new (P := fun q => q = c) j3
  have o3 := j3.at (by omega) (getA (x := .inr (2, nth [] dfl 2)) e2)
  rw [l2] at t3
  rw [l2]
  refine wf rfl (wq_putf o3 rfl (fun M3 e3 f3 => ?_))
  have k3 : Kee (fun q => q = c) 2 90 M2 M3 := (p3.tr f3.kee).mono rfl (by decide) (fun q hq => hq)
  have r3 := t3.fr f3 (by omega) (by omega)
  have l3 : M3.length = c + 121 := by rw [k3.1, l2]
  repeat (refine wf rfl ?_; first | refine wq_new ?_ | refine wq_iadd ?_ | refine wq_isub ?_ | refine wq_imul ?_ | refine wq_iinc rfl ?_ | refine wq_goto ?_ | refine wq_k rfl ?_ | refine wq_b rfl rfl ?_ | refine wq_getf (by assumption) rfl ?_ | refine wq_alen (by assumption) rfl ?_)
  refine wf rfl (wq_ci rfl rfl ((c_Hist_init (M := M3 ++ [.inr (1, nth [] dfl 1)]) (h := M3.length) getL (by rw [List.length_append]; rfl)).mono ?_))
  rintro v N4 ⟨rfl, j4, t4⟩
  have p4 := Kee.new (P := fun q => q = c) j4
  have o4 := j4.at (by omega) (getA (x := .inr (1, nth [] dfl 1)) e3)
  rw [l3] at t4
  rw [l3]
  refine wf rfl (wq_putf o4 rfl (fun M4 e4 f4 => ?_))
  have k4 : Kee (fun q => q = c) 356 16010 M3 M4 := (p4.tr f4.kee).mono rfl (by decide) (fun q hq => hq)
  have r4 := t4.kee f4.kee (fun q q1 q2 => by omega)
  have l4 : M4.length = c + 477 := by rw [k4.1, l3]
  repeat (refine wf rfl ?_; first | refine wq_iadd ?_ | refine wq_isub ?_ | refine wq_imul ?_ | refine wq_iinc rfl ?_ | refine wq_goto ?_ | refine wq_k rfl ?_ | refine wq_b rfl rfl ?_ | refine wq_getf (by assumption) rfl ?_ | refine wq_alen (by assumption) rfl ?_)
  refine wf rfl (wq_newq ⟨by omega, by omega⟩ (by omega) (by omega) ?_)
  refine wf rfl (wq_putf (getA e4) rfl (fun M5 e5 f5 => ?_))
  have k5 : Kee (fun q => q = c) 1 2 M4 M5 := ((Kee.app _).tr f5.kee).mono rfl (by decide) (fun q hq => hq)
  have r5 : M5[c + 477]? = some (aQ 3 2 (fun _ => none)) := f5.at (by omega) (by rw [← l4]; exact getL)
  rw [l4] at e5
  have l5 : M5.length = c + 478 := by rw [k5.1, l4]
  repeat (refine wf rfl ?_; first | refine wq_iadd ?_ | refine wq_isub ?_ | refine wq_imul ?_ | refine wq_iinc rfl ?_ | refine wq_goto ?_ | refine wq_k rfl ?_ | refine wq_b rfl rfl ?_ | refine wq_getf (by assumption) rfl ?_ | refine wq_alen (by assumption) rfl ?_)
  refine wf rfl (wq_newz ⟨by omega, by omega⟩ (by omega) (by omega) ?_)
  refine wf rfl (wq_putf (getA e5) rfl (fun M6 e6 f6 => ?_))
  have k6 : Kee (fun q => q = c) 1 2 M5 M6 := ((Kee.app _).tr f6.kee).mono rfl (by decide) (fun q hq => hq)
  have r6 : M6[c + 478]? = some (aZ 2 (fun _ => I 0)) := f6.at (by omega) (by rw [← l5]; exact getL)
  rw [l5] at e6
  have l6 : M6.length = c + 479 := by rw [k6.1, l5]
  repeat (refine wf rfl ?_; first | refine wq_new ?_ | refine wq_iadd ?_ | refine wq_isub ?_ | refine wq_imul ?_ | refine wq_iinc rfl ?_ | refine wq_goto ?_ | refine wq_k rfl ?_ | refine wq_b rfl rfl ?_ | refine wq_getf (by assumption) rfl ?_ | refine wq_alen (by assumption) rfl ?_)
  refine wf rfl (wq_ci rfl rfl ((c_Reader_init (M := M6 ++ [.inr (5, nth [] dfl 5)]) (a := M6.length) getL (by rw [List.length_append]; rfl)).mono ?_))
  rintro v N7 ⟨rfl, j7, t7, u7⟩
  have p7 := Kee.new (P := fun q => q = c) j7
  have o7 := j7.at (by omega) (getA (x := .inr (5, nth [] dfl 5)) e6)
  rw [l6] at t7 u7
  rw [l6]
  refine wf rfl (wq_putf o7 rfl (fun M7 e7 f7 => ?_))
  have k7 : Kee (fun q => q = c) 3 100 M6 M7 := (p7.tr f7.kee).mono rfl (by decide) (fun q hq => hq)
  have r7 := And.intro (f7.at (by omega) t7) (u7.fr f7 (by omega) (by omega))
  have l7 : M7.length = c + 482 := by rw [k7.1, l6]
  repeat (refine wf rfl ?_; first | refine wq_new ?_ | refine wq_iadd ?_ | refine wq_isub ?_ | refine wq_imul ?_ | refine wq_iinc rfl ?_ | refine wq_goto ?_ | refine wq_k rfl ?_ | refine wq_b rfl rfl ?_ | refine wq_getf (by assumption) rfl ?_ | refine wq_alen (by assumption) rfl ?_)
  refine wf rfl (wq_ci rfl rfl ((c_Pairs_init (M := M7 ++ [.inr (3, nth [] dfl 3)]) (a := M7.length) getL (by rw [List.length_append]; rfl)).mono ?_))
  rintro v N8 ⟨rfl, j8, t8⟩
  have p8 := Kee.new (P := fun q => q = c) j8
  have o8 := j8.at (by omega) (getA (x := .inr (3, nth [] dfl 3)) e7)
  rw [l7] at t8
  rw [l7]
  refine wf rfl (wq_putf o8 rfl (fun M8 e8 f8 => ?_))
  have k8 : Kee (fun q => q = c) 2 1170 M7 M8 := (p8.tr f8.kee).mono rfl (by decide) (fun q hq => hq)
  have r8 := t8.fr f8 (by omega) (by omega)
  have l8 : M8.length = c + 484 := by rw [k8.1, l7]
  repeat (refine wf rfl ?_; first | refine wq_new ?_ | refine wq_iadd ?_ | refine wq_isub ?_ | refine wq_imul ?_ | refine wq_iinc rfl ?_ | refine wq_goto ?_ | refine wq_k rfl ?_ | refine wq_b rfl rfl ?_ | refine wq_getf (by assumption) rfl ?_ | refine wq_alen (by assumption) rfl ?_)
  refine wf rfl (wq_ci rfl rfl ((c_Tally_init (M := M8 ++ [.inr (7, nth [] dfl 7)]) (a := M8.length) getL (by rw [List.length_append]; rfl)).mono ?_))
  rintro v N9 ⟨rfl, j9, t9⟩
  have p9 := Kee.new (P := fun q => q = c) j9
  have o9 := j9.at (by omega) (getA (x := .inr (7, nth [] dfl 7)) e8)
  rw [l8] at t9
  rw [l8]
  refine wf rfl (wq_putf o9 rfl (fun M9 e9 f9 => ?_))
  have k9 : Kee (fun q => q = c) 3 80 M8 M9 := (p9.tr f9.kee).mono rfl (by decide) (fun q hq => hq)
  obtain ⟨fa, su, ff, sg, t9⟩ := t9
  have r9 := t9.fr f9 (by omega) (by omega) (by omega)
  have l9 : M9.length = c + 487 := by rw [k9.1, l8]
  repeat (refine wf rfl ?_; first | refine wq_new ?_ | refine wq_iadd ?_ | refine wq_isub ?_ | refine wq_imul ?_ | refine wq_iinc rfl ?_ | refine wq_goto ?_ | refine wq_k rfl ?_ | refine wq_b rfl rfl ?_ | refine wq_getf (by assumption) rfl ?_ | refine wq_alen (by assumption) rfl ?_)
  refine wf rfl (wq_ci rfl rfl ((c_Path_init (M := M9 ++ [.inr (4, nth [] dfl 4)]) (a := M9.length) getL).mono ?_))
  rintro v N10 ⟨rfl, j10, t10⟩
  have p10 := Kee.new (P := fun q => q = c) j10
  have o10 := j10.at (by omega) (getA (x := .inr (4, nth [] dfl 4)) e9)
  rw [l9] at t10
  rw [l9]
  refine wf rfl (wq_putf o10 rfl (fun M10 e10 f10 => ?_))
  have k10 : Kee (fun q => q = c) 1 10 M9 M10 := (p10.tr f10.kee).mono rfl (by decide) (fun q hq => hq)
  obtain ⟨fl, rp, t10⟩ := t10
  have r10 : Ph M10 (c + 487) fl rp := f10.at (by omega) t10
  have l10 : M10.length = c + 488 := by rw [k10.1, l9]
  repeat (refine wf rfl ?_; first | refine wq_new ?_ | refine wq_iadd ?_ | refine wq_isub ?_ | refine wq_imul ?_ | refine wq_iinc rfl ?_ | refine wq_goto ?_ | refine wq_k rfl ?_ | refine wq_b rfl rfl ?_ | refine wq_getf (by assumption) rfl ?_ | refine wq_alen (by assumption) rfl ?_)
  refine wf rfl (wq_ci rfl rfl ((c_Walk_init (M := M10 ++ [.inr (8, nth [] dfl 8)]) (a := M10.length) getL (by rw [List.length_append]; rfl)).mono ?_))
  rintro v N11 ⟨rfl, j11, t11⟩
  have p11 := Kee.new (P := fun q => q = c) j11
  have o11 := j11.at (by omega) (getA (x := .inr (8, nth [] dfl 8)) e10)
  rw [l10] at t11
  rw [l10]
  refine wf rfl (wq_putf o11 rfl (fun M11 e11 f11 => ?_))
  have k11 : Kee (fun q => q = c) 3 60 M10 M11 := (p11.tr f11.kee).mono rfl (by decide) (fun q hq => hq)
  obtain ⟨ro11, po11, wo11, t11⟩ := t11
  have r11 := t11.fr f11 (by omega) (by omega) (by omega)
  have l11 : M11.length = c + 491 := by rw [k11.1, l10]
  repeat (refine wf rfl ?_; first | refine wq_new ?_ | refine wq_iadd ?_ | refine wq_isub ?_ | refine wq_imul ?_ | refine wq_iinc rfl ?_ | refine wq_goto ?_ | refine wq_k rfl ?_ | refine wq_b rfl rfl ?_ | refine wq_getf (by assumption) rfl ?_ | refine wq_alen (by assumption) rfl ?_)
  refine wf rfl (wq_ci rfl rfl ((c_Walk_init (M := M11 ++ [.inr (8, nth [] dfl 8)]) (a := M11.length) getL (by rw [List.length_append]; rfl)).mono ?_))
  rintro v N12 ⟨rfl, j12, t12⟩
  have p12 := Kee.new (P := fun q => q = c) j12
  have o12 := j12.at (by omega) (getA (x := .inr (8, nth [] dfl 8)) e11)
  rw [l11] at t12
  rw [l11]
  refine wf rfl (wq_putf o12 rfl (fun M12 e12 f12 => ?_))
  have k12 : Kee (fun q => q = c) 3 60 M11 M12 := (p12.tr f12.kee).mono rfl (by decide) (fun q hq => hq)
  obtain ⟨ro12, po12, wo12, t12⟩ := t12
  have r12 := t12.fr f12 (by omega) (by omega) (by omega)
  have l12 : M12.length = c + 494 := by rw [k12.1, l11]
  have K12 := k12
  have K11 := k11.tr K12
  have K10 := k10.tr K11
  have K9 := k9.tr K10
  have K8 := k8.tr K9
  have K7 := k7.tr K8
  have K6 := k6.tr K7
  have K5 := k5.tr K6
  have K4 := k4.tr K5
  have K3 := k3.tr K4
  have K2 := k2.tr K3
  have K1 := k1.tr K2
  have hst := fun (_ : True) => (lp_cinit (M := M12) (c := c) 2 0 M12 ⟨rfl, e12, ⟨⟨_, K6.at (by omega) r5, fun k hk => by omega⟩, fun k hk => by omega, l12⟩, Kee.rf⟩).mono (Q' := fun v M' => v = none ∧ Kee (fun q => q = c) 611 60000 M M' ∧ CS M' c S0) (fun v M' hv => by
    obtain ⟨h1, h2, ⟨⟨f, h3, h4⟩, h5, -⟩, h6⟩ := hv
    have k6 := (K1.mono (P' := fun q => q = c ∨ q = c + 477) rfl (Nat.le_refl _) (fun q hq => Or.inl hq)).tr (h6.mono (P' := fun q => q = c ∨ q = c + 477) rfl (Nat.le_refl _) (fun q hq => Or.inr hq))
    refine ⟨h1, ⟨k6.1, by have := k6.2.1; omega, fun q x hq hx => k6.2.2 q x ?_ hx⟩, h2, (r1.kee K2 (fun q q1 q2 => by omega)).kee h6 (fun q q1 q2 => by omega), (r2.ge.kee K3 (fun q q1 q2 => by omega)).kee h6 (fun q q1 q2 => by omega), (r3.kee K4 (by omega) (by omega)).kee h6 (by omega) (by omega), (r4.kee K5 (fun q q1 q2 => by omega)).kee h6 (fun q q1 q2 => by omega), ⟨⟨f, h3, h4⟩, ⟨fun _ => 0, h6.at (by omega) (K7.at (by omega) r6), fun i hi => by rfl⟩, h5, fun i G hi hs => by cases hs⟩, ⟨h6.at (by omega) (K8.at (by omega) r7.1), [], (r7.2.kee K8 (by omega) (by omega)).kee h6 (by omega) (by omega)⟩, ?_, ⟨_, _, _, _, h6.at (by omega) (K10.at (by omega) r9.1), h6.at (by omega) (K10.at (by omega) r9.2.1), h6.at (by omega) (K10.at (by omega) r9.2.2)⟩, ⟨_, _, h6.at (by omega) (K11.at (by omega) r10)⟩, ⟨_, _, _, h6.at (by omega) (K12.at (by omega) r11.1), h6.at (by omega) (K12.at (by omega) r11.2.1), h6.at (by omega) (K12.at (by omega) r11.2.2)⟩, ⟨_, _, _, h6.at (by omega) r12.1, h6.at (by omega) r12.2.1, h6.at (by omega) r12.2.2⟩⟩
    · have := (List.getElem?_eq_some_iff.mp hx).1
      omega
    · obtain ⟨f8, u8, b8, s8, x8, y8⟩ := r8
      exact ⟨f8, u8, b8, s8, h6.at (by omega) (K9.at (by omega) x8), h6.at (by omega) (K9.at (by omega) y8)⟩)
  repeat' (first | (refine Wp.sub (hst  ?_) ⟨rfl, rfl, trivial⟩ rfl) | (refine wf rfl ?_; first | refine wq_iadd ?_ | refine wq_isub ?_ | refine wq_imul ?_ | refine wq_iinc rfl ?_ | refine wq_goto ?_ | refine wq_k rfl ?_ | refine wq_b rfl rfl ?_ | refine wq_getf (by assumption) rfl ?_ | refine wq_alen (by assumption) rfl ?_ | fail | (refine wq_eq ⟨by omega, by omega⟩ ⟨by omega, by omega⟩ (fun _ => ?_) (fun _ => ?_) <;> try (exfalso; omega)) | (refine wq_ne ⟨by omega, by omega⟩ ⟨by omega, by omega⟩ (fun _ => ?_) (fun _ => ?_) <;> try (exfalso; omega)) | (refine wq_lt ⟨by omega, by omega⟩ ⟨by omega, by omega⟩ (fun _ => ?_) (fun _ => ?_) <;> try (exfalso; omega)) | (refine wq_ge ⟨by omega, by omega⟩ ⟨by omega, by omega⟩ (fun _ => ?_) (fun _ => ?_) <;> try (exfalso; omega)) | (refine wq_gt ⟨by omega, by omega⟩ ⟨by omega, by omega⟩ (fun _ => ?_) (fun _ => ?_) <;> try (exfalso; omega)) | (refine wq_le ⟨by omega, by omega⟩ ⟨by omega, by omega⟩ (fun _ => ?_) (fun _ => ?_) <;> try (exfalso; omega)) | (refine wq_ifeq ⟨by omega, by omega⟩ (fun _ => ?_) (fun _ => ?_) <;> try (exfalso; omega)) | (refine wq_ifne ⟨by omega, by omega⟩ (fun _ => ?_) (fun _ => ?_) <;> try (exfalso; omega)) | (refine wq_iflt ⟨by omega, by omega⟩ (fun _ => ?_) (fun _ => ?_) <;> try (exfalso; omega)) | (refine wq_ifge ⟨by omega, by omega⟩ (fun _ => ?_) (fun _ => ?_) <;> try (exfalso; omega)) | (refine wq_ifgt ⟨by omega, by omega⟩ (fun _ => ?_) (fun _ => ?_) <;> try (exfalso; omega)) | (refine wq_ifle ⟨by omega, by omega⟩ (fun _ => ?_) (fun _ => ?_) <;> try (exfalso; omega)) | refine wq_r rfl rfl rfl rfl rfl rfl ?_))
  trivial
end INI2
