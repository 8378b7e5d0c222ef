/-! The Model's ratio and share; the class' bitsOf. -/
theorem szG_bd {M : PM} {m : Nat} {G : GS} (h : Mr M m G) : (G.2.length : Int) ≤ szG G ∧ szG G ≤ 2500 := by
  have hN := h.le
  have hm := h.ml
  have hb := smN_bd (f := fun j => ((xof G.1 j).length : Int)) (B := 80) (k := G.1.length) (fun j hj => by have := h.rows hj; omega)
  unfold szG
  omega
theorem F0_self : FP.fcmp 0 0 = some .eq := by decide
theorem F0_nan : (0 : UInt32) &&& 0x7fffffff ≤ 0x7f800000 := by decide
section MD24
variable {M : PM} {m : Nat} {S : ST}
theorem I_of (x : Int32) : I x.toInt = x := Int32.ofInt_toInt x
end MD24
/-! bitsOf -/
theorem ok1024 : okD 1024 0 := ⟨by omega, by omega, by omega⟩
theorem ok1023 : okD 1023 0 := ⟨by omega, by omega, by omega⟩
theorem two_D : UInt64.ofNat 4611686018427387904 = DD 1024 0 := by decide
theorem one_D : FP.dconst1 = DD 1023 0 := by decide
theorem bits_end {X t : Nat} : (UInt64.ofNat (X * 2 ^ 52 + t)).toInt64 = Int64.ofInt ((X * 2 ^ 52 + t : Nat) : Int) := by
  rw [Int64.ofInt_eq_ofNat]
  rfl
section BITS
variable {M : PM}
theorem lp_bits1 {nb : UInt64} {fb bias t E : Nat} {Q : Option Value → PM → Prop} (hE : 1000 ≤ E ∧ E ≤ 1050) (ht : t < 2 ^ 52) (hbi : bias = 1023 ∨ bias = 127)
    (hk : Wp k_X9_bitsOf (49, [(0, .double nb), (2, .int (I fb)), (3, .int (I bias)), (4, .double (DD (min E 1023) t)), (6, .int (I ((bias : Int) + E - (min E 1023 : Nat))))], [], M) Q) (n : Nat) : ∀ (E' : Nat), (E' ≤ E ∧ (E' = E ∨ 1023 ≤ E') ∧ E' < 1023 + n) →
    Wp k_X9_bitsOf (17, [(0, .double nb), (2, .int (I fb)), (3, .int (I bias)), (4, .double (DD E' t)), (6, .int (I ((bias : Int) + E - E'))), (7, .int (I ((E : Int) - E')))], [], M) Q := by
  have fin : ∀ E', E' ≤ 1023 → E' ≤ E → (E' = E ∨ 1023 ≤ E') → Wp k_X9_bitsOf (17, [(0, .double nb), (2, .int (I fb)), (3, .int (I bias)), (4, .double (DD E' t)), (6, .int (I ((bias : Int) + E - E'))), (7, .int (I ((E : Int) - E')))], [], M) Q := by
    intro E' h1 h2 h3
    have hc := (DD_cmp (E := E') (K := 1024) (t := t) ⟨by omega, by omega, ht⟩ ok1024).2 (by omega)
    rw [show min E 1023 = E' by omega] at hk
    have hst := fun (_ : True) => hk
    repeat (refine wf rfl ?_; first | refine wq_iadd ?_ | refine wq_isub ?_ | refine wq_imul ?_ | refine wq_iinc rfl ?_ | refine wq_goto ?_ | refine wq_k rfl ?_ | refine wq_b rfl rfl ?_ | refine wq_getf (by assumption) rfl ?_ | refine wq_alen (by assumption) rfl ?_)
    refine wf rfl (wq_ge ⟨by omega, by omega⟩ ⟨by omega, by omega⟩ (fun c9 => by exfalso; omega) (fun _ => ?_))
    repeat (refine wf rfl ?_; first | refine wq_dcmpL hc ?_ | refine wq_iadd ?_ | refine wq_isub ?_ | refine wq_imul ?_ | refine wq_iinc rfl ?_ | refine wq_goto ?_ | refine wq_k rfl ?_ | refine wq_b rfl rfl ?_ | refine wq_getf (by assumption) rfl ?_ | refine wq_alen (by assumption) rfl ?_)
    refine wf rfl (wq_iflt ⟨by omega, by omega⟩ (fun _ => ?_) (fun c9 => by exfalso; omega))
    repeat' (first | (refine Wp.sub (hst  ?_) ⟨rfl, rfl, rfl, rfl, rfl, trivial⟩ rfl) | (refine wf rfl ?_; first | refine wq_iadd ?_ | refine wq_isub ?_ | refine wq_imul ?_ | refine wq_iinc rfl ?_ | refine wq_goto ?_ | refine wq_k rfl ?_ | refine wq_b rfl rfl ?_ | refine wq_getf (by assumption) rfl ?_ | refine wq_alen (by assumption) rfl ?_ | fail | (refine wq_eq ⟨by omega, by omega⟩ ⟨by omega, by omega⟩ (fun _ => ?_) (fun _ => ?_) <;> try (exfalso; omega)) | (refine wq_ne ⟨by omega, by omega⟩ ⟨by omega, by omega⟩ (fun _ => ?_) (fun _ => ?_) <;> try (exfalso; omega)) | (refine wq_lt ⟨by omega, by omega⟩ ⟨by omega, by omega⟩ (fun _ => ?_) (fun _ => ?_) <;> try (exfalso; omega)) | (refine wq_ge ⟨by omega, by omega⟩ ⟨by omega, by omega⟩ (fun _ => ?_) (fun _ => ?_) <;> try (exfalso; omega)) | (refine wq_gt ⟨by omega, by omega⟩ ⟨by omega, by omega⟩ (fun _ => ?_) (fun _ => ?_) <;> try (exfalso; omega)) | (refine wq_le ⟨by omega, by omega⟩ ⟨by omega, by omega⟩ (fun _ => ?_) (fun _ => ?_) <;> try (exfalso; omega)) | (refine wq_ifeq ⟨by omega, by omega⟩ (fun _ => ?_) (fun _ => ?_) <;> try (exfalso; omega)) | (refine wq_ifne ⟨by omega, by omega⟩ (fun _ => ?_) (fun _ => ?_) <;> try (exfalso; omega)) | (refine wq_iflt ⟨by omega, by omega⟩ (fun _ => ?_) (fun _ => ?_) <;> try (exfalso; omega)) | (refine wq_ifge ⟨by omega, by omega⟩ (fun _ => ?_) (fun _ => ?_) <;> try (exfalso; omega)) | (refine wq_ifgt ⟨by omega, by omega⟩ (fun _ => ?_) (fun _ => ?_) <;> try (exfalso; omega)) | (refine wq_ifle ⟨by omega, by omega⟩ (fun _ => ?_) (fun _ => ?_) <;> try (exfalso; omega)) | refine wq_r rfl rfl rfl rfl rfl rfl ?_))
    trivial
  induction n with
  | zero =>
    rintro E' ⟨i1, i2, i3⟩
    exact fin E' (by omega) i1 i2
  | succ n ih =>
    rintro E' ⟨i1, i2, i3⟩
    by_cases h : E' ≤ 1023
    · exact fin E' h i1 i2
    · have ok : okD E' t := ⟨by omega, by omega, ht⟩
      have hc := (DD_cmp (E := E') (K := 1024) (t := t) ok ok1024).1 (by omega)
      have hd := DD_div2 ok (by omega)
      have hst := fun (_ : True) => ih (E' - 1) ⟨by omega, by omega, by omega⟩
      rw [show (((E' - 1 : Nat)) : Int) = (E' : Int) - 1 by omega, show (bias : Int) + E - ((E' : Int) - 1) = (bias : Int) + E - E' + 1 by omega, show (E : Int) - ((E' : Int) - 1) = (E : Int) - E' + 1 by omega] at hst
      repeat (refine wf rfl ?_; first | refine wq_iadd ?_ | refine wq_isub ?_ | refine wq_imul ?_ | refine wq_iinc rfl ?_ | refine wq_goto ?_ | refine wq_k rfl ?_ | refine wq_b rfl rfl ?_ | refine wq_getf (by assumption) rfl ?_ | refine wq_alen (by assumption) rfl ?_)
      refine wf rfl (wq_ge ⟨by omega, by omega⟩ ⟨by omega, by omega⟩ (fun c9 => by exfalso; omega) (fun _ => ?_))
      rcases hc with hc | hc
      · repeat (refine wf rfl ?_; first | refine wq_dcmpG hc ?_ | refine wq_iadd ?_ | refine wq_isub ?_ | refine wq_imul ?_ | refine wq_iinc rfl ?_ | refine wq_goto ?_ | refine wq_k rfl ?_ | refine wq_b rfl rfl ?_ | refine wq_getf (by assumption) rfl ?_ | refine wq_alen (by assumption) rfl ?_)
        refine wf rfl (wq_iflt ⟨by omega, by omega⟩ (fun c9 => by exfalso; omega) (fun _ => ?_))
        repeat' (first | (refine Wp.sub (hst  ?_) ⟨rfl, rfl, rfl, rfl, rfl, rfl, trivial⟩ rfl) | (refine wf rfl ?_; first | refine wq_ddiv hd (DD_nan ⟨by omega, by omega, ht⟩) ?_ | refine wq_iadd ?_ | refine wq_isub ?_ | refine wq_imul ?_ | refine wq_iinc rfl ?_ | refine wq_goto ?_ | refine wq_k rfl ?_ | refine wq_b rfl rfl ?_ | refine wq_getf (by assumption) rfl ?_ | refine wq_alen (by assumption) rfl ?_ | (refine wq_eq ⟨by omega, by omega⟩ ⟨by omega, by omega⟩ (fun _ => ?_) (fun _ => ?_) <;> try (exfalso; omega)) | (refine wq_ne ⟨by omega, by omega⟩ ⟨by omega, by omega⟩ (fun _ => ?_) (fun _ => ?_) <;> try (exfalso; omega)) | (refine wq_lt ⟨by omega, by omega⟩ ⟨by omega, by omega⟩ (fun _ => ?_) (fun _ => ?_) <;> try (exfalso; omega)) | (refine wq_ge ⟨by omega, by omega⟩ ⟨by omega, by omega⟩ (fun _ => ?_) (fun _ => ?_) <;> try (exfalso; omega)) | (refine wq_gt ⟨by omega, by omega⟩ ⟨by omega, by omega⟩ (fun _ => ?_) (fun _ => ?_) <;> try (exfalso; omega)) | (refine wq_le ⟨by omega, by omega⟩ ⟨by omega, by omega⟩ (fun _ => ?_) (fun _ => ?_) <;> try (exfalso; omega)) | (refine wq_ifeq ⟨by omega, by omega⟩ (fun _ => ?_) (fun _ => ?_) <;> try (exfalso; omega)) | (refine wq_ifne ⟨by omega, by omega⟩ (fun _ => ?_) (fun _ => ?_) <;> try (exfalso; omega)) | (refine wq_iflt ⟨by omega, by omega⟩ (fun _ => ?_) (fun _ => ?_) <;> try (exfalso; omega)) | (refine wq_ifge ⟨by omega, by omega⟩ (fun _ => ?_) (fun _ => ?_) <;> try (exfalso; omega)) | (refine wq_ifgt ⟨by omega, by omega⟩ (fun _ => ?_) (fun _ => ?_) <;> try (exfalso; omega)) | (refine wq_ifle ⟨by omega, by omega⟩ (fun _ => ?_) (fun _ => ?_) <;> try (exfalso; omega)) | refine wq_r rfl rfl rfl rfl rfl rfl ?_))
        trivial
      · repeat (refine wf rfl ?_; first | refine wq_dcmpE hc ?_ | refine wq_iadd ?_ | refine wq_isub ?_ | refine wq_imul ?_ | refine wq_iinc rfl ?_ | refine wq_goto ?_ | refine wq_k rfl ?_ | refine wq_b rfl rfl ?_ | refine wq_getf (by assumption) rfl ?_ | refine wq_alen (by assumption) rfl ?_)
        refine wf rfl (wq_iflt ⟨by omega, by omega⟩ (fun c9 => by exfalso; omega) (fun _ => ?_))
        repeat' (first | (refine Wp.sub (hst  ?_) ⟨rfl, rfl, rfl, rfl, rfl, rfl, trivial⟩ rfl) | (refine wf rfl ?_; first | refine wq_ddiv hd (DD_nan ⟨by omega, by omega, ht⟩) ?_ | refine wq_iadd ?_ | refine wq_isub ?_ | refine wq_imul ?_ | refine wq_iinc rfl ?_ | refine wq_goto ?_ | refine wq_k rfl ?_ | refine wq_b rfl rfl ?_ | refine wq_getf (by assumption) rfl ?_ | refine wq_alen (by assumption) rfl ?_ | (refine wq_eq ⟨by omega, by omega⟩ ⟨by omega, by omega⟩ (fun _ => ?_) (fun _ => ?_) <;> try (exfalso; omega)) | (refine wq_ne ⟨by omega, by omega⟩ ⟨by omega, by omega⟩ (fun _ => ?_) (fun _ => ?_) <;> try (exfalso; omega)) | (refine wq_lt ⟨by omega, by omega⟩ ⟨by omega, by omega⟩ (fun _ => ?_) (fun _ => ?_) <;> try (exfalso; omega)) | (refine wq_ge ⟨by omega, by omega⟩ ⟨by omega, by omega⟩ (fun _ => ?_) (fun _ => ?_) <;> try (exfalso; omega)) | (refine wq_gt ⟨by omega, by omega⟩ ⟨by omega, by omega⟩ (fun _ => ?_) (fun _ => ?_) <;> try (exfalso; omega)) | (refine wq_le ⟨by omega, by omega⟩ ⟨by omega, by omega⟩ (fun _ => ?_) (fun _ => ?_) <;> try (exfalso; omega)) | (refine wq_ifeq ⟨by omega, by omega⟩ (fun _ => ?_) (fun _ => ?_) <;> try (exfalso; omega)) | (refine wq_ifne ⟨by omega, by omega⟩ (fun _ => ?_) (fun _ => ?_) <;> try (exfalso; omega)) | (refine wq_iflt ⟨by omega, by omega⟩ (fun _ => ?_) (fun _ => ?_) <;> try (exfalso; omega)) | (refine wq_ifge ⟨by omega, by omega⟩ (fun _ => ?_) (fun _ => ?_) <;> try (exfalso; omega)) | (refine wq_ifgt ⟨by omega, by omega⟩ (fun _ => ?_) (fun _ => ?_) <;> try (exfalso; omega)) | (refine wq_ifle ⟨by omega, by omega⟩ (fun _ => ?_) (fun _ => ?_) <;> try (exfalso; omega)) | refine wq_r rfl rfl rfl rfl rfl rfl ?_))
        trivial
theorem lp_bits2 {nb : UInt64} {fb bias t E : Nat} {ex : Int} {Q : Option Value → PM → Prop} (hE : 1000 ≤ E ∧ E ≤ 1023) (ht : t < 2 ^ 52) (hbi : bias = 1023 ∨ bias = 127)
    (hk : Wp k_X9_bitsOf (82, [(0, .double nb), (2, .int (I fb)), (3, .int (I bias)), (4, .double (DD 1023 t)), (6, .int (I (ex - (1023 - (E : Int)))))], [], M) Q) (n : Nat) : ∀ (E' : Nat), (E ≤ E' ∧ E' ≤ 1023 ∧ 1023 - E' < n + 1) →
    Wp k_X9_bitsOf (52, [(0, .double nb), (2, .int (I fb)), (3, .int (I bias)), (4, .double (DD E' t)), (6, .int (I (ex - ((E' : Int) - E)))), (7, .int (I ((E' : Int) - E)))], [], M) Q := by
  have fin : Wp k_X9_bitsOf (52, [(0, .double nb), (2, .int (I fb)), (3, .int (I bias)), (4, .double (DD 1023 t)), (6, .int (I (ex - (((1023 : Nat) : Int) - E)))), (7, .int (I (((1023 : Nat) : Int) - E)))], [], M) Q := by
    have hc := (DD_cmp (E := 1023) (K := 1023) (t := t) ⟨by omega, by omega, ht⟩ ok1023).1 (by omega)
    have hst := fun (_ : True) => hk
    repeat (refine wf rfl ?_; first | refine wq_iadd ?_ | refine wq_isub ?_ | refine wq_imul ?_ | refine wq_iinc rfl ?_ | refine wq_goto ?_ | refine wq_k rfl ?_ | refine wq_b rfl rfl ?_ | refine wq_getf (by assumption) rfl ?_ | refine wq_alen (by assumption) rfl ?_)
    refine wf rfl (wq_ge ⟨by omega, by omega⟩ ⟨by omega, by omega⟩ (fun c9 => by exfalso; omega) (fun _ => ?_))
    rcases hc with hc | hc
    · repeat (refine wf rfl ?_; first | refine wq_dcmpG hc ?_ | refine wq_iadd ?_ | refine wq_isub ?_ | refine wq_imul ?_ | refine wq_iinc rfl ?_ | refine wq_goto ?_ | refine wq_k rfl ?_ | refine wq_b rfl rfl ?_ | refine wq_getf (by assumption) rfl ?_ | refine wq_alen (by assumption) rfl ?_)
      refine wf rfl (wq_ifge ⟨by omega, by omega⟩ (fun _ => ?_) (fun c9 => by exfalso; omega))
      repeat' (first | (refine Wp.sub (hst  ?_) ⟨rfl, rfl, rfl, rfl, rfl, trivial⟩ rfl) | (refine wf rfl ?_; first | refine wq_iadd ?_ | refine wq_isub ?_ | refine wq_imul ?_ | refine wq_iinc rfl ?_ | refine wq_goto ?_ | refine wq_k rfl ?_ | refine wq_b rfl rfl ?_ | refine wq_getf (by assumption) rfl ?_ | refine wq_alen (by assumption) rfl ?_ | fail | (refine wq_eq ⟨by omega, by omega⟩ ⟨by omega, by omega⟩ (fun _ => ?_) (fun _ => ?_) <;> try (exfalso; omega)) | (refine wq_ne ⟨by omega, by omega⟩ ⟨by omega, by omega⟩ (fun _ => ?_) (fun _ => ?_) <;> try (exfalso; omega)) | (refine wq_lt ⟨by omega, by omega⟩ ⟨by omega, by omega⟩ (fun _ => ?_) (fun _ => ?_) <;> try (exfalso; omega)) | (refine wq_ge ⟨by omega, by omega⟩ ⟨by omega, by omega⟩ (fun _ => ?_) (fun _ => ?_) <;> try (exfalso; omega)) | (refine wq_gt ⟨by omega, by omega⟩ ⟨by omega, by omega⟩ (fun _ => ?_) (fun _ => ?_) <;> try (exfalso; omega)) | (refine wq_le ⟨by omega, by omega⟩ ⟨by omega, by omega⟩ (fun _ => ?_) (fun _ => ?_) <;> try (exfalso; omega)) | (refine wq_ifeq ⟨by omega, by omega⟩ (fun _ => ?_) (fun _ => ?_) <;> try (exfalso; omega)) | (refine wq_ifne ⟨by omega, by omega⟩ (fun _ => ?_) (fun _ => ?_) <;> try (exfalso; omega)) | (refine wq_iflt ⟨by omega, by omega⟩ (fun _ => ?_) (fun _ => ?_) <;> try (exfalso; omega)) | (refine wq_ifge ⟨by omega, by omega⟩ (fun _ => ?_) (fun _ => ?_) <;> try (exfalso; omega)) | (refine wq_ifgt ⟨by omega, by omega⟩ (fun _ => ?_) (fun _ => ?_) <;> try (exfalso; omega)) | (refine wq_ifle ⟨by omega, by omega⟩ (fun _ => ?_) (fun _ => ?_) <;> try (exfalso; omega)) | refine wq_r rfl rfl rfl rfl rfl rfl ?_))
      trivial
    · repeat (refine wf rfl ?_; first | refine wq_dcmpE hc ?_ | refine wq_iadd ?_ | refine wq_isub ?_ | refine wq_imul ?_ | refine wq_iinc rfl ?_ | refine wq_goto ?_ | refine wq_k rfl ?_ | refine wq_b rfl rfl ?_ | refine wq_getf (by assumption) rfl ?_ | refine wq_alen (by assumption) rfl ?_)
      refine wf rfl (wq_ifge ⟨by omega, by omega⟩ (fun _ => ?_) (fun c9 => by exfalso; omega))
      repeat' (first | (refine Wp.sub (hst  ?_) ⟨rfl, rfl, rfl, rfl, rfl, trivial⟩ rfl) | (refine wf rfl ?_; first | refine wq_iadd ?_ | refine wq_isub ?_ | refine wq_imul ?_ | refine wq_iinc rfl ?_ | refine wq_goto ?_ | refine wq_k rfl ?_ | refine wq_b rfl rfl ?_ | refine wq_getf (by assumption) rfl ?_ | refine wq_alen (by assumption) rfl ?_ | fail | (refine wq_eq ⟨by omega, by omega⟩ ⟨by omega, by omega⟩ (fun _ => ?_) (fun _ => ?_) <;> try (exfalso; omega)) | (refine wq_ne ⟨by omega, by omega⟩ ⟨by omega, by omega⟩ (fun _ => ?_) (fun _ => ?_) <;> try (exfalso; omega)) | (refine wq_lt ⟨by omega, by omega⟩ ⟨by omega, by omega⟩ (fun _ => ?_) (fun _ => ?_) <;> try (exfalso; omega)) | (refine wq_ge ⟨by omega, by omega⟩ ⟨by omega, by omega⟩ (fun _ => ?_) (fun _ => ?_) <;> try (exfalso; omega)) | (refine wq_gt ⟨by omega, by omega⟩ ⟨by omega, by omega⟩ (fun _ => ?_) (fun _ => ?_) <;> try (exfalso; omega)) | (refine wq_le ⟨by omega, by omega⟩ ⟨by omega, by omega⟩ (fun _ => ?_) (fun _ => ?_) <;> try (exfalso; omega)) | (refine wq_ifeq ⟨by omega, by omega⟩ (fun _ => ?_) (fun _ => ?_) <;> try (exfalso; omega)) | (refine wq_ifne ⟨by omega, by omega⟩ (fun _ => ?_) (fun _ => ?_) <;> try (exfalso; omega)) | (refine wq_iflt ⟨by omega, by omega⟩ (fun _ => ?_) (fun _ => ?_) <;> try (exfalso; omega)) | (refine wq_ifge ⟨by omega, by omega⟩ (fun _ => ?_) (fun _ => ?_) <;> try (exfalso; omega)) | (refine wq_ifgt ⟨by omega, by omega⟩ (fun _ => ?_) (fun _ => ?_) <;> try (exfalso; omega)) | (refine wq_ifle ⟨by omega, by omega⟩ (fun _ => ?_) (fun _ => ?_) <;> try (exfalso; omega)) | refine wq_r rfl rfl rfl rfl rfl rfl ?_))
      trivial
  induction n with
  | zero =>
    rintro E' ⟨i1, i2, i3⟩
    have : E' = 1023 := by omega
    subst this
    exact fin
  | succ n ih =>
    rintro E' ⟨i1, i2, i3⟩
    by_cases h : E' = 1023
    · subst h
      exact fin
    · have ok : okD E' t := ⟨by omega, by omega, ht⟩
      have hc := (DD_cmp (E := E') (K := 1023) (t := t) ok ok1023).2 (by omega)
      have hd := DD_mulp ok ok1024 (by omega)
      rw [show E' + 1024 - 1023 = E' + 1 by omega] at hd
      have hst := fun (_ : True) => ih (E' + 1) ⟨by omega, by omega, by omega⟩
      rw [show (((E' + 1 : Nat)) : Int) = (E' : Int) + 1 by omega, show ex - ((E' : Int) + 1 - E) = ex - ((E' : Int) - E) + -1 by omega, show (E' : Int) + 1 - E = (E' : Int) - E + 1 by omega] at hst
      repeat (refine wf rfl ?_; first | refine wq_iadd ?_ | refine wq_isub ?_ | refine wq_imul ?_ | refine wq_iinc rfl ?_ | refine wq_goto ?_ | refine wq_k rfl ?_ | refine wq_b rfl rfl ?_ | refine wq_getf (by assumption) rfl ?_ | refine wq_alen (by assumption) rfl ?_)
      refine wf rfl (wq_ge ⟨by omega, by omega⟩ ⟨by omega, by omega⟩ (fun c9 => by exfalso; omega) (fun _ => ?_))
      repeat (refine wf rfl ?_; first | refine wq_dcmpL hc ?_ | refine wq_iadd ?_ | refine wq_isub ?_ | refine wq_imul ?_ | refine wq_iinc rfl ?_ | refine wq_goto ?_ | refine wq_k rfl ?_ | refine wq_b rfl rfl ?_ | refine wq_getf (by assumption) rfl ?_ | refine wq_alen (by assumption) rfl ?_)
      refine wf rfl (wq_ifge ⟨by omega, by omega⟩ (fun c9 => by exfalso; omega) (fun _ => ?_))
      repeat' (first | (refine Wp.sub (hst  ?_) ⟨rfl, rfl, rfl, rfl, rfl, rfl, trivial⟩ rfl) | (refine wf rfl ?_; first | refine wq_dmul hd (DD_nan ⟨by omega, by omega, ht⟩) ?_ | refine wq_iadd ?_ | refine wq_isub ?_ | refine wq_imul ?_ | refine wq_iinc rfl ?_ | refine wq_goto ?_ | refine wq_k rfl ?_ | refine wq_b rfl rfl ?_ | refine wq_getf (by assumption) rfl ?_ | refine wq_alen (by assumption) rfl ?_ | (refine wq_eq ⟨by omega, by omega⟩ ⟨by omega, by omega⟩ (fun _ => ?_) (fun _ => ?_) <;> try (exfalso; omega)) | (refine wq_ne ⟨by omega, by omega⟩ ⟨by omega, by omega⟩ (fun _ => ?_) (fun _ => ?_) <;> try (exfalso; omega)) | (refine wq_lt ⟨by omega, by omega⟩ ⟨by omega, by omega⟩ (fun _ => ?_) (fun _ => ?_) <;> try (exfalso; omega)) | (refine wq_ge ⟨by omega, by omega⟩ ⟨by omega, by omega⟩ (fun _ => ?_) (fun _ => ?_) <;> try (exfalso; omega)) | (refine wq_gt ⟨by omega, by omega⟩ ⟨by omega, by omega⟩ (fun _ => ?_) (fun _ => ?_) <;> try (exfalso; omega)) | (refine wq_le ⟨by omega, by omega⟩ ⟨by omega, by omega⟩ (fun _ => ?_) (fun _ => ?_) <;> try (exfalso; omega)) | (refine wq_ifeq ⟨by omega, by omega⟩ (fun _ => ?_) (fun _ => ?_) <;> try (exfalso; omega)) | (refine wq_ifne ⟨by omega, by omega⟩ (fun _ => ?_) (fun _ => ?_) <;> try (exfalso; omega)) | (refine wq_iflt ⟨by omega, by omega⟩ (fun _ => ?_) (fun _ => ?_) <;> try (exfalso; omega)) | (refine wq_ifge ⟨by omega, by omega⟩ (fun _ => ?_) (fun _ => ?_) <;> try (exfalso; omega)) | (refine wq_ifgt ⟨by omega, by omega⟩ (fun _ => ?_) (fun _ => ?_) <;> try (exfalso; omega)) | (refine wq_ifle ⟨by omega, by omega⟩ (fun _ => ?_) (fun _ => ?_) <;> try (exfalso; omega)) | refine wq_r rfl rfl rfl rfl rfl rfl ?_))
      trivial
end BITS
