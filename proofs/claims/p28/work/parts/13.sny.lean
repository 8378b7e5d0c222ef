/-! From the rows of a resolved code to what each step asks. -/
theorem and1 {a b : Bool} (h : (a && b) = true) : a = true := (Bool.and_eq_true_iff.mp h).1
theorem and2 {a b : Bool} (h : (a && b) = true) : b = true := (Bool.and_eq_true_iff.mp h).2
def isSw : Instr → Bool
  | .tableswitch _ _ _ _ => true
  | .lookupswitch _ _ => true
  | _ => false
section SNY
variable {q : MI} {pc ln nx tg r1 r2 r3 : Nat} {i : Instr}
theorem okE_dec (h : okE q (pc, i, ln, nx, tg, r1, r2, r3) = true) : decode q.2.1 pc = .ok (i, ln) ∧ nx = pc + ln := by
  unfold okE at h
  exact ⟨of_decide_eq_true (and1 (and1 h)), Nat.eq_of_beq_eq_true (and2 (and1 h))⟩
theorem okE_len (h : okE q (pc, i, ln, nx, tg, r1, r2, r3) = true) (hs : isSw i = false) : ln = sLen i := by
  unfold okE at h
  have h := and2 h
  cases i <;> first
    | exact Nat.eq_of_beq_eq_true h
    | exact Nat.eq_of_beq_eq_true (and1 h)
    | exact Nat.eq_of_beq_eq_true (and1 (and1 h))
    | exact Nat.eq_of_beq_eq_true (and1 (and1 (and1 h)))
    | cases hs
theorem okE_B (h : okE q (pc, i, ln, nx, tg, r1, r2, r3) = true) : okB i q.2.2.1 := by
  unfold okE at h
  have h := and2 h
  cases i <;> first
    | trivial
    | exact Nat.blt_eq.mp (and2 h)
theorem okE_G (h : okE q (pc, i, ln, nx, tg, r1, r2, r3) = true) : okG i pc tg := by
  unfold okE at h
  have h := and2 h
  cases i <;> first
    | trivial
    | (have hq := of_decide_eq_true (and2 h); exact hq)
theorem okE_S (h : okE q (pc, i, ln, nx, tg, r1, r2, r3) = true) : okS i := by
  unfold okE at h
  have h := and2 h
  cases i <;> first
    | trivial
    | exact h
variable {s : State} {args : Array Value}
theorem any5 {l : List (Nat × Nat × Nat × Nat × Nat)} {a b c d : Nat} (h : l.any (fun t => Nat.beq t.1 a && Nat.beq t.2.1 b && Nat.beq t.2.2.1 c && Nat.beq t.2.2.2.1 d) = true) : ∃ x, (a, b, c, d, x) ∈ l := by
  obtain ⟨⟨t1, t2, t3, t4, t5⟩, ht, hq⟩ := List.any_eq_true.mp h
  have e1 := Nat.eq_of_beq_eq_true (and1 (and1 (and1 hq)))
  have e2 := Nat.eq_of_beq_eq_true (and2 (and1 (and1 hq)))
  have e3 := Nat.eq_of_beq_eq_true (and2 (and1 hq))
  have e4 := Nat.eq_of_beq_eq_true (and2 hq)
  dsimp only at e1 e2 e3 e4
  subst e1; subst e2; subst e3; subst e4
  exact ⟨t5, ht⟩
theorem any7 {l : List (Nat × Nat × Nat × Nat × Nat × Nat × Nat)} {a b c d : Nat} (h : l.any (fun t => Nat.beq t.1 a && Nat.beq t.2.1 b && Nat.beq t.2.2.1 c && Nat.beq t.2.2.2.1 d) = true) : ∃ x, (a, b, c, d, x) ∈ l := by
  obtain ⟨⟨t1, t2, t3, t4, t5⟩, ht, hq⟩ := List.any_eq_true.mp h
  have e1 := Nat.eq_of_beq_eq_true (and1 (and1 (and1 hq)))
  have e2 := Nat.eq_of_beq_eq_true (and2 (and1 (and1 hq)))
  have e3 := Nat.eq_of_beq_eq_true (and2 (and1 hq))
  have e4 := Nat.eq_of_beq_eq_true (and2 hq)
  dsimp only at e1 e2 e3 e4
  subst e1; subst e2; subst e3; subst e4
  exact ⟨t5, ht⟩
theorem any11 {l : List (Nat × Nat × Nat × Nat × Nat × Nat × Nat × Nat × Nat × Nat × Nat)} {a b c d e f : Nat} (h : l.any (fun t => Nat.beq t.1 a && Nat.beq t.2.1 b && Nat.beq t.2.2.1 c && Nat.beq t.2.2.2.1 d && Nat.beq t.2.2.2.2.1 e && Nat.beq t.2.2.2.2.2.1 f) = true) : ∃ x, (a, b, c, d, e, f, x) ∈ l := by
  obtain ⟨⟨t1, t2, t3, t4, t5, t6, t7⟩, ht, hq⟩ := List.any_eq_true.mp h
  have e1 := Nat.eq_of_beq_eq_true (and1 (and1 (and1 (and1 (and1 hq)))))
  have e2 := Nat.eq_of_beq_eq_true (and2 (and1 (and1 (and1 (and1 hq)))))
  have e3 := Nat.eq_of_beq_eq_true (and2 (and1 (and1 (and1 hq))))
  have e4 := Nat.eq_of_beq_eq_true (and2 (and1 (and1 hq)))
  have e5 := Nat.eq_of_beq_eq_true (and2 (and1 hq))
  have e6 := Nat.eq_of_beq_eq_true (and2 hq)
  dsimp only at e1 e2 e3 e4 e5 e6
  subst e1; subst e2; subst e3; subst e4; subst e5; subst e6
  exact ⟨t7, ht⟩
theorem okE_C (ho : own q.2.2.2.2.2.1 = q.1.cls) (hts : ∀ w ∈ gw, w.before args s = true) (h : okE q (pc, i, ln, nx, tg, r1, r2, r3) = true) : okC i r1 r2 args s q.1.cls := by
  unfold okE at h
  have h := and2 h
  rw [← ho]
  cases i <;> try trivial
  · have hq := of_decide_eq_true (and2 h)
    exact hq
  · obtain ⟨x, hx⟩ := any5 (and2 h)
    have hk := List.all_eq_true.mp csl_ok _ hx
    intro hr
    subst hr
    exact hts _ (wAt_in hk)
  · obtain ⟨x, hx⟩ := any5 (and2 h)
    have hk := List.all_eq_true.mp csl_ok _ hx
    refine ⟨fun hr => ?_, fun hr => ?_⟩ <;> subst hr <;> exact hts _ (wAt_in hk)
  · have hq := of_decide_eq_true (and2 h)
    exact hq
theorem okE_F (ho : own q.2.2.2.2.2.1 = q.1.cls) (hts : ∀ w ∈ gw, w.before args s = true) (h : okE q (pc, i, ln, nx, tg, r1, r2, r3) = true) : okF i r1 r2 args s q := by
  unfold okE at h
  have h := and2 h
  have fd : ∀ ix, fdl.any (fun t => Nat.beq t.1 q.2.2.2.2.2.1 && Nat.beq t.2.1 ix && Nat.beq t.2.2.1 r1 && Nat.beq t.2.2.2.1 r2) = true → r1 < 10 ∧ r2 < (vcl r1).2.2 ∧ (Cond.fieldLink q.1.cls ix ((vcl r1).2.1 r2).1 ((vcl r1).2.1 r2).2.1 ((vcl r1).2.1 r2).2.2.1).before args s = true := by
    intro ix h
    obtain ⟨x, hx⟩ := any5 h
    have hk := List.all_eq_true.mp fdl_ok _ hx
    unfold fdOk at hk
    have k1 := hts _ (wAt_in (and1 (and1 hk)))
    have k2 := of_decide_eq_true (and2 (and1 hk))
    have k3 := of_decide_eq_true (and2 hk)
    dsimp only at k1 k2 k3
    rw [ho] at k1
    exact ⟨k3, k2, k1⟩
  have nw : ∀ ix kd, nwl.any (fun t => Nat.beq t.1 q.2.2.2.2.2.1 && Nat.beq t.2.1 ix && Nat.beq t.2.2.1 r1 && Nat.beq t.2.2.2.1 kd) = true → ∃ x, nwOk (q.2.2.2.2.2.1, ix, r1, kd, x) = true := by
    intro ix kd h
    obtain ⟨x, hx⟩ := any7 h
    exact ⟨x, List.all_eq_true.mp nwl_ok _ hx⟩
  cases i <;> try trivial
  · obtain ⟨x, hk⟩ := nw _ _ (and2 h)
    unfold nwOk at hk
    have k1 := hts _ (wAt_in (and1 (and1 hk)))
    have k3 := of_decide_eq_true (and2 hk)
    rw [ho] at k1
    rcases k3 with k3 | k3 <;> subst k3
    · exact Or.inl ⟨rfl, k1⟩
    · exact Or.inr ⟨rfl, k1⟩
  · exact fd _ (and2 h)
  · obtain ⟨x, hk⟩ := nw _ _ (and2 h)
    unfold nwOk at hk
    have k1 := hts _ (wAt_in (and1 (and1 (and1 hk))))
    have k2 := hts _ (wAt_in (and2 (and1 (and1 hk))))
    have k3 := hts _ (wAt_in (and2 (and1 hk)))
    have k4 := of_decide_eq_true (and2 hk)
    rw [ho] at k1
    exact ⟨k4, k1, k2, k3⟩
  · obtain ⟨f1, f2, f3⟩ := fd _ (and2 (and1 h))
    refine ⟨f1, f2, f3, fun hf => ?_⟩
    have hq := and2 h
    rw [hf] at hq
    have hq : (decide (q.1.name = "<init>") && decide (((vcl r1).2.1 r2).1 = q.1.cls)) = true := hq
    exact ⟨of_decide_eq_true (and1 hq), of_decide_eq_true (and2 hq)⟩
theorem cll_of {ix : Nat} (h : cll.any (fun t => Nat.beq t.1 q.2.2.2.2.2.1 && Nat.beq t.2.1 ix && Nat.beq t.2.2.1 tg && Nat.beq t.2.2.2.1 r1 && Nat.beq t.2.2.2.2.1 r2 && Nat.beq t.2.2.2.2.2.1 r3) = true) : ∃ x, (q.2.2.2.2.2.1, ix, tg, r1, r2, r3, x) ∈ cll ∧ clOk (q.2.2.2.2.2.1, ix, tg, r1, r2, r3, x) = true := by
  obtain ⟨x, hx⟩ := any11 h
  exact ⟨x, hx, List.all_eq_true.mp cll_ok _ hx⟩
theorem okE_N (ho : own q.2.2.2.2.2.1 = q.1.cls) (hts : ∀ w ∈ gw, w.before args s = true) (h : okE q (pc, i, ln, nx, tg, r1, r2, r3) = true) : okN i tg args s q := by
  unfold okE at h
  have h := and2 h
  cases i <;> try trivial
  · obtain ⟨x, -, hk⟩ := cll_of (and2 (and1 (and1 h)))
    intro ht
    subst ht
    unfold clOk at hk
    have k1 := hts _ (wAt_in (and1 (and1 hk)))
    have k2 := hts _ (wAt_in (and2 (and1 hk)))
    have k3 := hts _ (wAt_in (and2 hk))
    rw [ho] at k1
    exact ⟨k1, k3, k2⟩
  · obtain ⟨x, -, hk⟩ := cll_of (and2 (and1 (and1 h)))
    refine ⟨fun ht => ?_, fun ht => ?_, fun ht => ?_⟩ <;> subst ht <;> unfold clOk at hk <;> (
      have k1 := hts _ (wAt_in (and1 (and1 (and1 hk))))
      have k2 := hts _ (wAt_in (and2 (and1 (and1 hk))))
      have k3 := hts _ (wAt_in (and2 (and1 hk)))
      have k4 := hts _ (wAt_in (and2 hk))
      rw [ho] at k1
      exact ⟨k1, k2, k4, k3⟩)
end SNY
