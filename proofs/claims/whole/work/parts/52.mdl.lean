/-! The Model's cells (class PairGrammarsModel): its object at m, its arrays behind it. -/
theorem wq_lcmp {c : MM} {ln nx tg r1 r2 r3 pc : Nat} {lv : LV} {r : List Value} {M : PM} {Q : Option Value → PM → Prop} {x y : Int64} (k : ∀ z : Int, ((z = 1 ∧ y.toInt < x.toInt) ∨ (z = 0 ∧ x.toInt = y.toInt) ∨ (z = -1 ∧ x.toInt < y.toInt)) → Wp c (nx, lv, .int (I z) :: r, M) Q) : Wq c (.lcmp, ln, nx, tg, r1, r2, r3) pc lv (.long y :: .long x :: r) M Q := by
  refine wq_k (sk' := .int (lg_cmp x y) :: r) rfl ?_
  unfold lg_cmp
  by_cases h : y.toInt < x.toInt
  · rw [if_pos (show x > y from Int64.lt_iff_toInt_lt.mpr h)]
    exact k 1 (Or.inl ⟨rfl, h⟩)
  · rw [if_neg (show ¬ x > y from fun z => h (Int64.lt_iff_toInt_lt.mp z))]
    by_cases h2 : x.toInt = y.toInt
    · rw [if_pos (Int64.toInt_inj.mp h2)]
      exact k 0 (Or.inr (Or.inl ⟨rfl, h2⟩))
    · rw [if_neg (fun z => h2 (by rw [z]))]
      exact k (-1) (Or.inr (Or.inr ⟨rfl, by omega⟩))
theorem L_int {x : Int} (h : inR x) : (I x).toInt64.toInt = x := by
  rw [Int32.toInt_toInt64]
  exact Int32.toInt_ofInt_of_le h.1 h.2
theorem L_sub1 {x : Int} (h : inR x) : ((I x).toInt64 - Int64.ofNat 1).toInt = x - 1 := by
  obtain ⟨h1, h2⟩ := id h
  rw [Int64.toInt_sub, L_int h, show (Int64.ofNat 1).toInt = 1 from rfl]
  exact Int.bmod_eq_of_le_mul_two (by omega) (by omega)
theorem c_Md_in {M : PM} {a b d : Int64} : Wm 123 [.long a, .long b, .long d] M (fun v M' => v = some (.int (I (if b.toInt ≤ a.toInt ∧ a.toInt ≤ d.toInt then 1 else 0))) ∧ M' = M) := by
  refine wm_in (lv := _) rfl rfl rfl ?_
  repeat' (refine wf rfl ?_; first | refine wq_lcmp (fun z hz => ?_) | refine wq_iadd ?_ | refine wq_isub ?_ | refine wq_imul ?_ | refine wq_iinc rfl ?_ | refine wq_goto ?_ | refine wq_k rfl ?_ | refine wq_b rfl rfl ?_ | refine wq_getf (by assumption) rfl ?_ | refine wq_alen (by assumption) rfl ?_ | (refine wq_eq ⟨by omega, by omega⟩ ⟨by omega, by omega⟩ (fun _ => ?_) (fun _ => ?_) <;> try (exfalso; omega)) | (refine wq_ne ⟨by omega, by omega⟩ ⟨by omega, by omega⟩ (fun _ => ?_) (fun _ => ?_) <;> try (exfalso; omega)) | (refine wq_lt ⟨by omega, by omega⟩ ⟨by omega, by omega⟩ (fun _ => ?_) (fun _ => ?_) <;> try (exfalso; omega)) | (refine wq_ge ⟨by omega, by omega⟩ ⟨by omega, by omega⟩ (fun _ => ?_) (fun _ => ?_) <;> try (exfalso; omega)) | (refine wq_gt ⟨by omega, by omega⟩ ⟨by omega, by omega⟩ (fun _ => ?_) (fun _ => ?_) <;> try (exfalso; omega)) | (refine wq_le ⟨by omega, by omega⟩ ⟨by omega, by omega⟩ (fun _ => ?_) (fun _ => ?_) <;> try (exfalso; omega)) | (refine wq_ifeq ⟨by omega, by omega⟩ (fun _ => ?_) (fun _ => ?_) <;> try (exfalso; omega)) | (refine wq_ifne ⟨by omega, by omega⟩ (fun _ => ?_) (fun _ => ?_) <;> try (exfalso; omega)) | (refine wq_iflt ⟨by omega, by omega⟩ (fun _ => ?_) (fun _ => ?_) <;> try (exfalso; omega)) | (refine wq_ifge ⟨by omega, by omega⟩ (fun _ => ?_) (fun _ => ?_) <;> try (exfalso; omega)) | (refine wq_ifgt ⟨by omega, by omega⟩ (fun _ => ?_) (fun _ => ?_) <;> try (exfalso; omega)) | (refine wq_ifle ⟨by omega, by omega⟩ (fun _ => ?_) (fun _ => ?_) <;> try (exfalso; omega)) | refine wq_r rfl rfl rfl rfl rfl rfl ?_)
  · exact ⟨by rw [if_neg (by omega)], rfl⟩
  · exact ⟨by rw [if_neg (by omega)], rfl⟩
  · exact ⟨by rw [if_pos (by omega)], rfl⟩
abbrev MO (M : PM) (m : Nat) (hl si re pl sp : Int) : Prop := M[m]? = some (.inr (10, [.ref (m + 1), .ref (m + 2), .ref (m + 3), .ref (m + 4), .int (I hl), .ref (m + 5), .ref (m + 6), .ref (m + 7), .ref (m + 8), .ref (m + 9), .ref (m + 10), .ref (m + 11), .ref (m + 12), .ref (m + 13), .int (I si), .int (I re), .ref (m + 14), .int (I pl), .int (I sp)]))
/-- a row of symbols that stands in an array from o on: its length first -/
def Rf (f : Nat → Int) (o : Nat) (xs : List Int) : Prop := f o = xs.length ∧ xs.length ≤ 80 ∧ ∀ k, k < xs.length → xs[k]? = some (f (o + 1 + k))
/-- a grammar in an array from o on -/
def Ga (f : Nat → Int) (o : Nat) (G : GS) : Prop := f (o + 2187) = G.1.length ∧ G.1.length ≤ 26 ∧ (∀ k, k < G.1.length → Rf f (o + 81 * k) (xof G.1 k)) ∧ Rf f (o + 2106) G.2
def rwG (G : GS) (r : Int) : List Int := if r = 26 then G.2 else xof G.1 r.toNat
def vrG (G : GS) (r : Int) : Prop := r = 26 ∨ (0 ≤ r ∧ r < G.1.length)
def rwN (G : GS) (k : Int) : Int := if k < G.1.length then k else 26
theorem vrN {G : GS} {k : Int} (h : 0 ≤ k) : vrG G (rwN G k) := by
  unfold vrG rwN
  split <;> omega
theorem vrM (G : GS) : vrG G 26 := Or.inl rfl
theorem rwM (G : GS) : rwG G 26 = G.2 := if_pos rfl
theorem Rf.at {f : Nat → Int} {o : Nat} {xs : List Int} (h : Rf f o xs) {p : Int} (h0 : 0 ≤ p) (h1 : p < xs.length) : f (o + 1 + p.toNat) = rat xs p := by
  rw [rat_in h0 (h.2.2 p.toNat (by omega))]
theorem Ga.row {f : Nat → Int} {G : GS} (h : Ga f 0 G) {r : Int} (hr : vrG G r) : 0 ≤ r ∧ r ≤ 26 ∧ f (81 * r).toNat = ((rwG G r).length : Int) ∧ (rwG G r).length ≤ 80 ∧ ∀ p : Int, 0 ≤ p → p < (rwG G r).length → f (81 * r + 1 + p).toNat = rat (rwG G r) p := by
  obtain ⟨h1, h2, h3, h4⟩ := h
  rcases hr with rfl | ⟨q1, q2⟩
  · rw [rwM]
    refine ⟨by omega, by omega, h4.1, h4.2.1, fun p p0 p1 => ?_⟩
    rw [← h4.at p0 p1]
    congr 1
    omega
  · have h5 := h3 r.toNat (by omega)
    have e : rwG G r = xof G.1 r.toNat := if_neg (by omega)
    rw [e]
    refine ⟨by omega, by omega, ?_, h5.2.1, fun p p0 p1 => ?_⟩
    · rw [← h5.1]
      congr 1
      omega
    · rw [← h5.at p0 p1]
      congr 1
      omega
theorem Ga.cnt {f : Nat → Int} {G : GS} (h : Ga f 0 G) : f 2187 = G.1.length ∧ G.1.length ≤ 26 := ⟨by have := h.1; rwa [Nat.zero_add] at this, h.2.1⟩
/-- the Model's grammar is G -/
def Mr (M : PM) (m : Nat) (G : GS) : Prop := (∃ hl si re pl sp, MO M m hl si re pl sp) ∧ ∃ f, M[m + 1]? = some (aJ 2188 f) ∧ Ga f 0 G
theorem Mr.fr {P : Nat → Prop} {M M' : PM} {m : Nat} {G : GS} (h : Mr M m G) (k : Fr P M M') (h1 : ¬ P m) (h2 : ¬ P (m + 1)) : Mr M' m G := by
  obtain ⟨⟨a, b, c, d, e, h3⟩, f, h4, h5⟩ := h
  exact ⟨⟨a, b, c, d, e, k.at h1 h3⟩, f, k.at h2 h4, h5⟩
theorem WFG.sbr {G : GS} (h : WFG G) (hN : G.1.length ≤ 26) {r : Int} (hr : vrG G r) : SB (rwG G r) := by
  unfold rwG
  split
  · exact h.2.1.sb hN
  · rename_i he
    have hr2 := hr.resolve_left he
    exact h.1.sb (k := r.toNat) (by omega) hN
section MD1
variable {M : PM} {m : Nat} {G : GS}
theorem Mr.le (h : Mr M m G) : G.1.length ≤ 26 := by
  obtain ⟨-, f, -, h5⟩ := h
  exact h5.2.1
theorem Mr.rl (h : Mr M m G) {r : Int} (hr : vrG G r) : 0 ≤ r ∧ r ≤ 26 ∧ (rwG G r).length ≤ 80 := by
  obtain ⟨-, f, -, h5⟩ := h
  have := h5.row hr
  exact ⟨this.1, this.2.1, this.2.2.2.1⟩
theorem c_Md_rowLong {r : Int} (h : Mr M m G) (hr : vrG G r) : Wm 126 [.ref m, .int (I r)] M (fun v M' => v = some (.int (I ((rwG G r).length : Nat))) ∧ M' = M) := by
  obtain ⟨⟨hl, si, re, pl, sp, hO⟩, f, hA, hG⟩ := h
  have g := hG.row hr
  refine wm_in (lv := _) rfl rfl rfl ?_
  repeat' (refine wf rfl ?_; first | refine wq_iadd ?_ | refine wq_isub ?_ | refine wq_imul ?_ | refine wq_iinc rfl ?_ | refine wq_goto ?_ | refine wq_k rfl ?_ | refine wq_b rfl rfl ?_ | refine wq_getf (by assumption) rfl ?_ | refine wq_alen (by assumption) rfl ?_ | refine wq_iald hA ⟨by omega, by omega⟩ (by omega) (by omega) ?_ | (refine wq_eq ⟨by omega, by omega⟩ ⟨by omega, by omega⟩ (fun _ => ?_) (fun _ => ?_) <;> try (exfalso; omega)) | (refine wq_ne ⟨by omega, by omega⟩ ⟨by omega, by omega⟩ (fun _ => ?_) (fun _ => ?_) <;> try (exfalso; omega)) | (refine wq_lt ⟨by omega, by omega⟩ ⟨by omega, by omega⟩ (fun _ => ?_) (fun _ => ?_) <;> try (exfalso; omega)) | (refine wq_ge ⟨by omega, by omega⟩ ⟨by omega, by omega⟩ (fun _ => ?_) (fun _ => ?_) <;> try (exfalso; omega)) | (refine wq_gt ⟨by omega, by omega⟩ ⟨by omega, by omega⟩ (fun _ => ?_) (fun _ => ?_) <;> try (exfalso; omega)) | (refine wq_le ⟨by omega, by omega⟩ ⟨by omega, by omega⟩ (fun _ => ?_) (fun _ => ?_) <;> try (exfalso; omega)) | (refine wq_ifeq ⟨by omega, by omega⟩ (fun _ => ?_) (fun _ => ?_) <;> try (exfalso; omega)) | (refine wq_ifne ⟨by omega, by omega⟩ (fun _ => ?_) (fun _ => ?_) <;> try (exfalso; omega)) | (refine wq_iflt ⟨by omega, by omega⟩ (fun _ => ?_) (fun _ => ?_) <;> try (exfalso; omega)) | (refine wq_ifge ⟨by omega, by omega⟩ (fun _ => ?_) (fun _ => ?_) <;> try (exfalso; omega)) | (refine wq_ifgt ⟨by omega, by omega⟩ (fun _ => ?_) (fun _ => ?_) <;> try (exfalso; omega)) | (refine wq_ifle ⟨by omega, by omega⟩ (fun _ => ?_) (fun _ => ?_) <;> try (exfalso; omega)) | refine wq_r rfl rfl rfl rfl rfl rfl ?_)
  exact ⟨by rw [g.2.2.1], rfl⟩
theorem c_Md_at {r p : Int} (h : Mr M m G) (hr : vrG G r) (h0 : 0 ≤ p) (h1 : p < (rwG G r).length) : Wm 127 [.ref m, .int (I r), .int (I p)] M (fun v M' => v = some (.int (I (rat (rwG G r) p))) ∧ M' = M) := by
  obtain ⟨⟨hl, si, re, pl, sp, hO⟩, f, hA, hG⟩ := h
  have g := hG.row hr
  refine wm_in (lv := _) rfl rfl rfl ?_
  repeat' (refine wf rfl ?_; first | refine wq_iadd ?_ | refine wq_isub ?_ | refine wq_imul ?_ | refine wq_iinc rfl ?_ | refine wq_goto ?_ | refine wq_k rfl ?_ | refine wq_b rfl rfl ?_ | refine wq_getf (by assumption) rfl ?_ | refine wq_alen (by assumption) rfl ?_ | refine wq_iald hA ⟨by omega, by omega⟩ (by omega) (by omega) ?_ | (refine wq_eq ⟨by omega, by omega⟩ ⟨by omega, by omega⟩ (fun _ => ?_) (fun _ => ?_) <;> try (exfalso; omega)) | (refine wq_ne ⟨by omega, by omega⟩ ⟨by omega, by omega⟩ (fun _ => ?_) (fun _ => ?_) <;> try (exfalso; omega)) | (refine wq_lt ⟨by omega, by omega⟩ ⟨by omega, by omega⟩ (fun _ => ?_) (fun _ => ?_) <;> try (exfalso; omega)) | (refine wq_ge ⟨by omega, by omega⟩ ⟨by omega, by omega⟩ (fun _ => ?_) (fun _ => ?_) <;> try (exfalso; omega)) | (refine wq_gt ⟨by omega, by omega⟩ ⟨by omega, by omega⟩ (fun _ => ?_) (fun _ => ?_) <;> try (exfalso; omega)) | (refine wq_le ⟨by omega, by omega⟩ ⟨by omega, by omega⟩ (fun _ => ?_) (fun _ => ?_) <;> try (exfalso; omega)) | (refine wq_ifeq ⟨by omega, by omega⟩ (fun _ => ?_) (fun _ => ?_) <;> try (exfalso; omega)) | (refine wq_ifne ⟨by omega, by omega⟩ (fun _ => ?_) (fun _ => ?_) <;> try (exfalso; omega)) | (refine wq_iflt ⟨by omega, by omega⟩ (fun _ => ?_) (fun _ => ?_) <;> try (exfalso; omega)) | (refine wq_ifge ⟨by omega, by omega⟩ (fun _ => ?_) (fun _ => ?_) <;> try (exfalso; omega)) | (refine wq_ifgt ⟨by omega, by omega⟩ (fun _ => ?_) (fun _ => ?_) <;> try (exfalso; omega)) | (refine wq_ifle ⟨by omega, by omega⟩ (fun _ => ?_) (fun _ => ?_) <;> try (exfalso; omega)) | refine wq_r rfl rfl rfl rfl rfl rfl ?_)
  exact ⟨by rw [g.2.2.2.2 p h0 h1], rfl⟩
theorem c_Md_isRule {r : Int} (hr : inR r) (h : Mr M m G) : Wm 128 [.ref m, .int (I r)] M (fun v M' => v = some (.int (I (if 0 ≤ r ∧ r < G.1.length then 1 else 0))) ∧ M' = M) := by
  obtain ⟨⟨hl, si, re, pl, sp, hO⟩, f, hA, hG⟩ := h
  have g := hG.cnt
  have e0 : (Int64.ofNat 0).toInt = 0 := rfl
  have hc := c_Md_in (M := M) (a := (I r).toInt64) (b := Int64.ofNat 0) (d := (I (f 2187)).toInt64 - Int64.ofNat 1)
  have hq : (if (Int64.ofNat 0).toInt ≤ (I r).toInt64.toInt ∧ (I r).toInt64.toInt ≤ ((I (f 2187)).toInt64 - Int64.ofNat 1).toInt then (1 : Int) else 0) = if 0 ≤ r ∧ r < G.1.length then 1 else 0 := by
    rw [L_int hr, L_sub1 ⟨by omega, by omega⟩, e0, g.1]
    by_cases q : 0 ≤ r ∧ r < G.1.length
    · rw [if_pos (by omega), if_pos q]
    · rw [if_neg (by omega), if_neg q]
  rw [hq] at hc
  refine wm_in (lv := _) rfl rfl rfl ?_
  repeat' (refine wf rfl ?_; first | refine wq_iadd ?_ | refine wq_isub ?_ | refine wq_imul ?_ | refine wq_iinc rfl ?_ | refine wq_goto ?_ | refine wq_k rfl ?_ | refine wq_b rfl rfl ?_ | refine wq_getf (by assumption) rfl ?_ | refine wq_alen (by assumption) rfl ?_ | refine wq_iald hA ⟨by omega, by omega⟩ (by omega) (by omega) ?_ | (refine wq_eq ⟨by omega, by omega⟩ ⟨by omega, by omega⟩ (fun _ => ?_) (fun _ => ?_) <;> try (exfalso; omega)) | (refine wq_ne ⟨by omega, by omega⟩ ⟨by omega, by omega⟩ (fun _ => ?_) (fun _ => ?_) <;> try (exfalso; omega)) | (refine wq_lt ⟨by omega, by omega⟩ ⟨by omega, by omega⟩ (fun _ => ?_) (fun _ => ?_) <;> try (exfalso; omega)) | (refine wq_ge ⟨by omega, by omega⟩ ⟨by omega, by omega⟩ (fun _ => ?_) (fun _ => ?_) <;> try (exfalso; omega)) | (refine wq_gt ⟨by omega, by omega⟩ ⟨by omega, by omega⟩ (fun _ => ?_) (fun _ => ?_) <;> try (exfalso; omega)) | (refine wq_le ⟨by omega, by omega⟩ ⟨by omega, by omega⟩ (fun _ => ?_) (fun _ => ?_) <;> try (exfalso; omega)) | (refine wq_ifeq ⟨by omega, by omega⟩ (fun _ => ?_) (fun _ => ?_) <;> try (exfalso; omega)) | (refine wq_ifne ⟨by omega, by omega⟩ (fun _ => ?_) (fun _ => ?_) <;> try (exfalso; omega)) | (refine wq_iflt ⟨by omega, by omega⟩ (fun _ => ?_) (fun _ => ?_) <;> try (exfalso; omega)) | (refine wq_ifge ⟨by omega, by omega⟩ (fun _ => ?_) (fun _ => ?_) <;> try (exfalso; omega)) | (refine wq_ifgt ⟨by omega, by omega⟩ (fun _ => ?_) (fun _ => ?_) <;> try (exfalso; omega)) | (refine wq_ifle ⟨by omega, by omega⟩ (fun _ => ?_) (fun _ => ?_) <;> try (exfalso; omega)) | refine wq_r rfl rfl rfl rfl rfl rfl ?_)
  refine wf rfl (wq_cs rfl rfl (hc.mono ?_))
  rintro v M ⟨rfl, rfl⟩
  by_cases q : 0 ≤ r ∧ r < G.1.length
  · rw [if_pos q]
    repeat' (refine wf rfl ?_; first | refine wq_iadd ?_ | refine wq_isub ?_ | refine wq_imul ?_ | refine wq_iinc rfl ?_ | refine wq_goto ?_ | refine wq_k rfl ?_ | refine wq_b rfl rfl ?_ | refine wq_getf (by assumption) rfl ?_ | refine wq_alen (by assumption) rfl ?_ | (refine wq_eq ⟨by omega, by omega⟩ ⟨by omega, by omega⟩ (fun _ => ?_) (fun _ => ?_) <;> try (exfalso; omega)) | (refine wq_ne ⟨by omega, by omega⟩ ⟨by omega, by omega⟩ (fun _ => ?_) (fun _ => ?_) <;> try (exfalso; omega)) | (refine wq_lt ⟨by omega, by omega⟩ ⟨by omega, by omega⟩ (fun _ => ?_) (fun _ => ?_) <;> try (exfalso; omega)) | (refine wq_ge ⟨by omega, by omega⟩ ⟨by omega, by omega⟩ (fun _ => ?_) (fun _ => ?_) <;> try (exfalso; omega)) | (refine wq_gt ⟨by omega, by omega⟩ ⟨by omega, by omega⟩ (fun _ => ?_) (fun _ => ?_) <;> try (exfalso; omega)) | (refine wq_le ⟨by omega, by omega⟩ ⟨by omega, by omega⟩ (fun _ => ?_) (fun _ => ?_) <;> try (exfalso; omega)) | (refine wq_ifeq ⟨by omega, by omega⟩ (fun _ => ?_) (fun _ => ?_) <;> try (exfalso; omega)) | (refine wq_ifne ⟨by omega, by omega⟩ (fun _ => ?_) (fun _ => ?_) <;> try (exfalso; omega)) | (refine wq_iflt ⟨by omega, by omega⟩ (fun _ => ?_) (fun _ => ?_) <;> try (exfalso; omega)) | (refine wq_ifge ⟨by omega, by omega⟩ (fun _ => ?_) (fun _ => ?_) <;> try (exfalso; omega)) | (refine wq_ifgt ⟨by omega, by omega⟩ (fun _ => ?_) (fun _ => ?_) <;> try (exfalso; omega)) | (refine wq_ifle ⟨by omega, by omega⟩ (fun _ => ?_) (fun _ => ?_) <;> try (exfalso; omega)) | refine wq_r rfl rfl rfl rfl rfl rfl ?_)
    exact ⟨rfl, rfl⟩
  · rw [if_neg q]
    repeat' (refine wf rfl ?_; first | refine wq_iadd ?_ | refine wq_isub ?_ | refine wq_imul ?_ | refine wq_iinc rfl ?_ | refine wq_goto ?_ | refine wq_k rfl ?_ | refine wq_b rfl rfl ?_ | refine wq_getf (by assumption) rfl ?_ | refine wq_alen (by assumption) rfl ?_ | (refine wq_eq ⟨by omega, by omega⟩ ⟨by omega, by omega⟩ (fun _ => ?_) (fun _ => ?_) <;> try (exfalso; omega)) | (refine wq_ne ⟨by omega, by omega⟩ ⟨by omega, by omega⟩ (fun _ => ?_) (fun _ => ?_) <;> try (exfalso; omega)) | (refine wq_lt ⟨by omega, by omega⟩ ⟨by omega, by omega⟩ (fun _ => ?_) (fun _ => ?_) <;> try (exfalso; omega)) | (refine wq_ge ⟨by omega, by omega⟩ ⟨by omega, by omega⟩ (fun _ => ?_) (fun _ => ?_) <;> try (exfalso; omega)) | (refine wq_gt ⟨by omega, by omega⟩ ⟨by omega, by omega⟩ (fun _ => ?_) (fun _ => ?_) <;> try (exfalso; omega)) | (refine wq_le ⟨by omega, by omega⟩ ⟨by omega, by omega⟩ (fun _ => ?_) (fun _ => ?_) <;> try (exfalso; omega)) | (refine wq_ifeq ⟨by omega, by omega⟩ (fun _ => ?_) (fun _ => ?_) <;> try (exfalso; omega)) | (refine wq_ifne ⟨by omega, by omega⟩ (fun _ => ?_) (fun _ => ?_) <;> try (exfalso; omega)) | (refine wq_iflt ⟨by omega, by omega⟩ (fun _ => ?_) (fun _ => ?_) <;> try (exfalso; omega)) | (refine wq_ifge ⟨by omega, by omega⟩ (fun _ => ?_) (fun _ => ?_) <;> try (exfalso; omega)) | (refine wq_ifgt ⟨by omega, by omega⟩ (fun _ => ?_) (fun _ => ?_) <;> try (exfalso; omega)) | (refine wq_ifle ⟨by omega, by omega⟩ (fun _ => ?_) (fun _ => ?_) <;> try (exfalso; omega)) | refine wq_r rfl rfl rfl rfl rfl rfl ?_)
    exact ⟨rfl, rfl⟩
theorem c_Md_ruleOf {s : Int} : Wm 129 [.int (I s)] M (fun v M' => v = some (.int (I (s - 8))) ∧ M' = M) := by
  refine wm_in (lv := _) rfl rfl rfl ?_
  repeat' (refine wf rfl ?_; first | refine wq_iadd ?_ | refine wq_isub ?_ | refine wq_imul ?_ | refine wq_iinc rfl ?_ | refine wq_goto ?_ | refine wq_k rfl ?_ | refine wq_b rfl rfl ?_ | refine wq_getf (by assumption) rfl ?_ | refine wq_alen (by assumption) rfl ?_ | (refine wq_eq ⟨by omega, by omega⟩ ⟨by omega, by omega⟩ (fun _ => ?_) (fun _ => ?_) <;> try (exfalso; omega)) | (refine wq_ne ⟨by omega, by omega⟩ ⟨by omega, by omega⟩ (fun _ => ?_) (fun _ => ?_) <;> try (exfalso; omega)) | (refine wq_lt ⟨by omega, by omega⟩ ⟨by omega, by omega⟩ (fun _ => ?_) (fun _ => ?_) <;> try (exfalso; omega)) | (refine wq_ge ⟨by omega, by omega⟩ ⟨by omega, by omega⟩ (fun _ => ?_) (fun _ => ?_) <;> try (exfalso; omega)) | (refine wq_gt ⟨by omega, by omega⟩ ⟨by omega, by omega⟩ (fun _ => ?_) (fun _ => ?_) <;> try (exfalso; omega)) | (refine wq_le ⟨by omega, by omega⟩ ⟨by omega, by omega⟩ (fun _ => ?_) (fun _ => ?_) <;> try (exfalso; omega)) | (refine wq_ifeq ⟨by omega, by omega⟩ (fun _ => ?_) (fun _ => ?_) <;> try (exfalso; omega)) | (refine wq_ifne ⟨by omega, by omega⟩ (fun _ => ?_) (fun _ => ?_) <;> try (exfalso; omega)) | (refine wq_iflt ⟨by omega, by omega⟩ (fun _ => ?_) (fun _ => ?_) <;> try (exfalso; omega)) | (refine wq_ifge ⟨by omega, by omega⟩ (fun _ => ?_) (fun _ => ?_) <;> try (exfalso; omega)) | (refine wq_ifgt ⟨by omega, by omega⟩ (fun _ => ?_) (fun _ => ?_) <;> try (exfalso; omega)) | (refine wq_ifle ⟨by omega, by omega⟩ (fun _ => ?_) (fun _ => ?_) <;> try (exfalso; omega)) | refine wq_r rfl rfl rfl rfl rfl rfl ?_)
  exact ⟨rfl, rfl⟩
theorem c_Md_isLetter {s : Int} (hs : inR s) : Wm 130 [.int (I s)] M (fun v M' => v = some (.int (I (if s < 8 then 1 else 0))) ∧ M' = M) := by
  obtain ⟨hs1, hs2⟩ := hs
  refine wm_in (lv := _) rfl rfl rfl ?_
  repeat' (refine wf rfl ?_; first | refine wq_iadd ?_ | refine wq_isub ?_ | refine wq_imul ?_ | refine wq_iinc rfl ?_ | refine wq_goto ?_ | refine wq_k rfl ?_ | refine wq_b rfl rfl ?_ | refine wq_getf (by assumption) rfl ?_ | refine wq_alen (by assumption) rfl ?_ | (refine wq_eq ⟨by omega, by omega⟩ ⟨by omega, by omega⟩ (fun _ => ?_) (fun _ => ?_) <;> try (exfalso; omega)) | (refine wq_ne ⟨by omega, by omega⟩ ⟨by omega, by omega⟩ (fun _ => ?_) (fun _ => ?_) <;> try (exfalso; omega)) | (refine wq_lt ⟨by omega, by omega⟩ ⟨by omega, by omega⟩ (fun _ => ?_) (fun _ => ?_) <;> try (exfalso; omega)) | (refine wq_ge ⟨by omega, by omega⟩ ⟨by omega, by omega⟩ (fun _ => ?_) (fun _ => ?_) <;> try (exfalso; omega)) | (refine wq_gt ⟨by omega, by omega⟩ ⟨by omega, by omega⟩ (fun _ => ?_) (fun _ => ?_) <;> try (exfalso; omega)) | (refine wq_le ⟨by omega, by omega⟩ ⟨by omega, by omega⟩ (fun _ => ?_) (fun _ => ?_) <;> try (exfalso; omega)) | (refine wq_ifeq ⟨by omega, by omega⟩ (fun _ => ?_) (fun _ => ?_) <;> try (exfalso; omega)) | (refine wq_ifne ⟨by omega, by omega⟩ (fun _ => ?_) (fun _ => ?_) <;> try (exfalso; omega)) | (refine wq_iflt ⟨by omega, by omega⟩ (fun _ => ?_) (fun _ => ?_) <;> try (exfalso; omega)) | (refine wq_ifge ⟨by omega, by omega⟩ (fun _ => ?_) (fun _ => ?_) <;> try (exfalso; omega)) | (refine wq_ifgt ⟨by omega, by omega⟩ (fun _ => ?_) (fun _ => ?_) <;> try (exfalso; omega)) | (refine wq_ifle ⟨by omega, by omega⟩ (fun _ => ?_) (fun _ => ?_) <;> try (exfalso; omega)) | refine wq_r rfl rfl rfl rfl rfl rfl ?_)
  · exact ⟨by rw [if_neg (by omega)], rfl⟩
  · exact ⟨by rw [if_pos (by omega)], rfl⟩
theorem c_Md_rowAt {k : Int} (hk : inR k) (h : Mr M m G) : Wm 131 [.ref m, .int (I k)] M (fun v M' => v = some (.int (I (rwN G k))) ∧ M' = M) := by
  obtain ⟨hk1, hk2⟩ := hk
  obtain ⟨⟨hl, si, re, pl, sp, hO⟩, f, hA, hG⟩ := h
  have g := hG.cnt
  have g1 : f (2187 : Int).toNat = G.1.length := g.1
  unfold rwN
  by_cases q : k < G.1.length
  · rw [if_pos q]
    refine wm_in (lv := _) rfl rfl rfl ?_
    repeat' (refine wf rfl ?_; first | refine wq_iadd ?_ | refine wq_isub ?_ | refine wq_imul ?_ | refine wq_iinc rfl ?_ | refine wq_goto ?_ | refine wq_k rfl ?_ | refine wq_b rfl rfl ?_ | refine wq_getf (by assumption) rfl ?_ | refine wq_alen (by assumption) rfl ?_ | refine wq_iald hA ⟨by omega, by omega⟩ (by omega) (by omega) ?_ | (refine wq_eq ⟨by omega, by omega⟩ ⟨by omega, by omega⟩ (fun _ => ?_) (fun _ => ?_) <;> try (exfalso; omega)) | (refine wq_ne ⟨by omega, by omega⟩ ⟨by omega, by omega⟩ (fun _ => ?_) (fun _ => ?_) <;> try (exfalso; omega)) | (refine wq_lt ⟨by omega, by omega⟩ ⟨by omega, by omega⟩ (fun _ => ?_) (fun _ => ?_) <;> try (exfalso; omega)) | (refine wq_ge ⟨by omega, by omega⟩ ⟨by omega, by omega⟩ (fun _ => ?_) (fun _ => ?_) <;> try (exfalso; omega)) | (refine wq_gt ⟨by omega, by omega⟩ ⟨by omega, by omega⟩ (fun _ => ?_) (fun _ => ?_) <;> try (exfalso; omega)) | (refine wq_le ⟨by omega, by omega⟩ ⟨by omega, by omega⟩ (fun _ => ?_) (fun _ => ?_) <;> try (exfalso; omega)) | (refine wq_ifeq ⟨by omega, by omega⟩ (fun _ => ?_) (fun _ => ?_) <;> try (exfalso; omega)) | (refine wq_ifne ⟨by omega, by omega⟩ (fun _ => ?_) (fun _ => ?_) <;> try (exfalso; omega)) | (refine wq_iflt ⟨by omega, by omega⟩ (fun _ => ?_) (fun _ => ?_) <;> try (exfalso; omega)) | (refine wq_ifge ⟨by omega, by omega⟩ (fun _ => ?_) (fun _ => ?_) <;> try (exfalso; omega)) | (refine wq_ifgt ⟨by omega, by omega⟩ (fun _ => ?_) (fun _ => ?_) <;> try (exfalso; omega)) | (refine wq_ifle ⟨by omega, by omega⟩ (fun _ => ?_) (fun _ => ?_) <;> try (exfalso; omega)) | refine wq_r rfl rfl rfl rfl rfl rfl ?_)
    exact ⟨rfl, rfl⟩
  · rw [if_neg q]
    refine wm_in (lv := _) rfl rfl rfl ?_
    repeat' (refine wf rfl ?_; first | refine wq_iadd ?_ | refine wq_isub ?_ | refine wq_imul ?_ | refine wq_iinc rfl ?_ | refine wq_goto ?_ | refine wq_k rfl ?_ | refine wq_b rfl rfl ?_ | refine wq_getf (by assumption) rfl ?_ | refine wq_alen (by assumption) rfl ?_ | refine wq_iald hA ⟨by omega, by omega⟩ (by omega) (by omega) ?_ | (refine wq_eq ⟨by omega, by omega⟩ ⟨by omega, by omega⟩ (fun _ => ?_) (fun _ => ?_) <;> try (exfalso; omega)) | (refine wq_ne ⟨by omega, by omega⟩ ⟨by omega, by omega⟩ (fun _ => ?_) (fun _ => ?_) <;> try (exfalso; omega)) | (refine wq_lt ⟨by omega, by omega⟩ ⟨by omega, by omega⟩ (fun _ => ?_) (fun _ => ?_) <;> try (exfalso; omega)) | (refine wq_ge ⟨by omega, by omega⟩ ⟨by omega, by omega⟩ (fun _ => ?_) (fun _ => ?_) <;> try (exfalso; omega)) | (refine wq_gt ⟨by omega, by omega⟩ ⟨by omega, by omega⟩ (fun _ => ?_) (fun _ => ?_) <;> try (exfalso; omega)) | (refine wq_le ⟨by omega, by omega⟩ ⟨by omega, by omega⟩ (fun _ => ?_) (fun _ => ?_) <;> try (exfalso; omega)) | (refine wq_ifeq ⟨by omega, by omega⟩ (fun _ => ?_) (fun _ => ?_) <;> try (exfalso; omega)) | (refine wq_ifne ⟨by omega, by omega⟩ (fun _ => ?_) (fun _ => ?_) <;> try (exfalso; omega)) | (refine wq_iflt ⟨by omega, by omega⟩ (fun _ => ?_) (fun _ => ?_) <;> try (exfalso; omega)) | (refine wq_ifge ⟨by omega, by omega⟩ (fun _ => ?_) (fun _ => ?_) <;> try (exfalso; omega)) | (refine wq_ifgt ⟨by omega, by omega⟩ (fun _ => ?_) (fun _ => ?_) <;> try (exfalso; omega)) | (refine wq_ifle ⟨by omega, by omega⟩ (fun _ => ?_) (fun _ => ?_) <;> try (exfalso; omega)) | refine wq_r rfl rfl rfl rfl rfl rfl ?_)
    exact ⟨rfl, rfl⟩
end MD1
