/-! The Model's cells (class PairGrammarsModel): its object at m, its arrays behind it. -/
theorem wq_lcmp {c : MM} {ln nx tg r1 r2 r3 pc : Nat} {lv : LV} {r : List Value} {M : PM} {Q : Option Value → PM → Prop} {x y : Int64} (k : ∀ z : Int, ((z = 1 ∧ y.toInt < x.toInt) ∨ (z = 0 ∧ x.toInt = y.toInt) ∨ (z = -1 ∧ x.toInt < y.toInt)) → Wp c (nx, lv, .int (I z) :: r, M) Q) : Wq c (.lcmp, ln, nx, tg, r1, r2, r3) pc lv (.long y :: .long x :: r) M Q := by
  refine wq_k (sk' := .int (lg_cmp x y) :: r) rfl ?_
  unfold lg_cmp
  by_cases h : y.toInt < x.toInt
  · rw [if_pos (show x > y from Int64.lt_iff_toInt_lt.mpr h)]
    exact k 1 (Or.inl ⟨rfl, h⟩)
  · rw [if_neg (show ¬ x > y from fun z => h (Int64.lt_iff_toInt_lt.mp z))]
    by_cases h2 : x.toInt = y.toInt
    · rw [if_pos (Int64.toInt_inj.mp h2)]
      exact k 0 (Or.inr (Or.inl ⟨rfl, h2⟩))
    · rw [if_neg (fun z => h2 (by rw [z]))]
      exact k (-1) (Or.inr (Or.inr ⟨rfl, by omega⟩))
theorem L_int {x : Int} (h : inR x) : (I x).toInt64.toInt = x := by
  rw [Int32.toInt_toInt64]
  exact Int32.toInt_ofInt_of_le h.1 h.2
theorem L_sub1 {x : Int} (h : inR x) : ((I x).toInt64 - Int64.ofNat 1).toInt = x - 1 := by
  obtain ⟨h1, h2⟩ := id h
  rw [Int64.toInt_sub, L_int h, show (Int64.ofNat 1).toInt = 1 from rfl]
  exact Int.bmod_eq_of_le_mul_two (by omega) (by omega)
abbrev MO (M : PM) (m : Nat) (hl si re pl sp : Int) : Prop := M[m]? = some (.inr (10, [.ref (m + 1), .ref (m + 2), .ref (m + 3), .ref (m + 4), .int (I hl), .ref (m + 5), .ref (m + 6), .ref (m + 7), .ref (m + 8), .ref (m + 9), .ref (m + 10), .ref (m + 11), .ref (m + 12), .ref (m + 13), .int (I si), .int (I re), .ref (m + 14), .int (I pl), .int (I sp)]))
/-- a row of symbols that stands in an array from o on: its length first -/
def Rf (f : Nat → Int) (o : Nat) (xs : List Int) : Prop := f o = xs.length ∧ xs.length ≤ 80 ∧ ∀ k, k < xs.length → xs[k]? = some (f (o + 1 + k))
/-- a grammar in an array from o on -/
def Ga (f : Nat → Int) (o : Nat) (G : GS) : Prop := f (o + 2187) = G.1.length ∧ G.1.length ≤ 26 ∧ (∀ k, k < G.1.length → Rf f (o + 81 * k) (xof G.1 k)) ∧ Rf f (o + 2106) G.2
def rwG (G : GS) (r : Int) : List Int := if r = 26 then G.2 else xof G.1 r.toNat
def vrG (G : GS) (r : Int) : Prop := r = 26 ∨ (0 ≤ r ∧ r < G.1.length)
def rwN (G : GS) (k : Int) : Int := if k < G.1.length then k else 26
theorem vrN {G : GS} {k : Int} (h : 0 ≤ k) : vrG G (rwN G k) := by
  unfold vrG rwN
  split <;> omega
theorem vrM (G : GS) : vrG G 26 := Or.inl rfl
theorem rwM (G : GS) : rwG G 26 = G.2 := if_pos rfl
theorem Rf.at {f : Nat → Int} {o : Nat} {xs : List Int} (h : Rf f o xs) {p : Int} (h0 : 0 ≤ p) (h1 : p < xs.length) : f (o + 1 + p.toNat) = rat xs p := by
  rw [rat_in h0 (h.2.2 p.toNat (by omega))]
theorem Ga.row {f : Nat → Int} {G : GS} (h : Ga f 0 G) {r : Int} (hr : vrG G r) : 0 ≤ r ∧ r ≤ 26 ∧ f (81 * r).toNat = ((rwG G r).length : Int) ∧ (rwG G r).length ≤ 80 ∧ ∀ p : Int, 0 ≤ p → p < (rwG G r).length → f (81 * r + 1 + p).toNat = rat (rwG G r) p := by
  obtain ⟨h1, h2, h3, h4⟩ := h
  rcases hr with rfl | ⟨q1, q2⟩
  · rw [rwM]
    refine ⟨by omega, by omega, h4.1, h4.2.1, fun p p0 p1 => ?_⟩
    rw [← h4.at p0 p1]
    congr 1
    omega
  · have h5 := h3 r.toNat (by omega)
    have e : rwG G r = xof G.1 r.toNat := if_neg (by omega)
    rw [e]
    refine ⟨by omega, by omega, ?_, h5.2.1, fun p p0 p1 => ?_⟩
    · rw [← h5.1]
      congr 1
      omega
    · rw [← h5.at p0 p1]
      congr 1
      omega
theorem Ga.cnt {f : Nat → Int} {G : GS} (h : Ga f 0 G) : f 2187 = G.1.length ∧ G.1.length ≤ 26 := ⟨by have := h.1; rwa [Nat.zero_add] at this, h.2.1⟩
/-- the Model's grammar is G -/
def Mr (M : PM) (m : Nat) (G : GS) : Prop := (∃ hl si re pl sp, MO M m hl si re pl sp) ∧ ∃ f, M[m + 1]? = some (aJ 2188 f) ∧ Ga f 0 G
theorem Mr.fr {P : Nat → Prop} {M M' : PM} {m : Nat} {G : GS} (h : Mr M m G) (k : Fr P M M') (h1 : ¬ P m) (h2 : ¬ P (m + 1)) : Mr M' m G := by
  obtain ⟨⟨a, b, c, d, e, h3⟩, f, h4, h5⟩ := h
  exact ⟨⟨a, b, c, d, e, k.at h1 h3⟩, f, k.at h2 h4, h5⟩
theorem WFG.sbr {G : GS} (h : WFG G) (hN : G.1.length ≤ 26) {r : Int} (hr : vrG G r) : SB (rwG G r) := by
  unfold rwG
  split
  · exact h.2.1.sb hN
  · rename_i he
    have hr2 := hr.resolve_left he
    exact h.1.sb (k := r.toNat) (by omega) hN
section MD1
variable {M : PM} {m : Nat} {G : GS}
theorem Mr.le (h : Mr M m G) : G.1.length ≤ 26 := by
  obtain ⟨-, f, -, h5⟩ := h
  exact h5.2.1
theorem Mr.rl (h : Mr M m G) {r : Int} (hr : vrG G r) : 0 ≤ r ∧ r ≤ 26 ∧ (rwG G r).length ≤ 80 := by
  obtain ⟨-, f, -, h5⟩ := h
  have := h5.row hr
  exact ⟨this.1, this.2.1, this.2.2.2.1⟩
end MD1
