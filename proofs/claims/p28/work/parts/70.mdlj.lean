/-! The Model's fault and tell. -/
section MD18
variable {M : PM} {m : Nat} {hl si re : Int} {xs : List Int}
end MD18
def OKP (xs : List Int) : Prop := ∀ x ∈ xs, 0 ≤ x ∧ x < 256
section MD19
variable {M : PM} {m : Nat} {S : ST}
theorem tooB_iff {G : GS} : tooB G = true ↔ (9999 < wlG G ∨ ∃ j, j < G.1.length ∧ 9999 < ltG G j) := by
  unfold tooB
  rw [Bool.or_eq_true, decide_eq_true_eq, List.any_eq_true]
  constructor
  · rintro (h | ⟨j, h1, h2⟩)
    · exact Or.inl h
    · exact Or.inr ⟨j, List.mem_range.mp h1, by simpa using h2⟩
  · rintro (h | ⟨j, h1, h2⟩)
    · exact Or.inl h
    · exact Or.inr ⟨j, List.mem_range.mpr h1, by simpa using h2⟩
end MD19
