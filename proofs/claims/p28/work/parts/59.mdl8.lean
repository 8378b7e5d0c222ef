/-! The Model's depths. -/
def Dr (M : PM) (m : Nat) (G : GS) : Prop := ∃ d, M[m + 8]? = some (aJ 26 d) ∧ ∀ j, j < G.1.length → d j = dpG G j
section MD8
variable {M : PM} {m : Nat} {G : GS}
end MD8
