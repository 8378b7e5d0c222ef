/-! The Model's calls that change a letter; undo, slots. -/
theorem posL_ge {f : Int → Int} (hf : ∀ s, 0 ≤ f s) : ∀ (xs : List Int) (q : Int), sumL f xs ≤ q → posL f xs q = xs.length
  | [], _, _ => by rw [posL]; rfl
  | x :: r, q, h => by
    rw [sumL] at h
    have hn := sumL_nn f r (fun s _ => hf s)
    rw [posL, if_neg (by omega), posL_ge hf r (q - f x) (by omega), List.length_cons]
    omega
section MD14
variable {M : PM} {m : Nat} {S : ST}
/-- the main row made anew in place -/
theorem Ga.main {f g : Nat → Int} {G : GS} {mn : List Int} (h : Ga f 0 G) (h1 : g 2187 = f 2187) (h2 : ∀ q, q < 2106 → g q = f q) (h3 : Rf g 2106 mn) : Ga g 0 (G.1, mn) := by
  obtain ⟨z1, z2, z3, z4⟩ := h
  rw [Nat.zero_add] at z1
  refine ⟨by rw [Nat.zero_add, h1, z1], z2, fun j hj => (z3 j hj).congr (fun q q1 q2 => ?_), by rw [Nat.zero_add]; exact h3⟩
  have hj : j < G.1.length := hj
  exact h2 q (by omega)
end MD14
