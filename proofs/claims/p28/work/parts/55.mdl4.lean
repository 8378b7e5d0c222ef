/-! The Model folds. -/
def Lw (w : Nat → Int) (o : Nat) (acc : List Int) : Prop := ∀ i, i < acc.length → acc[i]? = some (w (o + i))
theorem Lw.congr {w w' : Nat → Int} {o : Nat} {acc : List Int} (h : Lw w o acc) (e : ∀ q, o ≤ q → q < o + acc.length → w' q = w q) : Lw w' o acc := by
  intro i hi
  rw [h i hi, e (o + i) (by omega) (by omega)]
theorem Lw.snoc {w : Nat → Int} {o : Nat} {acc : List Int} (h : Lw w o acc) {v : Int} {q : Nat} (hq : q = o + acc.length) : Lw (upz w q v) o (acc ++ [v]) := by
  subst hq
  intro i hi
  rw [List.length_append] at hi
  have hi : i < acc.length + 1 := hi
  by_cases he : i < acc.length
  · rw [List.getElem?_append_left he, upz_ne _ _ (by omega)]
    exact h i he
  · have he : i = acc.length := by omega
    subst he
    rw [List.getElem?_append_right (Nat.le_refl _), Nat.sub_self, upz_at]
    rfl
theorem Lw.nil (w : Nat → Int) (o : Nat) : Lw w o [] := fun i hi => absurd hi (by simp)
theorem Lw.rf {f : Nat → Int} {o : Nat} {xs : List Int} (h : Lw f (o + 1) xs) (h0 : f o = xs.length) (h1 : xs.length ≤ 80) : Rf f o xs := ⟨h0, h1, h⟩
theorem Rf.lw {f : Nat → Int} {o : Nat} {xs : List Int} (h : Rf f o xs) : Lw f (o + 1) xs := h.2.2
theorem Rf.congr {f f' : Nat → Int} {o : Nat} {xs : List Int} (h : Rf f o xs) (e : ∀ q, o ≤ q → q ≤ o + 80 → f' q = f q) : Rf f' o xs := by
  obtain ⟨h1, h2, h3⟩ := h
  refine ⟨by rw [e o (by omega) (by omega), h1], h2, fun k hk => ?_⟩
  rw [h3 k hk, e _ (by omega) (by omega)]
section MD4
variable {M : PM} {m : Nat} {G : GS} {hl si re pl sp : Int} {f : Nat → Int}
end MD4
