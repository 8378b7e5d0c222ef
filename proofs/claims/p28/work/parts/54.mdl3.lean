/-! The Model's pairs and its pruning, as read. -/
theorem cnt2_end {xs : List Int} {f s p : Int} (h0 : 0 ≤ p) (h : (xs.length : Int) ≤ p + 1) : cnt2 f s (xs.drop p.toNat) = 0 := by
  have hl : (xs.drop p.toNat).length ≤ 1 := by rw [List.length_drop]; omega
  generalize xs.drop p.toNat = ys at hl
  match ys, hl with
  | [], _ => rfl
  | [x], _ => rfl
  | x :: y :: r, hl => simp at hl
theorem cnt2_first {xs : List Int} (h : 2 ≤ xs.length) : 0 < cnt2 (rat xs 0) (rat xs 1) xs := by
  have := cnt2_yes (xs := xs) (p := 0) (f := rat xs 0) (s := rat xs 1) (by omega) ⟨by omega, by omega, rfl, rfl⟩
  simp at this
  omega
theorem bst_mono {xs : List Int} {f s : Int} (h : 2 ≤ xs.length) : ∀ n : Nat, 0 < (bst xs (f, s, 0) (n + 1)).2.2
  | 0 => by
    have h1 := cnt2_first h
    rw [bst, bst]
    rw [if_pos]
    · show (0 : Int) < (cnt2 (rat xs (0 : Nat)) (rat xs (0 + 1 : Nat)) xs : Int)
      have e : ((0 + 1 : Nat) : Int) = 1 := rfl
      have e2 : ((0 : Nat) : Int) = 0 := rfl
      rw [e, e2]
      omega
    · show (0 : Int) < (cnt2 (rat xs (0 : Nat)) (rat xs (0 + 1 : Nat)) xs : Int)
      have e : ((0 + 1 : Nat) : Int) = 1 := rfl
      have e2 : ((0 : Nat) : Int) = 0 := rfl
      rw [e, e2]
      omega
  | n + 1 => by
    have ih := bst_mono (xs := xs) (f := f) (s := s) h n
    rw [bst]
    split
    · rename_i hc
      dsimp only
      omega
    · exact ih
theorem bstAll_pos {xs : List Int} (f s : Int) (h : 2 ≤ xs.length) : 0 < (bstAll xs f s).2.2 := by
  unfold bstAll
  rw [show xs.length - 1 = (xs.length - 2) + 1 by omega]
  exact bst_mono h _
theorem bstAll_none {xs : List Int} (f s : Int) (h : xs.length < 2) : (bstAll xs f s).2.2 = 0 := by
  unfold bstAll
  rw [show xs.length - 1 = 0 by omega, bst]
theorem cntE_none {s : Int} : ∀ {xs : List Int}, (∀ x ∈ xs, x < s) → cntE s xs = 0
  | [], _ => rfl
  | x :: r, h => by
    have h1 := h x List.mem_cons_self
    rw [cntE, if_neg (by omega), cntE_none (fun y hy => h y (List.mem_cons_of_mem _ hy))]
def fitA (G : GS) (r j : Nat) : Prop := fitB (8 + (r : Int)) (xof G.1 r) (rwG G (rwN G j)) = true
theorem canB_fitA {G : GS} (hW : WFG G) (hN : G.1.length ≤ 26) {r : Nat} (hr : r < G.1.length) (hl : ∀ k, k < G.1.length → (xof G.1 k).length ≤ 80) : canB G r = true ↔ ∀ j, j ≤ G.1.length → fitA G r j := by
  unfold canB fitA
  rw [Bool.and_eq_true, List.all_eq_true]
  constructor
  · rintro ⟨h1, h2⟩ j hj
    by_cases he : j < G.1.length
    · rw [rwN_lt he hN]
      have h3 := h1 j (List.mem_range.mpr he)
      rw [Bool.or_eq_true, decide_eq_true_eq] at h3
      rcases h3 with h3 | h3
      · unfold fitB
        rw [cntE_none (fun x hx => by have := hW.1 j he x hx; omega), decide_eq_true_eq]
        have := hl j he
        simp
        omega
      · exact h3
    · rw [rwN_ge G (by omega)]
      exact h2
  · intro h
    refine ⟨fun j hj => ?_, ?_⟩
    · have hj := List.mem_range.mp hj
      have h3 := h j (by omega)
      rw [rwN_lt hj hN] at h3
      rw [h3, Bool.or_true]
    · have h3 := h G.1.length (Nat.le_refl _)
      rw [rwN_ge G (Nat.le_refl _)] at h3
      exact h3
theorem Mr.rows {M : PM} {m : Nat} {G : GS} (h : Mr M m G) {k : Nat} (hk : k < G.1.length) : (xof G.1 k).length ≤ 80 := by
  obtain ⟨-, f, -, h1, h2, h3, h4⟩ := h
  exact (h3 k hk).2.1
theorem Mr.ml {M : PM} {m : Nat} {G : GS} (h : Mr M m G) : G.2.length ≤ 80 := by
  obtain ⟨-, f, -, h1, h2, h3, h4⟩ := h
  exact h4.2.1
theorem usT_bd {M : PM} {m : Nat} {G : GS} (h : Mr M m G) (j : Nat) : 0 ≤ usT G j ∧ usT G j ≤ 10000 := by
  have hN := h.le
  rw [← smR_usT hN j]
  have := smR_bd (G := G) (h := fun xs => (cntE (8 + (j : Int)) xs : Int)) (B := 80) (fun k hk => by
    have h1 := h.rl (vrN (G := G) hk)
    have h2 := cntE_le (8 + (j : Int)) (rwG G (rwN G k))
    omega) (G.1.length + 1)
  omega
section MD3
variable {M : PM} {m : Nat} {G : GS}
def bestAt (xs : List Int) (b : Int) : Prop := (xs.length < 2 ∧ b = -6) ∨ (0 ≤ b ∧ b + 1 < xs.length ∧ bstAll xs 0 0 = (rat xs b, rat xs (b + 1), (cnt2 (rat xs b) (rat xs (b + 1)) xs : Int)))
end MD3
