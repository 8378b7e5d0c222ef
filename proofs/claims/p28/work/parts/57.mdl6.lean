/-! The Model unrolls a rule, and prunes. -/
theorem unr_sym {N r : Nat} {X : Nat → List Int} (hX : WFX N X) (hr : r < N) (xs : List Int) (B : Nat) (hB : r < B) (hxs : ∀ s ∈ xs, 0 ≤ s ∧ s < 8 + (B : Int)) : ∀ s ∈ unr (8 + (r : Int)) (X r) xs, 0 ≤ s ∧ s < 8 + ((B - 1 : Nat) : Int) := by
  intro s hs
  unfold unr at hs
  obtain ⟨x, hx, hs⟩ := List.mem_flatMap.mp hs
  have h1 := hxs x hx
  unfold unr1 at hs
  split at hs
  · have := hX r hr s hs
    omega
  · split at hs
    · have := List.mem_singleton.mp hs
      omega
    · have := List.mem_singleton.mp hs
      omega
theorem WFG.unr {G : GS} (h : WFG G) {r : Nat} (hr : r < G.1.length) : WFG (unrG G r) := by
  obtain ⟨w1, w2, w3⟩ := h
  have hl := unrG_len (G := G) hr
  refine ⟨?_, ?_, ?_⟩
  · rw [hl]
    intro k hk s hs
    rw [xof_unr hr (by omega)] at hs
    split at hs
    · have := w1 k (by omega) s hs
      omega
    · have := unr_sym w1 hr (xof G.1 (k + 1)) (k + 1) (by omega) (fun s hs => by have := w1 (k + 1) (by omega) s hs; omega) s hs
      omega
  · rw [hl]
    exact unr_sym w1 hr G.2 G.1.length hr w2
  · rw [hl]
    intro k hk
    rw [xof_unr hr (by omega)]
    split
    · exact w3 k (by omega)
    · have q6 := unr_len (sym := 8 + (r : Int)) (w3 r hr) (xof G.1 (k + 1))
      have q7 := w3 (k + 1) (by omega)
      omega
theorem prune_0 {G : GS} (h : G.1.length = 0) : nextP G = none := by
  unfold nextP
  rw [h]
  rfl
theorem canB_fit {G : GS} {r : Nat} (hc : canB G r = true) : (∀ k, r < k → k < G.1.length → (unr (8 + (r : Int)) (xof G.1 r) (xof G.1 k)).length ≤ 80) ∧ (unr (8 + (r : Int)) (xof G.1 r) G.2).length ≤ 80 := by
  have h := canB_iff.mp hc
  obtain ⟨h1, h2⟩ := h
  refine ⟨fun k k1 k2 => ?_, ?_⟩
  · have h3 := h1 k k1 k2
    have h4 := unr_length (8 + (r : Int)) (xof G.1 r) (xof G.1 k)
    unfold fitU at h3
    omega
  · have h4 := unr_length (8 + (r : Int)) (xof G.1 r) G.2
    unfold fitU at h2
    omega
section MD6
variable {M : PM} {m : Nat} {G : GS}
end MD6
