/-! The Model opens on the way to a place; copies; its history. -/
theorem opnF_congr {f : Int → Int} {N : Nat} {X X' : Nat → List Int} (hX : ∀ k, k < N → X k = X' k) (q : Int) : ∀ (n : Nat) (xs : List Int), opnF N X f q n xs = opnF N X' f q n xs
  | 0, xs => by rw [opnF, opnF]
  | n + 1, xs => by
    rw [opnF, opnF]
    by_cases hc : 8 ≤ rat xs (posL f xs q) ∧ rat xs (posL f xs q) < 8 + N
    · rw [if_pos hc, if_pos hc, hX _ (by omega)]
      split
      · exact opnF_congr hX q n _
      · rfl
    · rw [if_neg hc, if_neg hc]
theorem opn_wfm {G : GS} (hW : WFG G) {z : Int} (h0 : 0 ≤ z) (h1 : z < G.2.length) (h2 : 8 ≤ rat G.2 z) : WFG (G.1, opM G z) := by
  refine ⟨hW.1, ?_, hW.2.2⟩
  have hx := hW.2.1 _ (rat_mem h0 h1)
  intro s hs
  dsimp only at hs ⊢
  unfold opM at hs
  rcases List.mem_append.mp hs with hs | hs
  · exact hW.2.1 s (List.mem_of_mem_take hs)
  · rcases List.mem_append.mp hs with hs | hs
    · have := hW.1 _ (by omega) s hs
      omega
    · exact hW.2.1 s (List.mem_of_mem_drop hs)
theorem Ga.move {f g : Nat → Int} {o o' : Nat} {G : GS} (h : Ga f o G) (e : ∀ k, k < 2188 → g (o' + k) = f (o + k)) : Ga g o' G := by
  obtain ⟨h1, h2, h3, h4⟩ := h
  have mv : ∀ {b : Nat} {xs : List Int}, b ≤ 2106 → Rf f (o + b) xs → Rf g (o' + b) xs := by
    rintro b xs hb ⟨w1, w2, w3⟩
    refine ⟨by rw [e b (by omega), w1], w2, fun k hk => ?_⟩
    rw [w3 k hk, Nat.add_assoc o', Nat.add_assoc o', e _ (by omega), Nat.add_assoc o, Nat.add_assoc o]
  refine ⟨by rw [e 2187 (by omega), h1], h2, fun k hk => mv (by omega) (h3 k hk), mv (by omega) h4⟩
def HG (f : Nat → Int) (hist : List GS) : Prop := ∀ (i : Nat) (G : GS), hist[i]? = some G → Ga f (2188 * i) G
def push (hist : List GS) (G : GS) : List GS := (if hist.length = 6 then hist.tail else hist) ++ [G]
section MD11
variable {M : PM} {m : Nat} {G : GS}
end MD11
