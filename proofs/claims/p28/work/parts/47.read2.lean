/-! The reader's steps, on lists. -/
abbrev RS : Type := Int × GS × List Int
def grR (G : GS) (ru : List Int) (c : Int) : RS := if 0 ≤ syC c ∧ syC c < 8 + (G.1.length : Int) ∧ ru.length < 80 then (3, G, ru ++ [syC c]) else (5, G, ru)
def grM (G : GS) (ru : List Int) (c : Int) : RS := if 0 ≤ syC c ∧ syC c < 8 + (G.1.length : Int) ∧ G.2.length < 80 then (4, (G.1, G.2 ++ [syC c]), ru) else (5, G, ru)
def Rd (M : PM) (b g : Nat) (r : RS) : Prop := M[b]? = some (.inr (5, [.ref (b + 1)])) ∧ Rw M (b + 1) r.2.2 ∧ GL M g r.2.1 ∧ ((r.1 = 1 ∨ r.1 = 2 ∨ r.1 = 3) → WFm r.2.1.1.length r.2.2 ∧ r.2.1.1.length < 26) ∧ (r.1 = 3 → 1 ≤ r.2.2.length)
theorem WFm.app {N : Nat} {xs : List Int} {s : Int} (h : WFm N xs) (hs : 0 ≤ s ∧ s < 8 + (N : Int)) : WFm N (xs ++ [s]) := by
  intro x hx
  rcases List.mem_append.mp hx with e | e
  · exact h x e
  · rw [List.mem_singleton.mp e]; exact hs
section RD2
variable {M : PM} {b g : Nat} {st c : Int} {G : GS} {ru : List Int}
theorem c_rd_growM (hc : inR c) (h : Rd M b g (st, G, ru)) (hd : b + 2 < g ∨ g + 59 ≤ b) : Wm 62 [.ref b, .ref (g + 2), .int (I c), .ref g, .int (I 4)] M (fun v M' => v = some (.int (I (grM G ru c).1)) ∧ Fr (fun z => inG g z ∨ inY b z) M M' ∧ Rd M' b g (grM G ru c)) := by
  obtain ⟨q1, q2, q3, q4, q5⟩ := h
  obtain ⟨p, X, lt, dp, us, W, h1, h2, w1, w2, w3⟩ := id q3
  refine (c_Reader_grow hc h1 h1.main).mono ?_
  rintro v M' (⟨hq, rfl, hr, f⟩ | ⟨hq, rfl, rfl⟩)
  · unfold grM
    rw [if_pos hq]
    refine ⟨rfl, f.mono (fun z hz => Or.inl (by unfold inG; omega)), f.at (by omega) q1, q2.fr f (by omega) (by omega), ⟨p, X, lt, dp, us, W, h1.newMain f hr, h2, w1, w2.app ⟨hq.1, hq.2.1⟩, w3⟩, fun z => ?_, fun z => ?_⟩
    · exfalso
      dsimp only at z
      omega
    · exfalso
      dsimp only at z
      omega
  · unfold grM
    rw [if_neg hq]
    refine ⟨rfl, Fr.rf, q1, q2, q3, fun z => ?_, fun z => ?_⟩
    · exfalso
      dsimp only at z
      omega
    · exfalso
      dsimp only at z
      omega
theorem c_rd_growR (hc : inR c) (h : Rd M b g (st, G, ru)) (hst : st = 2 ∨ st = 3) (hd : b + 2 < g ∨ g + 59 ≤ b) : Wm 62 [.ref b, .ref (b + 1), .int (I c), .ref g, .int (I 3)] M (fun v M' => v = some (.int (I (grR G ru c).1)) ∧ Fr (fun z => inG g z ∨ inY b z) M M' ∧ Rd M' b g (grR G ru c)) := by
  obtain ⟨q1, q2, q3, q4, q5⟩ := h
  obtain ⟨p, X, lt, dp, us, W, h1, h2, w1, w2, w3⟩ := id q3
  obtain ⟨w4, w5⟩ := q4 (Or.inr hst)
  refine (c_Reader_grow hc h1 q2).mono ?_
  rintro v M' (⟨hq, rfl, hr, f⟩ | ⟨hq, rfl, rfl⟩)
  · unfold grR
    rw [if_pos hq]
    refine ⟨rfl, f.mono (fun z hz => Or.inr (by unfold inY; omega)), f.at (by omega) q1, hr, q3.fr f (fun z hz => by unfold inG at hz; omega), fun z => ⟨w4.app ⟨hq.1, hq.2.1⟩, w5⟩, fun z => ?_⟩
    dsimp only
    rw [List.length_append]
    exact Nat.le_add_left 1 _
  · unfold grR
    rw [if_neg hq]
    refine ⟨rfl, Fr.rf, q1, q2, q3, fun z => ?_, fun z => ?_⟩
    · exfalso
      dsimp only at z
      omega
    · exfalso
      dsimp only at z
      omega
end RD2
