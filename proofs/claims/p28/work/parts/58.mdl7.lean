/-! Tables that are made rule by rule: letters, depths; the Model's measures. -/
def recT (F : Nat → (Nat → Int) → Int) : Nat → Nat → Int
  | 0 => fun _ => 0
  | n + 1 => upz (recT F n) n (F n (recT F n))
theorem recT_st {F : Nat → (Nat → Int) → Int} {j : Nat} : ∀ {n : Nat}, j < n → recT F n j = F j (recT F j)
  | 0, h => absurd h (by omega)
  | n + 1, h => by
    rw [recT]
    by_cases he : j = n
    · subst he; rw [upz_at]
    · rw [upz_ne _ _ he]; exact recT_st (by omega)
theorem recT_fix {F : Nat → (Nat → Int) → Int} (hF : ∀ j a b, (∀ i, i < j → a i = b i) → F j a = F j b) {j n : Nat} (h : j < n) : recT F n j = F j (recT F n) := by
  rw [recT_st h]
  exact hF j _ _ (fun i hi => by rw [recT_st hi, recT_st (by omega)])
theorem recT_uniq {F : Nat → (Nat → Int) → Int} (hF : ∀ j a b, (∀ i, i < j → a i = b i) → F j a = F j b) {n : Nat} {a : Nat → Int} (h : ∀ j, j < n → a j = F j a) (j : Nat) : j < n → a j = recT F n j := by
  induction j using Nat.strongRecOn with
  | ind j ih =>
    intro hj
    rw [h j hj, recT_fix hF hj]
    exact hF j _ _ (fun i hi => ih i hi (by omega))
theorem lsy_loc {a b : Nat → Int} {j : Nat} (h : ∀ i, i < j → a i = b i) (s : Int) : lsy j a s = lsy j b s := by
  unfold lsy
  split
  · exact h _ (by omega)
  · rfl
theorem lsy_up {a : Nat → Int} {j N : Nat} (hj : j ≤ N) {s : Int} (hs : s < 8 + (j : Int)) : lsy j a s = lsy N a s := by
  unfold lsy
  by_cases h : 8 ≤ s
  · rw [if_pos ⟨h, hs⟩, if_pos ⟨h, by omega⟩]
  · rw [if_neg (by omega), if_neg (by omega)]
theorem dsy_loc {a b : Nat → Int} {j : Nat} (h : ∀ i, i < j → a i = b i) (s : Int) : dsy j a s = dsy j b s := by
  unfold dsy
  split
  · exact h _ (by omega)
  · rfl
theorem dsy_up {a : Nat → Int} {j N : Nat} (hj : j ≤ N) {s : Int} (hs : s < 8 + (j : Int)) : dsy j a s = dsy N a s := by
  unfold dsy
  by_cases h : 8 ≤ s
  · rw [if_pos ⟨h, hs⟩, if_pos ⟨h, by omega⟩]
  · rw [if_neg (by omega), if_neg (by omega)]
def fLt (G : GS) (j : Nat) (a : Nat → Int) : Int := min (sumL (lsy j a) (xof G.1 j)) 10000
def fDp (G : GS) (j : Nat) (a : Nat → Int) : Int := mxD (dsy j a) (xof G.1 j) + 1
theorem fLt_loc (G : GS) : ∀ j a b, (∀ i, i < j → a i = b i) → fLt G j a = fLt G j b := by
  intro j a b h
  unfold fLt
  rw [sumL_congr (fun s _ => lsy_loc h s)]
theorem fDp_loc (G : GS) : ∀ j a b, (∀ i, i < j → a i = b i) → fDp G j a = fDp G j b := by
  intro j a b h
  unfold fDp
  rw [mxD_congr (fun s _ => dsy_loc h s)]
def ltG (G : GS) : Nat → Int := recT (fLt G) G.1.length
def dpG (G : GS) : Nat → Int := recT (fDp G) G.1.length
def lyG (G : GS) : Int → Int := lsy G.1.length (ltG G)
def wlG (G : GS) : Int := min (sumL (lyG G) G.2) 10000
theorem ltG_fix {G : GS} (hW : WFG G) {j : Nat} (hj : j < G.1.length) : ltG G j = min (sumL (lyG G) (xof G.1 j)) 10000 := by
  unfold ltG
  rw [recT_fix (fLt_loc G) hj]
  have e : fLt G j (recT (fLt G) G.1.length) = min (sumL (lsy j (ltG G)) (xof G.1 j)) 10000 := rfl
  rw [e, sumL_congr (f := lsy j (ltG G)) (f' := lyG G) (fun s hs => lsy_up (by omega) (hW.1 j hj s hs).2)]
theorem dpG_fix {G : GS} (hW : WFG G) {j : Nat} (hj : j < G.1.length) : dpG G j = mxD (dsy G.1.length (dpG G)) (xof G.1 j) + 1 := by
  unfold dpG
  rw [recT_fix (fDp_loc G) hj]
  have e : fDp G j (recT (fDp G) G.1.length) = mxD (dsy j (dpG G)) (xof G.1 j) + 1 := rfl
  rw [e, mxD_congr (f := dsy j (dpG G)) (f' := dsy G.1.length (dpG G)) (fun s hs => dsy_up (by omega) (hW.1 j hj s hs).2)]
  rfl
theorem ltG_bd {G : GS} (hW : WFG G) (j : Nat) : j < G.1.length → 0 ≤ ltG G j ∧ ltG G j ≤ 10000 := by
  induction j using Nat.strongRecOn with
  | ind j ih =>
    intro hj
    rw [ltG_fix hW hj]
    have h1 : 0 ≤ sumL (lyG G) (xof G.1 j) := by
      refine sumL_nn _ _ (fun s hs => ?_)
      have h2 := hW.1 j hj s hs
      unfold lyG lsy
      split
      · exact (ih _ (by omega) (by omega)).1
      · omega
    omega
theorem lyG_bd {G : GS} (hW : WFG G) (s : Int) : 0 ≤ lyG G s ∧ lyG G s ≤ 10000 := by
  unfold lyG lsy
  split
  · exact ltG_bd hW _ (by omega)
  · omega
theorem wlG_bd {G : GS} (hW : WFG G) : 0 ≤ wlG G ∧ wlG G ≤ 10000 := by
  have h1 := sumL_nn (lyG G) G.2 (fun s _ => (lyG_bd hW s).1)
  unfold wlG
  omega
theorem dpG_bd {G : GS} (hW : WFG G) (j : Nat) : j < G.1.length → 0 ≤ dpG G j ∧ dpG G j ≤ (j : Int) + 1 := by
  induction j using Nat.strongRecOn with
  | ind j ih =>
    intro hj
    rw [dpG_fix hW hj]
    have h1 := mxD_bd (f := dsy G.1.length (dpG G)) (B := (j : Int)) (by omega) (xs := xof G.1 j) (fun s hs => by
      have h2 := hW.1 j hj s hs
      unfold dsy
      split
      · have := (ih (s - 8).toNat (by omega) (by omega)).2
        omega
      · omega)
    omega
theorem lyG_rule {G : GS} {s : Int} (h : 8 ≤ s) (h1 : s < 8 + G.1.length) : lyG G s = ltG G (s - 8).toNat := if_pos ⟨h, h1⟩
theorem lyG_letter {G : GS} {s : Int} (h : s < 8) : lyG G s = 1 := if_neg (by omega)
theorem WFG.rwb {G : GS} (h : WFG G) {k : Nat} (hk : k ≤ G.1.length) (hN : G.1.length ≤ 26) : ∀ s ∈ rwG G (rwN G k), 0 ≤ s ∧ s < 8 + (k : Int) := by
  intro s hs
  by_cases he : k < G.1.length
  · rw [rwN_lt he hN] at hs
    exact h.1 k he s hs
  · rw [rwN_ge G (by omega)] at hs
    have := h.2.1 s hs
    omega
/-- the Model's numbers of letters: of the rules, and of the word -/
def Tr (M : PM) (m : Nat) (G : GS) : Prop := ∃ t, M[m + 7]? = some (aJ 27 t) ∧ ∀ j, j < G.1.length → t j = ltG G j
def Tm (M : PM) (m : Nat) (G : GS) : Prop := ∃ t, M[m + 7]? = some (aJ 27 t) ∧ (∀ j, j < G.1.length → t j = ltG G j) ∧ t 26 = wlG G
theorem Tm.tr {M : PM} {m : Nat} {G : GS} (h : Tm M m G) : Tr M m G := by
  obtain ⟨t, h1, h2, -⟩ := h
  exact ⟨t, h1, h2⟩
section MD7
variable {M : PM} {m : Nat} {G : GS}
end MD7
