/-! Tables that are made rule by rule: letters, depths; the Model's measures. -/
def recT (F : Nat → (Nat → Int) → Int) : Nat → Nat → Int
  | 0 => fun _ => 0
  | n + 1 => upz (recT F n) n (F n (recT F n))
theorem recT_st {F : Nat → (Nat → Int) → Int} {j : Nat} : ∀ {n : Nat}, j < n → recT F n j = F j (recT F j)
  | 0, h => absurd h (by omega)
  | n + 1, h => by
    rw [recT]
    by_cases he : j = n
    · subst he; rw [upz_at]
    · rw [upz_ne _ _ he]; exact recT_st (by omega)
theorem recT_fix {F : Nat → (Nat → Int) → Int} (hF : ∀ j a b, (∀ i, i < j → a i = b i) → F j a = F j b) {j n : Nat} (h : j < n) : recT F n j = F j (recT F n) := by
  rw [recT_st h]
  exact hF j _ _ (fun i hi => by rw [recT_st hi, recT_st (by omega)])
theorem recT_uniq {F : Nat → (Nat → Int) → Int} (hF : ∀ j a b, (∀ i, i < j → a i = b i) → F j a = F j b) {n : Nat} {a : Nat → Int} (h : ∀ j, j < n → a j = F j a) (j : Nat) : j < n → a j = recT F n j := by
  induction j using Nat.strongRecOn with
  | ind j ih =>
    intro hj
    rw [h j hj, recT_fix hF hj]
    exact hF j _ _ (fun i hi => ih i hi (by omega))
theorem lsy_loc {a b : Nat → Int} {j : Nat} (h : ∀ i, i < j → a i = b i) (s : Int) : lsy j a s = lsy j b s := by
  unfold lsy
  split
  · exact h _ (by omega)
  · rfl
theorem lsy_up {a : Nat → Int} {j N : Nat} (hj : j ≤ N) {s : Int} (hs : s < 8 + (j : Int)) : lsy j a s = lsy N a s := by
  unfold lsy
  by_cases h : 8 ≤ s
  · rw [if_pos ⟨h, hs⟩, if_pos ⟨h, by omega⟩]
  · rw [if_neg (by omega), if_neg (by omega)]
theorem dsy_loc {a b : Nat → Int} {j : Nat} (h : ∀ i, i < j → a i = b i) (s : Int) : dsy j a s = dsy j b s := by
  unfold dsy
  split
  · exact h _ (by omega)
  · rfl
theorem dsy_up {a : Nat → Int} {j N : Nat} (hj : j ≤ N) {s : Int} (hs : s < 8 + (j : Int)) : dsy j a s = dsy N a s := by
  unfold dsy
  by_cases h : 8 ≤ s
  · rw [if_pos ⟨h, hs⟩, if_pos ⟨h, by omega⟩]
  · rw [if_neg (by omega), if_neg (by omega)]
def fLt (G : GS) (j : Nat) (a : Nat → Int) : Int := min (sumL (lsy j a) (xof G.1 j)) 10000
def fDp (G : GS) (j : Nat) (a : Nat → Int) : Int := mxD (dsy j a) (xof G.1 j) + 1
theorem fLt_loc (G : GS) : ∀ j a b, (∀ i, i < j → a i = b i) → fLt G j a = fLt G j b := by
  intro j a b h
  unfold fLt
  rw [sumL_congr (fun s _ => lsy_loc h s)]
theorem fDp_loc (G : GS) : ∀ j a b, (∀ i, i < j → a i = b i) → fDp G j a = fDp G j b := by
  intro j a b h
  unfold fDp
  rw [mxD_congr (fun s _ => dsy_loc h s)]
def ltG (G : GS) : Nat → Int := recT (fLt G) G.1.length
def dpG (G : GS) : Nat → Int := recT (fDp G) G.1.length
def lyG (G : GS) : Int → Int := lsy G.1.length (ltG G)
def wlG (G : GS) : Int := min (sumL (lyG G) G.2) 10000
theorem ltG_fix {G : GS} (hW : WFG G) {j : Nat} (hj : j < G.1.length) : ltG G j = min (sumL (lyG G) (xof G.1 j)) 10000 := by
  unfold ltG
  rw [recT_fix (fLt_loc G) hj]
  have e : fLt G j (recT (fLt G) G.1.length) = min (sumL (lsy j (ltG G)) (xof G.1 j)) 10000 := rfl
  rw [e, sumL_congr (f := lsy j (ltG G)) (f' := lyG G) (fun s hs => lsy_up (by omega) (hW.1 j hj s hs).2)]
theorem dpG_fix {G : GS} (hW : WFG G) {j : Nat} (hj : j < G.1.length) : dpG G j = mxD (dsy G.1.length (dpG G)) (xof G.1 j) + 1 := by
  unfold dpG
  rw [recT_fix (fDp_loc G) hj]
  have e : fDp G j (recT (fDp G) G.1.length) = mxD (dsy j (dpG G)) (xof G.1 j) + 1 := rfl
  rw [e, mxD_congr (f := dsy j (dpG G)) (f' := dsy G.1.length (dpG G)) (fun s hs => dsy_up (by omega) (hW.1 j hj s hs).2)]
  rfl
theorem ltG_bd {G : GS} (hW : WFG G) (j : Nat) : j < G.1.length → 0 ≤ ltG G j ∧ ltG G j ≤ 10000 := by
  induction j using Nat.strongRecOn with
  | ind j ih =>
    intro hj
    rw [ltG_fix hW hj]
    have h1 : 0 ≤ sumL (lyG G) (xof G.1 j) := by
      refine sumL_nn _ _ (fun s hs => ?_)
      have h2 := hW.1 j hj s hs
      unfold lyG lsy
      split
      · exact (ih _ (by omega) (by omega)).1
      · omega
    omega
theorem lyG_bd {G : GS} (hW : WFG G) (s : Int) : 0 ≤ lyG G s ∧ lyG G s ≤ 10000 := by
  unfold lyG lsy
  split
  · exact ltG_bd hW _ (by omega)
  · omega
theorem wlG_bd {G : GS} (hW : WFG G) : 0 ≤ wlG G ∧ wlG G ≤ 10000 := by
  have h1 := sumL_nn (lyG G) G.2 (fun s _ => (lyG_bd hW s).1)
  unfold wlG
  omega
theorem dpG_bd {G : GS} (hW : WFG G) (j : Nat) : j < G.1.length → 0 ≤ dpG G j ∧ dpG G j ≤ (j : Int) + 1 := by
  induction j using Nat.strongRecOn with
  | ind j ih =>
    intro hj
    rw [dpG_fix hW hj]
    have h1 := mxD_bd (f := dsy G.1.length (dpG G)) (B := (j : Int)) (by omega) (xs := xof G.1 j) (fun s hs => by
      have h2 := hW.1 j hj s hs
      unfold dsy
      split
      · have := (ih (s - 8).toNat (by omega) (by omega)).2
        omega
      · omega)
    omega
theorem lyG_rule {G : GS} {s : Int} (h : 8 ≤ s) (h1 : s < 8 + G.1.length) : lyG G s = ltG G (s - 8).toNat := if_pos ⟨h, h1⟩
theorem lyG_letter {G : GS} {s : Int} (h : s < 8) : lyG G s = 1 := if_neg (by omega)
theorem WFG.rwb {G : GS} (h : WFG G) {k : Nat} (hk : k ≤ G.1.length) (hN : G.1.length ≤ 26) : ∀ s ∈ rwG G (rwN G k), 0 ≤ s ∧ s < 8 + (k : Int) := by
  intro s hs
  by_cases he : k < G.1.length
  · rw [rwN_lt he hN] at hs
    exact h.1 k he s hs
  · rw [rwN_ge G (by omega)] at hs
    have := h.2.1 s hs
    omega
/-- the Model's numbers of letters: of the rules, and of the word -/
def Tr (M : PM) (m : Nat) (G : GS) : Prop := ∃ t, M[m + 7]? = some (aJ 27 t) ∧ ∀ j, j < G.1.length → t j = ltG G j
def Tm (M : PM) (m : Nat) (G : GS) : Prop := ∃ t, M[m + 7]? = some (aJ 27 t) ∧ (∀ j, j < G.1.length → t j = ltG G j) ∧ t 26 = wlG G
theorem Tm.tr {M : PM} {m : Nat} {G : GS} (h : Tm M m G) : Tr M m G := by
  obtain ⟨t, h1, h2, -⟩ := h
  exact ⟨t, h1, h2⟩
section MD7
variable {M : PM} {m : Nat} {G : GS}
theorem c_Md_lettersF {t : Nat → Int} {a b c d e s : Int} (hO : MO M m a b c d e) (hT : M[m + 7]? = some (aJ 27 t)) (h0 : 0 ≤ s) (h1 : s < 34) : Wm 132 [.ref m, .int (I s)] M (fun v M' => v = some (.int (I (if s < 8 then 1 else t (s - 8).toNat))) ∧ M' = M) := by
  have hil := c_Md_isLetter (M := M) (s := s) ⟨by omega, by omega⟩
  by_cases hq : s < 8
  · rw [if_pos hq] at hil ⊢
    refine wm_in (lv := _) rfl rfl rfl ?_
    repeat (refine wf rfl ?_; first | refine wq_iadd ?_ | refine wq_isub ?_ | refine wq_imul ?_ | refine wq_iinc rfl ?_ | refine wq_goto ?_ | refine wq_k rfl ?_ | refine wq_b rfl rfl ?_ | refine wq_getf (by assumption) rfl ?_ | refine wq_alen (by assumption) rfl ?_)
    refine wf rfl (wq_cs rfl rfl (hil.mono ?_))
    rintro v M ⟨rfl, rfl⟩
    repeat' (refine wf rfl ?_; first | refine wq_iadd ?_ | refine wq_isub ?_ | refine wq_imul ?_ | refine wq_iinc rfl ?_ | refine wq_goto ?_ | refine wq_k rfl ?_ | refine wq_b rfl rfl ?_ | refine wq_getf (by assumption) rfl ?_ | refine wq_alen (by assumption) rfl ?_ | (refine wq_eq ⟨by omega, by omega⟩ ⟨by omega, by omega⟩ (fun _ => ?_) (fun _ => ?_) <;> try (exfalso; omega)) | (refine wq_ne ⟨by omega, by omega⟩ ⟨by omega, by omega⟩ (fun _ => ?_) (fun _ => ?_) <;> try (exfalso; omega)) | (refine wq_lt ⟨by omega, by omega⟩ ⟨by omega, by omega⟩ (fun _ => ?_) (fun _ => ?_) <;> try (exfalso; omega)) | (refine wq_ge ⟨by omega, by omega⟩ ⟨by omega, by omega⟩ (fun _ => ?_) (fun _ => ?_) <;> try (exfalso; omega)) | (refine wq_gt ⟨by omega, by omega⟩ ⟨by omega, by omega⟩ (fun _ => ?_) (fun _ => ?_) <;> try (exfalso; omega)) | (refine wq_le ⟨by omega, by omega⟩ ⟨by omega, by omega⟩ (fun _ => ?_) (fun _ => ?_) <;> try (exfalso; omega)) | (refine wq_ifeq ⟨by omega, by omega⟩ (fun _ => ?_) (fun _ => ?_) <;> try (exfalso; omega)) | (refine wq_ifne ⟨by omega, by omega⟩ (fun _ => ?_) (fun _ => ?_) <;> try (exfalso; omega)) | (refine wq_iflt ⟨by omega, by omega⟩ (fun _ => ?_) (fun _ => ?_) <;> try (exfalso; omega)) | (refine wq_ifge ⟨by omega, by omega⟩ (fun _ => ?_) (fun _ => ?_) <;> try (exfalso; omega)) | (refine wq_ifgt ⟨by omega, by omega⟩ (fun _ => ?_) (fun _ => ?_) <;> try (exfalso; omega)) | (refine wq_ifle ⟨by omega, by omega⟩ (fun _ => ?_) (fun _ => ?_) <;> try (exfalso; omega)) | refine wq_r rfl rfl rfl rfl rfl rfl ?_)
    exact ⟨rfl, rfl⟩
  · rw [if_neg hq] at hil ⊢
    refine wm_in (lv := _) rfl rfl rfl ?_
    repeat (refine wf rfl ?_; first | refine wq_iadd ?_ | refine wq_isub ?_ | refine wq_imul ?_ | refine wq_iinc rfl ?_ | refine wq_goto ?_ | refine wq_k rfl ?_ | refine wq_b rfl rfl ?_ | refine wq_getf (by assumption) rfl ?_ | refine wq_alen (by assumption) rfl ?_)
    refine wf rfl (wq_cs rfl rfl (hil.mono ?_))
    rintro v M ⟨rfl, rfl⟩
    repeat' (refine wf rfl ?_; first | refine wq_iadd ?_ | refine wq_isub ?_ | refine wq_imul ?_ | refine wq_iinc rfl ?_ | refine wq_goto ?_ | refine wq_k rfl ?_ | refine wq_b rfl rfl ?_ | refine wq_getf (by assumption) rfl ?_ | refine wq_alen (by assumption) rfl ?_ | (refine wq_eq ⟨by omega, by omega⟩ ⟨by omega, by omega⟩ (fun _ => ?_) (fun _ => ?_) <;> try (exfalso; omega)) | (refine wq_ne ⟨by omega, by omega⟩ ⟨by omega, by omega⟩ (fun _ => ?_) (fun _ => ?_) <;> try (exfalso; omega)) | (refine wq_lt ⟨by omega, by omega⟩ ⟨by omega, by omega⟩ (fun _ => ?_) (fun _ => ?_) <;> try (exfalso; omega)) | (refine wq_ge ⟨by omega, by omega⟩ ⟨by omega, by omega⟩ (fun _ => ?_) (fun _ => ?_) <;> try (exfalso; omega)) | (refine wq_gt ⟨by omega, by omega⟩ ⟨by omega, by omega⟩ (fun _ => ?_) (fun _ => ?_) <;> try (exfalso; omega)) | (refine wq_le ⟨by omega, by omega⟩ ⟨by omega, by omega⟩ (fun _ => ?_) (fun _ => ?_) <;> try (exfalso; omega)) | (refine wq_ifeq ⟨by omega, by omega⟩ (fun _ => ?_) (fun _ => ?_) <;> try (exfalso; omega)) | (refine wq_ifne ⟨by omega, by omega⟩ (fun _ => ?_) (fun _ => ?_) <;> try (exfalso; omega)) | (refine wq_iflt ⟨by omega, by omega⟩ (fun _ => ?_) (fun _ => ?_) <;> try (exfalso; omega)) | (refine wq_ifge ⟨by omega, by omega⟩ (fun _ => ?_) (fun _ => ?_) <;> try (exfalso; omega)) | (refine wq_ifgt ⟨by omega, by omega⟩ (fun _ => ?_) (fun _ => ?_) <;> try (exfalso; omega)) | (refine wq_ifle ⟨by omega, by omega⟩ (fun _ => ?_) (fun _ => ?_) <;> try (exfalso; omega)) | refine wq_r rfl rfl rfl rfl rfl rfl ?_)
    refine wf rfl (wq_cs rfl rfl (c_Md_ruleOf.mono ?_))
    rintro v M ⟨rfl, rfl⟩
    repeat' (refine wf rfl ?_; first | refine wq_iadd ?_ | refine wq_isub ?_ | refine wq_imul ?_ | refine wq_iinc rfl ?_ | refine wq_goto ?_ | refine wq_k rfl ?_ | refine wq_b rfl rfl ?_ | refine wq_getf (by assumption) rfl ?_ | refine wq_alen (by assumption) rfl ?_ | refine wq_iald hT ⟨by omega, by omega⟩ (by omega) (by omega) ?_ | (refine wq_eq ⟨by omega, by omega⟩ ⟨by omega, by omega⟩ (fun _ => ?_) (fun _ => ?_) <;> try (exfalso; omega)) | (refine wq_ne ⟨by omega, by omega⟩ ⟨by omega, by omega⟩ (fun _ => ?_) (fun _ => ?_) <;> try (exfalso; omega)) | (refine wq_lt ⟨by omega, by omega⟩ ⟨by omega, by omega⟩ (fun _ => ?_) (fun _ => ?_) <;> try (exfalso; omega)) | (refine wq_ge ⟨by omega, by omega⟩ ⟨by omega, by omega⟩ (fun _ => ?_) (fun _ => ?_) <;> try (exfalso; omega)) | (refine wq_gt ⟨by omega, by omega⟩ ⟨by omega, by omega⟩ (fun _ => ?_) (fun _ => ?_) <;> try (exfalso; omega)) | (refine wq_le ⟨by omega, by omega⟩ ⟨by omega, by omega⟩ (fun _ => ?_) (fun _ => ?_) <;> try (exfalso; omega)) | (refine wq_ifeq ⟨by omega, by omega⟩ (fun _ => ?_) (fun _ => ?_) <;> try (exfalso; omega)) | (refine wq_ifne ⟨by omega, by omega⟩ (fun _ => ?_) (fun _ => ?_) <;> try (exfalso; omega)) | (refine wq_iflt ⟨by omega, by omega⟩ (fun _ => ?_) (fun _ => ?_) <;> try (exfalso; omega)) | (refine wq_ifge ⟨by omega, by omega⟩ (fun _ => ?_) (fun _ => ?_) <;> try (exfalso; omega)) | (refine wq_ifgt ⟨by omega, by omega⟩ (fun _ => ?_) (fun _ => ?_) <;> try (exfalso; omega)) | (refine wq_ifle ⟨by omega, by omega⟩ (fun _ => ?_) (fun _ => ?_) <;> try (exfalso; omega)) | refine wq_r rfl rfl rfl rfl rfl rfl ?_)
    exact ⟨rfl, rfl⟩
theorem c_Md_letters {s : Int} (h : Mr M m G) (hT : Tr M m G) (h0 : 0 ≤ s) (h1 : s < 8 + G.1.length) : Wm 132 [.ref m, .int (I s)] M (fun v M' => v = some (.int (I (lyG G s))) ∧ M' = M) := by
  have hN := h.le
  obtain ⟨⟨a, b, c, d, e, hO⟩, -⟩ := id h
  obtain ⟨t, h2, h3⟩ := hT
  refine (c_Md_lettersF hO h2 h0 (by omega)).mono ?_
  rintro v M' ⟨rfl, rfl⟩
  refine ⟨?_, rfl⟩
  by_cases hq : s < 8
  · rw [if_pos hq, lyG_letter hq]
  · rw [if_neg hq, lyG_rule (by omega) h1, h3 _ (by omega)]
theorem lp_measI {t : Nat → Int} {k r : Int} {Q : Option Value → PM → Prop} (h : Mr M m G) (hW : WFG G) (hr : vrG G r) (hT : M[m + 7]? = some (aJ 27 t)) (hs : ∀ s ∈ rwG G r, lyG G s = if s < 8 then 1 else t (s - 8).toNat)
    (hk : ∀ M1 : PM, M1[m + 7]? = some (aJ 27 (upz t r.toNat (min (sumL (lyG G) (rwG G r)) 10000))) → Fr (fun q => q = m + 7) M M1 → Wp k_X10_measures (2, [(0, .ref m), (1, .int (I (k + 1)))], [], M1) Q) (n : Nat) : ∀ (z p : Int), (0 ≤ p ∧ p ≤ (rwG G r).length ∧ (rwG G r).length - p < n ∧ z = sumL (lyG G) ((rwG G r).take p.toNat)) →
    Wp k_X10_measures (25, [(0, .ref m), (1, .int (I k)), (2, .int (I r)), (3, .int (I z)), (4, .int (I p))], [], M) Q := by
  have hN := h.le
  have hl := h.rl hr
  have hrl := c_Md_rowLong h hr
  obtain ⟨⟨a, b, c, d, e, hO⟩, -⟩ := id h
  induction n with
  | zero => intro z p hi; exfalso; omega
  | succ n ih =>
    rintro z p ⟨i1, i2, i3, i4⟩
    have bz := sumL_bd (f := lyG G) (xs := (rwG G r).take p.toNat) (fun s _ => lyG_bd hW s)
    rw [← i4, List.length_take] at bz
    repeat (refine wf rfl ?_; first | refine wq_iadd ?_ | refine wq_isub ?_ | refine wq_imul ?_ | refine wq_iinc rfl ?_ | refine wq_goto ?_ | refine wq_k rfl ?_ | refine wq_b rfl rfl ?_ | refine wq_getf (by assumption) rfl ?_ | refine wq_alen (by assumption) rfl ?_)
    refine wf rfl (wq_cv rfl rfl rfl hO (hrl.mono ?_))
    rintro v M ⟨rfl, rfl⟩
    refine wf rfl (wq_ge ⟨by omega, by omega⟩ ⟨by omega, by omega⟩ (fun c2 => ?_) (fun c2 => ?_))
    · rw [List.take_of_length_le (by omega)] at i4
      repeat (refine wf rfl ?_; first | refine wq_iadd ?_ | refine wq_isub ?_ | refine wq_imul ?_ | refine wq_iinc rfl ?_ | refine wq_goto ?_ | refine wq_k rfl ?_ | refine wq_b rfl rfl ?_ | refine wq_getf (by assumption) rfl ?_ | refine wq_alen (by assumption) rfl ?_)
      refine wf rfl (wq_le ⟨by omega, by omega⟩ ⟨by omega, by omega⟩ (fun c3 => ?_) (fun c3 => ?_))
      · repeat (refine wf rfl ?_; first | refine wq_iadd ?_ | refine wq_isub ?_ | refine wq_imul ?_ | refine wq_iinc rfl ?_ | refine wq_goto ?_ | refine wq_k rfl ?_ | refine wq_b rfl rfl ?_ | refine wq_getf (by assumption) rfl ?_ | refine wq_alen (by assumption) rfl ?_)
        refine wf rfl (wq_iast hT rfl ⟨by omega, by omega⟩ (by omega) (by omega) (fun M1 e1 f1 => ?_))
        have hst := fun (_ : True) => hk M1 (by rw [← i4, Int.min_eq_left (by omega)]; exact e1) f1
        repeat' (first | (refine Wp.sub (hst  ?_) ⟨rfl, rfl, trivial⟩ rfl) | (refine wf rfl ?_; first | refine wq_iadd ?_ | refine wq_isub ?_ | refine wq_imul ?_ | refine wq_iinc rfl ?_ | refine wq_goto ?_ | refine wq_k rfl ?_ | refine wq_b rfl rfl ?_ | refine wq_getf (by assumption) rfl ?_ | refine wq_alen (by assumption) rfl ?_ | fail | (refine wq_eq ⟨by omega, by omega⟩ ⟨by omega, by omega⟩ (fun _ => ?_) (fun _ => ?_) <;> try (exfalso; omega)) | (refine wq_ne ⟨by omega, by omega⟩ ⟨by omega, by omega⟩ (fun _ => ?_) (fun _ => ?_) <;> try (exfalso; omega)) | (refine wq_lt ⟨by omega, by omega⟩ ⟨by omega, by omega⟩ (fun _ => ?_) (fun _ => ?_) <;> try (exfalso; omega)) | (refine wq_ge ⟨by omega, by omega⟩ ⟨by omega, by omega⟩ (fun _ => ?_) (fun _ => ?_) <;> try (exfalso; omega)) | (refine wq_gt ⟨by omega, by omega⟩ ⟨by omega, by omega⟩ (fun _ => ?_) (fun _ => ?_) <;> try (exfalso; omega)) | (refine wq_le ⟨by omega, by omega⟩ ⟨by omega, by omega⟩ (fun _ => ?_) (fun _ => ?_) <;> try (exfalso; omega)) | (refine wq_ifeq ⟨by omega, by omega⟩ (fun _ => ?_) (fun _ => ?_) <;> try (exfalso; omega)) | (refine wq_ifne ⟨by omega, by omega⟩ (fun _ => ?_) (fun _ => ?_) <;> try (exfalso; omega)) | (refine wq_iflt ⟨by omega, by omega⟩ (fun _ => ?_) (fun _ => ?_) <;> try (exfalso; omega)) | (refine wq_ifge ⟨by omega, by omega⟩ (fun _ => ?_) (fun _ => ?_) <;> try (exfalso; omega)) | (refine wq_ifgt ⟨by omega, by omega⟩ (fun _ => ?_) (fun _ => ?_) <;> try (exfalso; omega)) | (refine wq_ifle ⟨by omega, by omega⟩ (fun _ => ?_) (fun _ => ?_) <;> try (exfalso; omega)) | refine wq_r rfl rfl rfl rfl rfl rfl ?_))
        trivial
      · repeat (refine wf rfl ?_; first | refine wq_iadd ?_ | refine wq_isub ?_ | refine wq_imul ?_ | refine wq_iinc rfl ?_ | refine wq_goto ?_ | refine wq_k rfl ?_ | refine wq_b rfl rfl ?_ | refine wq_getf (by assumption) rfl ?_ | refine wq_alen (by assumption) rfl ?_)
        refine wf rfl (wq_iast hT rfl ⟨by omega, by omega⟩ (by omega) (by omega) (fun M1 e1 f1 => ?_))
        have hst := fun (_ : True) => hk M1 (by rw [← i4, Int.min_eq_right (by omega)]; exact e1) f1
        repeat' (first | (refine Wp.sub (hst  ?_) ⟨rfl, rfl, trivial⟩ rfl) | (refine wf rfl ?_; first | refine wq_iadd ?_ | refine wq_isub ?_ | refine wq_imul ?_ | refine wq_iinc rfl ?_ | refine wq_goto ?_ | refine wq_k rfl ?_ | refine wq_b rfl rfl ?_ | refine wq_getf (by assumption) rfl ?_ | refine wq_alen (by assumption) rfl ?_ | fail | (refine wq_eq ⟨by omega, by omega⟩ ⟨by omega, by omega⟩ (fun _ => ?_) (fun _ => ?_) <;> try (exfalso; omega)) | (refine wq_ne ⟨by omega, by omega⟩ ⟨by omega, by omega⟩ (fun _ => ?_) (fun _ => ?_) <;> try (exfalso; omega)) | (refine wq_lt ⟨by omega, by omega⟩ ⟨by omega, by omega⟩ (fun _ => ?_) (fun _ => ?_) <;> try (exfalso; omega)) | (refine wq_ge ⟨by omega, by omega⟩ ⟨by omega, by omega⟩ (fun _ => ?_) (fun _ => ?_) <;> try (exfalso; omega)) | (refine wq_gt ⟨by omega, by omega⟩ ⟨by omega, by omega⟩ (fun _ => ?_) (fun _ => ?_) <;> try (exfalso; omega)) | (refine wq_le ⟨by omega, by omega⟩ ⟨by omega, by omega⟩ (fun _ => ?_) (fun _ => ?_) <;> try (exfalso; omega)) | (refine wq_ifeq ⟨by omega, by omega⟩ (fun _ => ?_) (fun _ => ?_) <;> try (exfalso; omega)) | (refine wq_ifne ⟨by omega, by omega⟩ (fun _ => ?_) (fun _ => ?_) <;> try (exfalso; omega)) | (refine wq_iflt ⟨by omega, by omega⟩ (fun _ => ?_) (fun _ => ?_) <;> try (exfalso; omega)) | (refine wq_ifge ⟨by omega, by omega⟩ (fun _ => ?_) (fun _ => ?_) <;> try (exfalso; omega)) | (refine wq_ifgt ⟨by omega, by omega⟩ (fun _ => ?_) (fun _ => ?_) <;> try (exfalso; omega)) | (refine wq_ifle ⟨by omega, by omega⟩ (fun _ => ?_) (fun _ => ?_) <;> try (exfalso; omega)) | refine wq_r rfl rfl rfl rfl rfl rfl ?_))
        trivial
    · have bd := rat_sbd hW hN hr i1 c2
      have hat := c_Md_at h hr i1 c2
      have hle := c_Md_lettersF (s := rat (rwG G r) p) hO hT bd.1 bd.2
      rw [← hs _ (rat_mem i1 c2)] at hle
      repeat (refine wf rfl ?_; first | refine wq_iadd ?_ | refine wq_isub ?_ | refine wq_imul ?_ | refine wq_iinc rfl ?_ | refine wq_goto ?_ | refine wq_k rfl ?_ | refine wq_b rfl rfl ?_ | refine wq_getf (by assumption) rfl ?_ | refine wq_alen (by assumption) rfl ?_)
      refine wf rfl (wq_cv rfl rfl rfl hO (hat.mono ?_))
      rintro v M ⟨rfl, rfl⟩
      refine wf rfl (wq_cv rfl rfl rfl hO (hle.mono ?_))
      rintro v M ⟨rfl, rfl⟩
      repeat' (first | (refine Wp.sub (ih _ _ ?_) ⟨rfl, rfl, rfl, rfl, rfl, trivial⟩ rfl) | (refine wf rfl ?_; first | refine wq_iadd ?_ | refine wq_isub ?_ | refine wq_imul ?_ | refine wq_iinc rfl ?_ | refine wq_goto ?_ | refine wq_k rfl ?_ | refine wq_b rfl rfl ?_ | refine wq_getf (by assumption) rfl ?_ | refine wq_alen (by assumption) rfl ?_ | fail | (refine wq_eq ⟨by omega, by omega⟩ ⟨by omega, by omega⟩ (fun _ => ?_) (fun _ => ?_) <;> try (exfalso; omega)) | (refine wq_ne ⟨by omega, by omega⟩ ⟨by omega, by omega⟩ (fun _ => ?_) (fun _ => ?_) <;> try (exfalso; omega)) | (refine wq_lt ⟨by omega, by omega⟩ ⟨by omega, by omega⟩ (fun _ => ?_) (fun _ => ?_) <;> try (exfalso; omega)) | (refine wq_ge ⟨by omega, by omega⟩ ⟨by omega, by omega⟩ (fun _ => ?_) (fun _ => ?_) <;> try (exfalso; omega)) | (refine wq_gt ⟨by omega, by omega⟩ ⟨by omega, by omega⟩ (fun _ => ?_) (fun _ => ?_) <;> try (exfalso; omega)) | (refine wq_le ⟨by omega, by omega⟩ ⟨by omega, by omega⟩ (fun _ => ?_) (fun _ => ?_) <;> try (exfalso; omega)) | (refine wq_ifeq ⟨by omega, by omega⟩ (fun _ => ?_) (fun _ => ?_) <;> try (exfalso; omega)) | (refine wq_ifne ⟨by omega, by omega⟩ (fun _ => ?_) (fun _ => ?_) <;> try (exfalso; omega)) | (refine wq_iflt ⟨by omega, by omega⟩ (fun _ => ?_) (fun _ => ?_) <;> try (exfalso; omega)) | (refine wq_ifge ⟨by omega, by omega⟩ (fun _ => ?_) (fun _ => ?_) <;> try (exfalso; omega)) | (refine wq_ifgt ⟨by omega, by omega⟩ (fun _ => ?_) (fun _ => ?_) <;> try (exfalso; omega)) | (refine wq_ifle ⟨by omega, by omega⟩ (fun _ => ?_) (fun _ => ?_) <;> try (exfalso; omega)) | refine wq_r rfl rfl rfl rfl rfl rfl ?_))
      exact ⟨by omega, by omega, by omega, by rw [sumL_take i1 c2, ← i4]⟩
theorem lp_meas (h : Mr M m G) (hW : WFG G) (n : Nat) : ∀ (k : Int) (M1 : PM), (0 ≤ k ∧ k ≤ G.1.length + 1 ∧ G.1.length + 1 - k < n ∧ Fr (fun q => q = m + 7) M M1 ∧ ∃ t, M1[m + 7]? = some (aJ 27 t) ∧ (∀ j : Nat, (j : Int) < k → j < G.1.length → t j = ltG G j) ∧ (k = G.1.length + 1 → t 26 = wlG G)) →
    Wp k_X10_measures (2, [(0, .ref m), (1, .int (I k))], [], M1) (fun v M' => v = none ∧ Fr (fun q => q = m + 7) M M' ∧ Tm M' m G) := by
  have hN := h.le
  induction n with
  | zero => intro k M1 hi; exfalso; omega
  | succ n ih =>
    rintro k M1 ⟨i1, i2, i3, i4, t, j1, j2, j3⟩
    have h1 := h.fr i4 (by omega) (by omega)
    obtain ⟨⟨a, b, c, d, e, hO⟩, f, hA, hG⟩ := id h1
    have g : f (2187 : Int).toNat = G.1.length := hG.cnt.1
    have hra := c_Md_rowAt (k := k) ⟨by omega, by omega⟩ h1
    repeat (refine wf rfl ?_; first | refine wq_iadd ?_ | refine wq_isub ?_ | refine wq_imul ?_ | refine wq_iinc rfl ?_ | refine wq_goto ?_ | refine wq_k rfl ?_ | refine wq_b rfl rfl ?_ | refine wq_getf (by assumption) rfl ?_ | refine wq_alen (by assumption) rfl ?_)
    refine wf rfl (wq_iald hA ⟨by omega, by omega⟩ (by omega) (by omega) ?_)
    refine wf rfl (wq_gt ⟨by omega, by omega⟩ ⟨by omega, by omega⟩ (fun c2 => ?_) (fun c2 => ?_))
    · repeat' (refine wf rfl ?_; first | refine wq_iadd ?_ | refine wq_isub ?_ | refine wq_imul ?_ | refine wq_iinc rfl ?_ | refine wq_goto ?_ | refine wq_k rfl ?_ | refine wq_b rfl rfl ?_ | refine wq_getf (by assumption) rfl ?_ | refine wq_alen (by assumption) rfl ?_ | (refine wq_eq ⟨by omega, by omega⟩ ⟨by omega, by omega⟩ (fun _ => ?_) (fun _ => ?_) <;> try (exfalso; omega)) | (refine wq_ne ⟨by omega, by omega⟩ ⟨by omega, by omega⟩ (fun _ => ?_) (fun _ => ?_) <;> try (exfalso; omega)) | (refine wq_lt ⟨by omega, by omega⟩ ⟨by omega, by omega⟩ (fun _ => ?_) (fun _ => ?_) <;> try (exfalso; omega)) | (refine wq_ge ⟨by omega, by omega⟩ ⟨by omega, by omega⟩ (fun _ => ?_) (fun _ => ?_) <;> try (exfalso; omega)) | (refine wq_gt ⟨by omega, by omega⟩ ⟨by omega, by omega⟩ (fun _ => ?_) (fun _ => ?_) <;> try (exfalso; omega)) | (refine wq_le ⟨by omega, by omega⟩ ⟨by omega, by omega⟩ (fun _ => ?_) (fun _ => ?_) <;> try (exfalso; omega)) | (refine wq_ifeq ⟨by omega, by omega⟩ (fun _ => ?_) (fun _ => ?_) <;> try (exfalso; omega)) | (refine wq_ifne ⟨by omega, by omega⟩ (fun _ => ?_) (fun _ => ?_) <;> try (exfalso; omega)) | (refine wq_iflt ⟨by omega, by omega⟩ (fun _ => ?_) (fun _ => ?_) <;> try (exfalso; omega)) | (refine wq_ifge ⟨by omega, by omega⟩ (fun _ => ?_) (fun _ => ?_) <;> try (exfalso; omega)) | (refine wq_ifgt ⟨by omega, by omega⟩ (fun _ => ?_) (fun _ => ?_) <;> try (exfalso; omega)) | (refine wq_ifle ⟨by omega, by omega⟩ (fun _ => ?_) (fun _ => ?_) <;> try (exfalso; omega)) | refine wq_r rfl rfl rfl rfl rfl rfl ?_)
      exact ⟨rfl, i4, t, j1, fun j hj => j2 j (by omega) hj, j3 (by omega)⟩
    · have vk := vrN (G := G) i1
      have hl := h1.rl vk
      have ek : ((k.toNat : Nat) : Int) = k := by omega
      have hb := hW.rwb (k := k.toNat) (by omega) hN
      rw [ek] at hb
      have hst := lp_measI (k := k) (r := rwN G k) (t := t) h1 hW vk j1 (fun s hs => by
        have hs := hb s hs
        by_cases hq : s < 8
        · rw [if_pos hq, lyG_letter hq]
        · rw [if_neg hq, lyG_rule (by omega) (by omega), j2 _ (by omega) (by omega)]) (fun M2 e2 f2 => ih (k + 1) M2 ⟨by omega, by omega, by omega, i4.tr f2, _, e2, fun j w1 w2 => by
          by_cases he : (j : Int) = k
          · have er : rwN G k = k := if_pos (by omega)
            have e5 := rwN_lt (G := G) (k := j) w2 hN
            rw [he] at e5
            rw [e5, er, show k.toNat = j by omega, upz_at, ltG_fix hW w2]
          · rw [upz_ne]
            · exact j2 j (by omega) w2
            · unfold rwN
              split <;> omega, fun w1 => by
          have er : rwN G k = 26 := if_neg (by omega)
          rw [er, rwM]
          exact upz_at _ _ _⟩) 100
      repeat (refine wf rfl ?_; first | refine wq_iadd ?_ | refine wq_isub ?_ | refine wq_imul ?_ | refine wq_iinc rfl ?_ | refine wq_goto ?_ | refine wq_k rfl ?_ | refine wq_b rfl rfl ?_ | refine wq_getf (by assumption) rfl ?_ | refine wq_alen (by assumption) rfl ?_)
      refine wf rfl (wq_cv rfl rfl rfl hO (hra.mono ?_))
      rintro v M1 ⟨rfl, rfl⟩
      repeat' (first | (refine Wp.sub (hst _ _ ?_) ⟨rfl, rfl, rfl, rfl, rfl, trivial⟩ rfl) | (refine wf rfl ?_; first | refine wq_iadd ?_ | refine wq_isub ?_ | refine wq_imul ?_ | refine wq_iinc rfl ?_ | refine wq_goto ?_ | refine wq_k rfl ?_ | refine wq_b rfl rfl ?_ | refine wq_getf (by assumption) rfl ?_ | refine wq_alen (by assumption) rfl ?_ | fail | (refine wq_eq ⟨by omega, by omega⟩ ⟨by omega, by omega⟩ (fun _ => ?_) (fun _ => ?_) <;> try (exfalso; omega)) | (refine wq_ne ⟨by omega, by omega⟩ ⟨by omega, by omega⟩ (fun _ => ?_) (fun _ => ?_) <;> try (exfalso; omega)) | (refine wq_lt ⟨by omega, by omega⟩ ⟨by omega, by omega⟩ (fun _ => ?_) (fun _ => ?_) <;> try (exfalso; omega)) | (refine wq_ge ⟨by omega, by omega⟩ ⟨by omega, by omega⟩ (fun _ => ?_) (fun _ => ?_) <;> try (exfalso; omega)) | (refine wq_gt ⟨by omega, by omega⟩ ⟨by omega, by omega⟩ (fun _ => ?_) (fun _ => ?_) <;> try (exfalso; omega)) | (refine wq_le ⟨by omega, by omega⟩ ⟨by omega, by omega⟩ (fun _ => ?_) (fun _ => ?_) <;> try (exfalso; omega)) | (refine wq_ifeq ⟨by omega, by omega⟩ (fun _ => ?_) (fun _ => ?_) <;> try (exfalso; omega)) | (refine wq_ifne ⟨by omega, by omega⟩ (fun _ => ?_) (fun _ => ?_) <;> try (exfalso; omega)) | (refine wq_iflt ⟨by omega, by omega⟩ (fun _ => ?_) (fun _ => ?_) <;> try (exfalso; omega)) | (refine wq_ifge ⟨by omega, by omega⟩ (fun _ => ?_) (fun _ => ?_) <;> try (exfalso; omega)) | (refine wq_ifgt ⟨by omega, by omega⟩ (fun _ => ?_) (fun _ => ?_) <;> try (exfalso; omega)) | (refine wq_ifle ⟨by omega, by omega⟩ (fun _ => ?_) (fun _ => ?_) <;> try (exfalso; omega)) | refine wq_r rfl rfl rfl rfl rfl rfl ?_))
      exact ⟨by omega, by omega, by omega, by simp [sumL]⟩
theorem c_Md_measures (h : Mr M m G) (hW : WFG G) (hT : ∃ t, M[m + 7]? = some (aJ 27 t)) : Wm 133 [.ref m] M (fun v M' => v = none ∧ Fr (fun q => q = m + 7) M M' ∧ Tm M' m G) := by
  have hN := h.le
  obtain ⟨t, hT⟩ := hT
  refine wm_in (lv := _) rfl rfl rfl ?_
  repeat' (first | (refine Wp.sub (lp_meas h hW 100 _ _ ?_) ⟨rfl, rfl, trivial⟩ rfl) | (refine wf rfl ?_; first | refine wq_iadd ?_ | refine wq_isub ?_ | refine wq_imul ?_ | refine wq_iinc rfl ?_ | refine wq_goto ?_ | refine wq_k rfl ?_ | refine wq_b rfl rfl ?_ | refine wq_getf (by assumption) rfl ?_ | refine wq_alen (by assumption) rfl ?_ | fail | (refine wq_eq ⟨by omega, by omega⟩ ⟨by omega, by omega⟩ (fun _ => ?_) (fun _ => ?_) <;> try (exfalso; omega)) | (refine wq_ne ⟨by omega, by omega⟩ ⟨by omega, by omega⟩ (fun _ => ?_) (fun _ => ?_) <;> try (exfalso; omega)) | (refine wq_lt ⟨by omega, by omega⟩ ⟨by omega, by omega⟩ (fun _ => ?_) (fun _ => ?_) <;> try (exfalso; omega)) | (refine wq_ge ⟨by omega, by omega⟩ ⟨by omega, by omega⟩ (fun _ => ?_) (fun _ => ?_) <;> try (exfalso; omega)) | (refine wq_gt ⟨by omega, by omega⟩ ⟨by omega, by omega⟩ (fun _ => ?_) (fun _ => ?_) <;> try (exfalso; omega)) | (refine wq_le ⟨by omega, by omega⟩ ⟨by omega, by omega⟩ (fun _ => ?_) (fun _ => ?_) <;> try (exfalso; omega)) | (refine wq_ifeq ⟨by omega, by omega⟩ (fun _ => ?_) (fun _ => ?_) <;> try (exfalso; omega)) | (refine wq_ifne ⟨by omega, by omega⟩ (fun _ => ?_) (fun _ => ?_) <;> try (exfalso; omega)) | (refine wq_iflt ⟨by omega, by omega⟩ (fun _ => ?_) (fun _ => ?_) <;> try (exfalso; omega)) | (refine wq_ifge ⟨by omega, by omega⟩ (fun _ => ?_) (fun _ => ?_) <;> try (exfalso; omega)) | (refine wq_ifgt ⟨by omega, by omega⟩ (fun _ => ?_) (fun _ => ?_) <;> try (exfalso; omega)) | (refine wq_ifle ⟨by omega, by omega⟩ (fun _ => ?_) (fun _ => ?_) <;> try (exfalso; omega)) | refine wq_r rfl rfl rfl rfl rfl rfl ?_))
  exact ⟨by omega, by omega, by omega, Fr.rf, t, hT, fun j w1 w2 => by omega, fun w => by omega⟩
theorem c_Md_wordLong (h : Mr M m G) (hW : WFG G) (hT : ∃ t, M[m + 7]? = some (aJ 27 t)) : Wm 134 [.ref m] M (fun v M' => v = some (.int (I (wlG G))) ∧ Fr (fun q => q = m + 7) M M' ∧ Tm M' m G) := by
  obtain ⟨⟨a, b, c, d, e, hO⟩, f, hA, hG⟩ := id h
  refine wm_in (lv := _) rfl rfl rfl ?_
  repeat (refine wf rfl ?_; first | refine wq_iadd ?_ | refine wq_isub ?_ | refine wq_imul ?_ | refine wq_iinc rfl ?_ | refine wq_goto ?_ | refine wq_k rfl ?_ | refine wq_b rfl rfl ?_ | refine wq_getf (by assumption) rfl ?_ | refine wq_alen (by assumption) rfl ?_)
  refine wf rfl (wq_cv rfl rfl rfl hO ((c_Md_measures h hW hT).mono ?_))
  rintro v M1 ⟨rfl, f1, h1⟩
  have hO1 : MO M1 m a b c d e := f1.at (by omega) hO
  obtain ⟨t, t1, t2, t3⟩ := id h1
  repeat (refine wf rfl ?_; first | refine wq_iadd ?_ | refine wq_isub ?_ | refine wq_imul ?_ | refine wq_iinc rfl ?_ | refine wq_goto ?_ | refine wq_k rfl ?_ | refine wq_b rfl rfl ?_ | refine wq_getf (by assumption) rfl ?_ | refine wq_alen (by assumption) rfl ?_)
  refine wf rfl (wq_iald t1 ⟨by omega, by omega⟩ (by omega) (by omega) ?_)
  repeat' (refine wf rfl ?_; first | refine wq_iadd ?_ | refine wq_isub ?_ | refine wq_imul ?_ | refine wq_iinc rfl ?_ | refine wq_goto ?_ | refine wq_k rfl ?_ | refine wq_b rfl rfl ?_ | refine wq_getf (by assumption) rfl ?_ | refine wq_alen (by assumption) rfl ?_ | (refine wq_eq ⟨by omega, by omega⟩ ⟨by omega, by omega⟩ (fun _ => ?_) (fun _ => ?_) <;> try (exfalso; omega)) | (refine wq_ne ⟨by omega, by omega⟩ ⟨by omega, by omega⟩ (fun _ => ?_) (fun _ => ?_) <;> try (exfalso; omega)) | (refine wq_lt ⟨by omega, by omega⟩ ⟨by omega, by omega⟩ (fun _ => ?_) (fun _ => ?_) <;> try (exfalso; omega)) | (refine wq_ge ⟨by omega, by omega⟩ ⟨by omega, by omega⟩ (fun _ => ?_) (fun _ => ?_) <;> try (exfalso; omega)) | (refine wq_gt ⟨by omega, by omega⟩ ⟨by omega, by omega⟩ (fun _ => ?_) (fun _ => ?_) <;> try (exfalso; omega)) | (refine wq_le ⟨by omega, by omega⟩ ⟨by omega, by omega⟩ (fun _ => ?_) (fun _ => ?_) <;> try (exfalso; omega)) | (refine wq_ifeq ⟨by omega, by omega⟩ (fun _ => ?_) (fun _ => ?_) <;> try (exfalso; omega)) | (refine wq_ifne ⟨by omega, by omega⟩ (fun _ => ?_) (fun _ => ?_) <;> try (exfalso; omega)) | (refine wq_iflt ⟨by omega, by omega⟩ (fun _ => ?_) (fun _ => ?_) <;> try (exfalso; omega)) | (refine wq_ifge ⟨by omega, by omega⟩ (fun _ => ?_) (fun _ => ?_) <;> try (exfalso; omega)) | (refine wq_ifgt ⟨by omega, by omega⟩ (fun _ => ?_) (fun _ => ?_) <;> try (exfalso; omega)) | (refine wq_ifle ⟨by omega, by omega⟩ (fun _ => ?_) (fun _ => ?_) <;> try (exfalso; omega)) | refine wq_r rfl rfl rfl rfl rfl rfl ?_)
  exact ⟨by rw [← t3]; rfl, f1, h1⟩
end MD7
