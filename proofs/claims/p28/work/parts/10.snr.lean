/-- what a run leaves of the memory -/
def Mono (M M' : PM) : Prop := (∀ z, M[0]? = some (.inl (0, z)) → M'[0]? = some (.inl (0, z))) ∧ M.length ≤ M'.length ∧ szM M ≤ szM M'
theorem Mono.rf {M : PM} : Mono M M := ⟨fun _ h => h, Nat.le_refl _, Nat.le_refl _⟩
theorem Mono.tr {M M1 M2 : PM} (h : Mono M M1) (k : Mono M1 M2) : Mono M M2 := ⟨fun z hz => k.1 z (h.1 z hz), Nat.le_trans h.2.1 k.2.1, Nat.le_trans h.2.2 k.2.2⟩
theorem Mono.put {M : PM} {a : Nat} {x y : PC} (hM : M[a]? = some x) (hs : szC y = szC x) (h0 : a = 0 → ∀ z, x ≠ .inl (0, z)) : Mono M (M.set a y) := by
  refine ⟨fun z hz => ?_, by rw [List.length_set]; exact Nat.le_refl _, by rw [szM_set hM hs]; exact Nat.le_refl _⟩
  by_cases ha : a = 0
  · subst ha
    rw [hz] at hM
    cases hM
    exact absurd rfl (h0 rfl z)
  · rw [List.getElem?_set_ne ha]; exact hz
theorem Mono.push {M : PM} {x : PC} : Mono M (M ++ [x]) := by
  refine ⟨fun z hz => ?_, by simp, by rw [szM_app]; omega⟩
  have := (List.getElem?_eq_some_iff.mp hz).1
  rw [List.getElem?_append_left this]; exact hz
theorem gF_mono {i : Instr} {r1 r2 : Nat} {sk sk' : List Value} {M M' : PM} (h : gF i r1 r2 sk M = some (sk', M')) : Mono M M' := by
  unfold gF at h
  split at h
  · split at h
    · split at h
      · split at h
        · split at h
          · cases h; exact Mono.rf
          · cases h
        · cases h
      · cases h
    · cases h
  · split at h
    · split at h
      · rename_i hM
        split at h
        · cases h; exact Mono.put hM (by simp [szC]) (fun _ z e => by cases e)
        · cases h
      · cases h
    · cases h
  · cases h; exact Mono.push
  · cases h
theorem gM_mono {i : Instr} {r1 : Nat} {sk sk' : List Value} {M M' : PM} (h : gM i r1 sk M = some (sk', M')) : Mono M M' := by
  unfold gM at h
  split at h
  · split at h
    · split at h
      · split at h
        · cases h; exact Mono.rf
        · cases h
      · cases h
    · cases h
  · split at h
    · split at h
      · split at h
        · cases h; exact Mono.rf
        · cases h
      · cases h
    · cases h
  · split at h
    · split at h
      · split at h
        · split at h
          · cases h; exact Mono.rf
          · cases h
        · cases h
      · cases h
    · cases h
  · split at h
    · split at h
      · rename_i hM
        split at h
        · rename_i hi
          rw [Bool.and_eq_true] at hi
          cases h
          exact Mono.put hM rfl (fun e => by rw [e] at hi; cases hi.2)
        · cases h
      · cases h
    · cases h
  · split at h
    · split at h
      · rename_i hM
        split at h
        · cases h
          exact Mono.put hM rfl (fun _ z e => by cases e)
        · cases h
      · cases h
    · cases h
  · split at h
    · split at h
      · rename_i hM _
        split at h
        · rename_i hi
          cases h
          rw [Bool.and_eq_true] at hi
          exact Mono.put hM rfl (fun _ z e => by cases e; exact absurd hi.1 Bool.false_ne_true)
        · cases h
      · cases h
    · cases h
  · split at h
    · split at h
      · split at h
        · cases h; exact Mono.rf
        · cases h
      · cases h
    · cases h
  · split at h
    · split at h
      · cases h
      · split at h
        · cases h; exact Mono.push
        · cases h; exact Mono.push
        · cases h
    · cases h
  · split at h
    · split at h
      · cases h
      · cases h; exact Mono.push
    · cases h
  · cases h
theorem gN_mono {i : Instr} {kd : Nat} {sk sk' : List Value} {M M' : PM} (h : gN i kd sk M = some (sk', M')) : Mono M M' := by
  unfold gN at h
  split at h
  · split at h
    · split at h
      · split at h
        · cases h; exact Mono.rf
        · cases h
      · cases h
    · cases h
  · split at h
    · split at h
      · split at h
        · rename_i hM1 hM
          split at h
          · cases h
          · rename_i hi
            simp only [Bool.or_eq_false_iff] at hi
            cases h
            exact Mono.put hM rfl (fun e => by rw [e] at hi; cases hi.1.1.2)
        · cases h
      · cases h
    · split at h
      · split at h
        · cases h; exact Mono.rf
        · cases h
      · cases h
    · split at h
      · split at h
        · cases h; exact Mono.rf
        · cases h
      · cases h
    · cases h
  · cases h
theorem gH_mono {i : Instr} {tg r1 r2 : Nat} {sk sk' : List Value} {M M' : PM} (h : gH i tg r1 r2 sk M = some (sk', M')) : Mono M M' := by
  unfold gH at h
  split at h
  · rename_i hg
    cases h
    exact gF_mono hg
  · split at h
    · rename_i hg
      cases h
      exact gM_mono hg
    · exact gN_mono h
theorem stp_mono {c : MM} {x x' : CF} (h : stp c x = some (.inl x')) : Mono x.2.2.2 x'.2.2.2 := by
  obtain ⟨pc, lv, sk, M⟩ := x
  dsimp only [stp] at h
  split at h
  · cases h
  · split at h
    · cases h; exact Mono.rf
    · split at h
      · cases h; exact Mono.rf
      · split at h
        · cases h; exact Mono.rf
        · split at h
          · rename_i hg
            cases h
            exact gH_mono hg
          · split at h
            · cases h; exact Mono.rf
            · split at h
              · cases h
              · split at h <;> cases h
theorem run_mono : ∀ (n : Nat) (c : MM) (x : CF) (v : Option Value) (M' : PM), run n c x = some (v, M') → Mono x.2.2.2 M'
  | 0, _, _, _, _, h => by cases h
  | n + 1, c, x, v, M', h => by
    unfold run at h
    split at h
    · cases h
    · rename_i x' hs
      exact (stp_mono hs).tr (run_mono n c x' v M' h)
    · cases h; exact Mono.rf
    · split at h
      · cases h
      · split at h
        · cases h
        · rename_i v1 M1 h1
          exact (run_mono n _ _ v1 M1 h1).tr (run_mono n c _ v M' h)
