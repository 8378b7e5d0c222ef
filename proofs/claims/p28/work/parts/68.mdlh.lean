/-! Reading texts, on lists. -/
def isym (N : Nat) (c : Int) : Prop := 0 ≤ syC c ∧ syC c < 8 + (N : Int)
def rn (N : Nat) : List Int → List Int
  | [] => []
  | c :: r => if 0 ≤ syC c ∧ syC c < 8 + (N : Int) then syC c :: rn N r else []
theorem rn_le (N : Nat) : ∀ cs : List Int, (rn N cs).length ≤ cs.length
  | [] => Nat.le_refl _
  | c :: r => by
    have ih := rn_le N r
    rw [rn]
    split
    · rw [List.length_cons, List.length_cons]; omega
    · exact Nat.zero_le _
theorem rn_stop (N : Nat) : ∀ cs : List Int, ∀ c, cs[(rn N cs).length]? = some c → ¬ isym N c
  | [], c, h => by cases h
  | x :: r, c, h => by
    rw [rn] at h
    split at h
    · rw [List.length_cons, List.getElem?_cons_succ] at h
      exact rn_stop N r c h
    · rename_i hn
      rw [List.length_nil, List.getElem?_cons_zero] at h
      cases h
      exact hn
theorem rn_sym (N : Nat) : ∀ cs : List Int, ∀ s ∈ rn N cs, 0 ≤ s ∧ s < 8 + (N : Int)
  | [], s, h => by cases h
  | x :: r, s, h => by
    rw [rn] at h
    split at h
    · rename_i hn
      rcases List.mem_cons.mp h with e | e
      · rw [e]; exact hn
      · exact rn_sym N r s e
    · cases h
theorem rdStep3 {G : GS} {ru : List Int} {c : Int} (hc : isym G.1.length c) (hl : ru.length < 80) : rdStep (3, G, ru) c = (3, G, ru ++ [syC c]) := by
  have h59 : c ≠ 59 := by
    intro e
    subst e
    unfold isym syC at hc
    omega
  unfold rdStep rd3 grR
  dsimp only
  rw [if_neg (by omega), if_neg (by omega), if_neg (by omega), if_pos rfl, if_neg h59, if_pos ⟨hc.1, hc.2, hl⟩]
theorem rdStep2 {G : GS} {ru : List Int} {c : Int} (hc : isym G.1.length c) (hl : ru.length < 80) : rdStep (2, G, ru) c = (3, G, ru ++ [syC c]) := by
  unfold rdStep grR
  dsimp only
  rw [if_neg (by omega), if_neg (by omega), if_pos rfl, if_pos ⟨hc.1, hc.2, hl⟩]
theorem rdStep4 {G : GS} {ru : List Int} {c : Int} (hc : isym G.1.length c) (hl : G.2.length < 80) : rdStep (4, G, ru) c = (4, (G.1, G.2 ++ [syC c]), ru) := by
  unfold rdStep grM
  dsimp only
  rw [if_neg (by omega), if_neg (by omega), if_neg (by omega), if_neg (by omega), if_pos ⟨hc.1, hc.2, hl⟩]
theorem rdStep0 {G : GS} {ru : List Int} {c : Int} (hn : syC c ≠ 8 + (G.1.length : Int)) (hc : isym G.1.length c) (hl : G.2.length < 80) : rdStep (0, G, ru) c = (4, (G.1, G.2 ++ [syC c]), ru) := by
  unfold rdStep rd0 grM
  dsimp only
  rw [if_pos rfl, if_neg hn, if_pos ⟨hc.1, hc.2, hl⟩]
theorem n15 : (1 : Int) ≠ 5 := by decide
theorem n35 : (3 : Int) ≠ 5 := by decide
theorem n45 : (4 : Int) ≠ 5 := by decide
theorem rdRun_cons {c : Int} {cs : List Int} {r r' : RS} {k : Int} (h : rdStep r c = r') (h5 : r'.1 ≠ 5) : rdRun (c :: cs) r k = rdRun cs r' (k + 1) := by
  rw [rdRun, h, if_neg h5]
theorem rdRun_bad {c : Int} {cs : List Int} {r r' : RS} {k : Int} (h : rdStep r c = r') (h5 : r'.1 = 5) : rdRun (c :: cs) r k = (k, r') := by
  rw [rdRun, h, if_pos h5]
theorem rdRun3 {G : GS} : ∀ (cs ru : List Int) (k : Int), ru.length + cs.length ≤ 80 → rdRun cs (3, G, ru) k = rdRun (cs.drop (rn G.1.length cs).length) (3, G, ru ++ rn G.1.length cs) (k + (rn G.1.length cs).length)
  | [], ru, k, _ => by simp [rn]
  | c :: r, ru, k, h => by
    rw [List.length_cons] at h
    rw [rn]
    split
    · rename_i hc
      rw [rdRun_cons (rdStep3 hc (by omega)) n35, rdRun3 r _ (k + 1) (by rw [List.length_append]; simp; omega), List.length_cons, List.drop_succ_cons, List.append_assoc, List.singleton_append]
      congr 1
      omega
    · simp
theorem rdRun2 {G : GS} {cs ru : List Int} {k : Int} (h : ru.length + cs.length ≤ 80) (hn : 0 < (rn G.1.length cs).length) : rdRun cs (2, G, ru) k = rdRun (cs.drop (rn G.1.length cs).length) (3, G, ru ++ rn G.1.length cs) (k + (rn G.1.length cs).length) := by
  cases cs with
  | nil => simp [rn] at hn
  | cons c r =>
    rw [List.length_cons] at h
    rw [rn] at hn ⊢
    split at hn
    · rename_i hc
      rw [if_pos hc, rdRun_cons (rdStep2 hc (by omega)) n35, rdRun3 r _ (k + 1) (by rw [List.length_append]; simp; omega), List.length_cons, List.drop_succ_cons, List.append_assoc, List.singleton_append]
      congr 1
      omega
    · simp at hn
theorem rdRun4 {R : List (List Int)} {ru : List Int} : ∀ (cs mn : List Int) (k : Int), mn.length + cs.length ≤ 80 → rdRun cs (4, (R, mn), ru) k = rdRun (cs.drop (rn R.length cs).length) (4, (R, mn ++ rn R.length cs), ru) (k + (rn R.length cs).length)
  | [], mn, k, _ => by simp [rn]
  | c :: r, mn, k, h => by
    rw [List.length_cons] at h
    rw [rn]
    split
    · rename_i hc
      rw [rdRun_cons (rdStep4 (G := (R, mn)) hc (by show mn.length < 80; omega)) n45]
      dsimp only
      rw [rdRun4 r _ (k + 1) (by rw [List.length_append]; simp; omega), List.length_cons, List.drop_succ_cons, List.append_assoc, List.singleton_append]
      congr 1
      omega
    · simp
theorem rdRun0 {R : List (List Int)} {ru cs : List Int} {k : Int} (h : cs.length ≤ 80) (hh : ∀ c, cs[0]? = some c → syC c ≠ 8 + (R.length : Int)) (hn : 0 < (rn R.length cs).length) : rdRun cs (0, (R, []), ru) k = rdRun (cs.drop (rn R.length cs).length) (4, (R, rn R.length cs), ru) (k + (rn R.length cs).length) := by
  cases cs with
  | nil => simp [rn] at hn
  | cons c r =>
    rw [List.length_cons] at h
    have hh := hh c rfl
    rw [rn] at hn ⊢
    split at hn
    · rename_i hc
      rw [if_pos hc, rdRun_cons (rdStep0 (G := (R, [])) hh hc (by simp)) n45, rdRun4 r _ (k + 1) (by simp; omega), List.length_cons, List.drop_succ_cons]
      dsimp only
      rw [List.nil_append, List.singleton_append]
      congr 1
      omega
    · simp at hn
/-- what of a reading's end matters -/
def prj (R : Int × RS) : Int × Int × GS := (R.1, R.2.1, R.2.2.1)
theorem rd_ru4 : ∀ (cs : List Int) (G : GS) (ru ru' : List Int) (k : Int), prj (rdRun cs (4, G, ru) k) = prj (rdRun cs (4, G, ru') k)
  | [], G, ru, ru', k => by rw [rdRun, rdRun]; rfl
  | c :: r, G, ru, ru', k => by
    by_cases hc : 0 ≤ syC c ∧ syC c < 8 + (G.1.length : Int) ∧ G.2.length < 80
    · rw [rdRun_cons (rdStep4 ⟨hc.1, hc.2.1⟩ hc.2.2) n45, rdRun_cons (rdStep4 ⟨hc.1, hc.2.1⟩ hc.2.2) n45]
      exact rd_ru4 r _ _ _ _
    · have e : ∀ ru : List Int, rdStep (4, G, ru) c = (5, G, ru) := by
        intro ru
        unfold rdStep grM
        dsimp only
        rw [if_neg (by omega), if_neg (by omega), if_neg (by omega), if_neg (by omega), if_neg hc]
      rw [rdRun_bad (e ru) rfl, rdRun_bad (e ru') rfl]
      rfl
theorem rd_ru0 : ∀ (cs : List Int) (G : GS) (ru ru' : List Int) (k : Int), prj (rdRun cs (0, G, ru) k) = prj (rdRun cs (0, G, ru') k)
  | [], G, ru, ru', k => by rw [rdRun, rdRun]; rfl
  | c :: r, G, ru, ru', k => by
    by_cases hn : syC c = 8 + (G.1.length : Int)
    · have e : ∀ ru : List Int, rdStep (0, G, ru) c = (1, G, []) := by
        intro ru
        unfold rdStep rd0
        dsimp only
        rw [if_pos rfl, if_pos hn]
      rw [rdRun_cons (e ru) n15, rdRun_cons (e ru') n15]
    · by_cases hc : 0 ≤ syC c ∧ syC c < 8 + (G.1.length : Int) ∧ G.2.length < 80
      · rw [rdRun_cons (rdStep0 hn ⟨hc.1, hc.2.1⟩ hc.2.2) n45, rdRun_cons (rdStep0 hn ⟨hc.1, hc.2.1⟩ hc.2.2) n45]
        exact rd_ru4 r _ _ _ _
      · have e : ∀ ru : List Int, rdStep (0, G, ru) c = (5, G, ru) := by
          intro ru
          unfold rdStep rd0 grM
          dsimp only
          rw [if_pos rfl, if_neg hn, if_neg hc]
        rw [rdRun_bad (e ru) rfl, rdRun_bad (e ru') rfl]
        rfl
theorem rdAns_prj {xs : List Int} {R R' : Int × RS} (h : prj R = prj R') : rdAns xs R = rdAns xs R' := by
  have h1 : R.1 = R'.1 := congrArg (fun z => z.1) h
  have h2 : R.2.1 = R'.2.1 := congrArg (fun z => z.2.1) h
  unfold rdAns
  rw [h1, h2]
/-- a reading that is well made -/
def RdW (r : RS) : Prop := WFG r.2.1 ∧ r.2.1.1.length ≤ 26 ∧ r.2.1.2.length ≤ 80 ∧ ((r.1 = 1 ∨ r.1 = 2 ∨ r.1 = 3) → WFm r.2.1.1.length r.2.2 ∧ r.2.1.1.length < 26) ∧ (r.1 = 3 → 1 ≤ r.2.2.length)
theorem WFG.snoc {G : GS} {ru : List Int} (h : WFG G) (hw : WFm G.1.length ru) (h1 : 1 ≤ ru.length) : WFG (G.1 ++ [ru], G.2) := by
  obtain ⟨w1, w2, w3⟩ := h
  have hl : (G.1 ++ [ru]).length = G.1.length + 1 := by simp
  refine ⟨?_, ?_, ?_⟩
  · dsimp only
    rw [hl]
    intro k hk x hx
    by_cases he : k < G.1.length
    · rw [xof_app1 he] at hx
      exact w1 k he x hx
    · have e : k = G.1.length := by omega
      subst e
      rw [xof_app2] at hx
      exact hw x hx
  · dsimp only
    rw [hl]
    intro x hx
    have := w2 x hx
    omega
  · dsimp only
    rw [hl]
    intro k hk
    by_cases he : k < G.1.length
    · rw [xof_app1 he]
      exact w3 k he
    · have e : k = G.1.length := by omega
      subst e
      rw [xof_app2]
      exact h1
theorem RdW.grM_w {st : Int} {G : GS} {ru : List Int} (h : RdW (st, G, ru)) (c : Int) : RdW (grM G ru c) := by
  obtain ⟨a, b, b2, d, e⟩ := h
  dsimp only at a b b2
  unfold grM
  split
  · rename_i hc
    refine ⟨⟨a.1, a.2.1.app ⟨hc.1, hc.2.1⟩, a.2.2⟩, b, by dsimp only; rw [List.length_append]; simp; omega, fun z => ?_, fun z => ?_⟩ <;> (exfalso; dsimp only at z; omega)
  · refine ⟨a, b, b2, fun z => ?_, fun z => ?_⟩ <;> (exfalso; dsimp only at z; omega)
theorem RdW.grR_w {st : Int} {G : GS} {ru : List Int} (h : RdW (st, G, ru)) (hs : st = 2 ∨ st = 3) (c : Int) : RdW (grR G ru c) := by
  obtain ⟨a, b, b2, d, e⟩ := h
  dsimp only at a b b2 d
  have d := d (Or.inr hs)
  unfold grR
  split
  · rename_i hc
    exact ⟨a, b, b2, fun z => ⟨d.1.app ⟨hc.1, hc.2.1⟩, d.2⟩, fun z => by dsimp only; rw [List.length_append]; exact Nat.le_add_left 1 _⟩
  · refine ⟨a, b, b2, fun z => ?_, fun z => ?_⟩ <;> (exfalso; dsimp only at z; omega)
theorem RdW.step {r : RS} (h : RdW r) (hs : r.1 = 0 ∨ r.1 = 1 ∨ r.1 = 2 ∨ r.1 = 3 ∨ r.1 = 4) (c : Int) : RdW (rdStep r c) := by
  obtain ⟨st, G, ru⟩ := r
  dsimp only at hs
  have hq := syC_bd c
  rcases hs with rfl | rfl | rfl | rfl | rfl
  · have e : rdStep (0, G, ru) c = rd0 G ru c := rfl
    rw [e]
    unfold rd0
    split
    · rename_i hn
      obtain ⟨a, b, b2, d, e⟩ := h
      exact ⟨a, b, b2, fun z => ⟨fun s hs => absurd hs (by simp), by dsimp only; omega⟩, fun z => by exfalso; dsimp only at z; omega⟩
    · exact h.grM_w c
  · have e : rdStep (1, G, ru) c = (if c = 61 then 2 else 5, G, ru) := rfl
    rw [e]
    obtain ⟨a, b, b2, d, e⟩ := h
    refine ⟨a, b, b2, fun z => d (Or.inl rfl), fun z => ?_⟩
    exfalso
    dsimp only at z
    split at z <;> omega
  · have e : rdStep (2, G, ru) c = grR G ru c := rfl
    rw [e]
    exact h.grR_w (Or.inl rfl) c
  · have e : rdStep (3, G, ru) c = rd3 G ru c := rfl
    rw [e]
    unfold rd3
    split
    · obtain ⟨a, b, b2, d, e⟩ := h
      have d := d (Or.inr (Or.inr rfl))
      refine ⟨a.snoc d.1 (e rfl), by dsimp only at d ⊢; rw [List.length_append]; simp; omega, b2, fun z => ?_, fun z => ?_⟩ <;> (exfalso; dsimp only at z; omega)
    · exact h.grR_w (Or.inr rfl) c
  · have e : rdStep (4, G, ru) c = grM G ru c := rfl
    rw [e]
    exact h.grM_w c
theorem RdW.run : ∀ (cs : List Int) (r : RS) (k : Int), RdW r → (r.1 = 0 ∨ r.1 = 1 ∨ r.1 = 2 ∨ r.1 = 3 ∨ r.1 = 4) → RdW (rdRun cs r k).2
  | [], r, k, h, _ => by rw [rdRun]; exact h
  | c :: cs, r, k, h, hs => by
    have h1 := h.step hs c
    have h2 := rdStep_st (r := r) (c := c)
    rw [rdRun]
    split
    · exact h1
    · rename_i h5
      exact RdW.run cs _ _ h1 (by omega)
theorem RdW0 (ru : List Int) : RdW (0, ([], []), ru) := ⟨⟨fun k hk => absurd hk (by simp), fun s hs => absurd hs (by simp), fun k hk => absurd hk (by simp)⟩, by simp, by simp, fun z => by exfalso; dsimp only at z; omega, fun z => by exfalso; dsimp only at z; omega⟩
