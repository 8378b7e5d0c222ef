/-! Texts: letters turned round; a text that is put together sign by sign. -/
theorem fl_sy (c : Int) : syC (fl_c c) = fl_s (syC c) := by
  unfold fl_c
  by_cases h : 97 ≤ c ∧ c ≤ 104
  · rw [if_pos h]
    unfold syC
    rw [if_pos (by omega), if_pos (by omega), fl_low (by omega) (by omega)]
    omega
  · rw [if_neg h]
    unfold syC
    rw [if_neg (by omega)]
    by_cases h2 : 65 ≤ c ∧ c ≤ 90
    · rw [if_pos h2, fl_hi (by omega)]
    · rw [if_neg h2]
      rfl
def fl_r (r : RS) : RS := (r.1, fl_G r.2.1, fl_x r.2.2)
theorem fl_grR (G : GS) (ru : List Int) (c : Int) : grR (fl_G G) (fl_x ru) (fl_c c) = fl_r (grR G ru c) := by
  unfold grR
  rw [fl_sy, fl_Gl, fl_len]
  by_cases h : 0 ≤ syC c ∧ syC c < 8 + (G.1.length : Int) ∧ ru.length < 80
  · have hb := (fl_bd (s := syC c) (b := 8 + (G.1.length : Int)) (by omega)).mpr ⟨h.1, h.2.1⟩
    rw [if_pos h, if_pos ⟨hb.1, hb.2, h.2.2⟩]
    show (3, fl_G G, fl_x ru ++ [fl_s (syC c)]) = (3, fl_G G, fl_x (ru ++ [syC c]))
    rw [fl_app]
    rfl
  · rw [if_neg h, if_neg]
    · rfl
    · rintro ⟨a, b, d⟩
      have hb := (fl_bd (s := syC c) (b := 8 + (G.1.length : Int)) (by omega)).mp ⟨a, b⟩
      exact h ⟨hb.1, hb.2, d⟩
theorem fl_grM (G : GS) (ru : List Int) (c : Int) : grM (fl_G G) (fl_x ru) (fl_c c) = fl_r (grM G ru c) := by
  unfold grM
  rw [fl_sy, fl_Gl, show (fl_G G).2 = fl_x G.2 from rfl, fl_len]
  by_cases h : 0 ≤ syC c ∧ syC c < 8 + (G.1.length : Int) ∧ G.2.length < 80
  · have hb := (fl_bd (s := syC c) (b := 8 + (G.1.length : Int)) (by omega)).mpr ⟨h.1, h.2.1⟩
    rw [if_pos h, if_pos ⟨hb.1, hb.2, h.2.2⟩]
    show (4, ((fl_G G).1, fl_x G.2 ++ [fl_s (syC c)]), fl_x ru) = (4, (G.1.map fl_x, fl_x (G.2 ++ [syC c])), fl_x ru)
    rw [fl_app]
    rfl
  · rw [if_neg h, if_neg]
    · rfl
    · rintro ⟨a, b, d⟩
      have hb := (fl_bd (s := syC c) (b := 8 + (G.1.length : Int)) (by omega)).mp ⟨a, b⟩
      exact h ⟨hb.1, hb.2, d⟩
theorem fl_ceq {c d : Int} (h : d < 97) : fl_c c = d ↔ c = d := by
  unfold fl_c
  split <;> omega
theorem fl_step (r : RS) (c : Int) : rdStep (fl_r r) (fl_c c) = fl_r (rdStep r c) := by
  obtain ⟨st, G, ru⟩ := r
  show rdStep (st, fl_G G, fl_x ru) (fl_c c) = fl_r (rdStep (st, G, ru) c)
  unfold rdStep
  dsimp only
  by_cases h0 : st = 0
  · rw [if_pos h0, if_pos h0]
    unfold rd0
    rw [fl_sy, fl_Gl]
    by_cases hc : syC c = 8 + (G.1.length : Int)
    · rw [if_pos hc, if_pos ((fl_eqr _ _ (by omega)).mpr hc)]
      rfl
    · rw [if_neg hc, if_neg (fun z => hc ((fl_eqr _ _ (by omega)).mp z)), fl_grM]
  · rw [if_neg h0, if_neg h0]
    by_cases h1 : st = 1
    · rw [if_pos h1, if_pos h1]
      by_cases hc : c = 61
      · rw [if_pos hc, if_pos ((fl_ceq (by omega)).mpr hc)]
        rfl
      · rw [if_neg hc, if_neg (fun z => hc ((fl_ceq (by omega)).mp z))]
        rfl
    · rw [if_neg h1, if_neg h1]
      by_cases h2 : st = 2
      · rw [if_pos h2, if_pos h2, fl_grR]
      · rw [if_neg h2, if_neg h2]
        by_cases h3 : st = 3
        · rw [if_pos h3, if_pos h3]
          unfold rd3
          by_cases hc : c = 59
          · rw [if_pos hc, if_pos ((fl_ceq (by omega)).mpr hc)]
            show (0, ((fl_G G).1 ++ [fl_x ru], (fl_G G).2), fl_x ru) = (0, ((G.1 ++ [ru]).map fl_x, fl_x G.2), fl_x ru)
            rw [List.map_append]
            rfl
          · rw [if_neg hc, if_neg (fun z => hc ((fl_ceq (by omega)).mp z)), fl_grR]
        · rw [if_neg h3, if_neg h3, fl_grM]
theorem fl_run : ∀ (cs : List Int) (r : RS) (k : Int), rdRun (cs.map fl_c) (fl_r r) k = ((rdRun cs r k).1, fl_r (rdRun cs r k).2)
  | [], _, _ => rfl
  | c :: cs, r, k => by
    rw [List.map_cons, rdRun, rdRun, fl_step, fl_run cs (rdStep r c) (k + 1)]
    show (if (rdStep r c).1 = 5 then _ else _) = _
    split <;> rfl
theorem fl_run0 (cs : List Int) : rdRun (cs.map fl_c) (0, ([], []), []) 0 = ((rdRun cs (0, ([], []), []) 0).1, fl_r (rdRun cs (0, ([], []), []) 0).2) := fl_run cs (0, ([], []), []) 0
theorem fl_tell (S : ST) : spTell (fl_S S) = ((spTell S).1, fl_S (spTell S).2) := by
  unfold spTell
  rw [show (fl_S S).2.1 = S.2.1.map fl_c from rfl, fl_run0]
  rw [show rdAns (S.2.1.map fl_c) ((rdRun S.2.1 (0, ([], []), []) 0).1, fl_r (rdRun S.2.1 (0, ([], []), []) 0).2) = rdAns S.2.1 (rdRun S.2.1 (0, ([], []), []) 0) by unfold rdAns; rw [List.length_map]; rfl]
  dsimp only
  rw [show (fl_r (rdRun S.2.1 (0, ([], []), []) 0).2).2.1 = fl_G (rdRun S.2.1 (0, ([], []), []) 0).2.2.1 from rfl, fl_tooB, fl_wlG]
  split
  · split
    · rfl
    · show (_, (fl_G _, ([] : List Int), push (S.2.2.1.map fl_G) (fl_G S.1), _)) = _
      rw [fl_push]
      rfl
  · rfl
theorem fl_wipe (S : ST) : spWipe (fl_S S) = ((spWipe S).1, fl_S (spWipe S).2) := by
  unfold spWipe
  rw [show (fl_S S).2.1 = S.2.1.map fl_c from rfl, List.length_map]
  rfl
/-! one sign -/
theorem sign_len : ∀ u : Nat, u < 127 → 33 ≤ u → lenF u 8 = 1 := by decide +kernel
theorem sign_long : ∀ u : Nat, u < 127 → (I (u : Int)).toInt64 = Lu u := by decide +kernel
theorem sign_put {u : Nat} (h0 : 33 ≤ u) (h1 : u < 127) {S : ST} (hp : S.2.1.length < 80) : spPut u S = ((S.2.1.length : Int) + 1, (S.1, S.2.1 ++ [(u : Int)], S.2.2.1, S.2.2.2)) := by
  unfold spPut
  rw [sign_len u h1 h0, if_neg (by omega), if_neg (by omega)]
  have e : byt u (1 : Int).toNat = [(u : Int)] := by
    show byt u 1 = [(u : Int)]
    rw [byt, byt, Nat.pow_zero, Nat.div_one, Nat.mod_eq_of_lt (by omega)]
  rw [e]
theorem sign_fl {S : ST} {u v : Int} (h : v = fl_c u) : fl_S (S.1, S.2.1 ++ [u], S.2.2.1, S.2.2.2) = ((fl_S S).1, (fl_S S).2.1 ++ [v], (fl_S S).2.2.1, (fl_S S).2.2.2) := by
  subst h
  show (fl_G S.1, (S.2.1 ++ [u]).map fl_c, S.2.2.1.map fl_G, _) = (fl_G S.1, S.2.1.map fl_c ++ [fl_c u], S.2.2.1.map fl_G, _)
  rw [List.map_append]
  rfl
/-- a text read so far -/
def rdTo (pad : List Int) (r : RS) : Prop := rdRun pad (0, ([], []), []) 0 = (-6, r)
theorem rdRun_snoc (c : Int) : ∀ (cs : List Int) (r : RS) (k : Int) (r' : RS), rdRun cs r k = (-6, r') → 0 ≤ k → (rdStep r' c).1 ≠ 5 → rdRun (cs ++ [c]) r k = (-6, rdStep r' c)
  | [], r, k, r', h, _, hs => by
    rw [rdRun] at h
    cases h
    rw [List.nil_append, rdRun, if_neg hs, rdRun]
  | x :: cs, r, k, r', h, hk, hs => by
    rw [rdRun] at h
    rw [List.cons_append, rdRun]
    split at h
    · injection h with h1 h2
      omega
    · rename_i q
      rw [if_neg q]
      exact rdRun_snoc c cs _ _ _ h (by omega) hs
theorem rdTo.snoc {pad : List Int} {r : RS} (h : rdTo pad r) {c : Int} {r' : RS} (hr : rdStep r c = r') (hs : r'.1 ≠ 5) : rdTo (pad ++ [c]) r' := by
  subst hr
  exact rdRun_snoc c pad _ _ _ h (Int.le_refl 0) hs
theorem rdTo_nil : rdTo [] (0, ([], []), []) := rfl
theorem sy_letter {s : Int} (h0 : 0 ≤ s) (h1 : s < 8) : syC (97 + s) = s := by
  unfold syC
  rw [if_pos (by omega)]
  omega
theorem sy_rule {j : Int} (h0 : 0 ≤ j) (h1 : j < 26) : syC (65 + j) = 8 + j := by
  unfold syC
  rw [if_neg (by omega), if_pos (by omega)]
  omega
theorem step_name {R : List (List Int)} {ru : List Int} {c : Int} (h : syC c = 8 + (R.length : Int)) : rdStep (0, (R, []), ru) c = (1, (R, []), []) := by
  show (if syC c = 8 + (R.length : Int) then ((1, (R, []), []) : RS) else grM (R, []) ru c) = _
  rw [if_pos h]
theorem step_eq {G : GS} {ru : List Int} : rdStep (1, G, ru) 61 = (2, G, ru) := rfl
theorem step_end {R : List (List Int)} {ru : List Int} : rdStep (3, (R, []), ru) 59 = (0, (R ++ [ru], []), ru) := rfl
theorem step_row {R : List (List Int)} {ru : List Int} {c st : Int} (hst : st = 2 ∨ st = 3) (hc : c ≠ 59) (h : 0 ≤ syC c ∧ syC c < 8 + (R.length : Int)) (hl : ru.length < 80) : rdStep (st, (R, []), ru) c = (3, (R, []), ru ++ [syC c]) := by
  have e : grR (R, []) ru c = (3, (R, []), ru ++ [syC c]) := if_pos ⟨h.1, h.2, hl⟩
  rcases hst with rfl | rfl
  · exact e
  · show (if c = 59 then ((0, (R ++ [ru], []), ru) : RS) else grR (R, []) ru c) = _
    rw [if_neg hc, e]
theorem step_main {R : List (List Int)} {mn ru : List Int} {c st : Int} (hst : st = 0 ∨ st = 4) (h : 0 ≤ syC c ∧ syC c < 8 + (R.length : Int)) (hl : mn.length < 80) : rdStep (st, (R, mn), ru) c = (4, (R, mn ++ [syC c]), ru) := by
  have e : grM (R, mn) ru c = (4, (R, mn ++ [syC c]), ru) := if_pos ⟨h.1, h.2, hl⟩
  rcases hst with rfl | rfl
  · show (if syC c = 8 + (R.length : Int) then ((1, (R, mn), []) : RS) else grM (R, mn) ru c) = _
    rw [if_neg (by omega), e]
  · exact e
/-! short rows tell little -/
theorem sumL_le {f : Int → Int} {B : Int} (hB : 0 ≤ B) : ∀ xs : List Int, (∀ s ∈ xs, f s ≤ B) → sumL f xs ≤ B * (xs.length : Int)
  | [], _ => by simp [sumL]
  | x :: r, h => by
    have ih := sumL_le hB r (fun s hs => h s (List.mem_cons_of_mem _ hs))
    have hx := h x List.mem_cons_self
    rw [sumL, List.length_cons, show ((r.length + 1 : Nat) : Int) = (r.length : Int) + 1 by omega, Int.mul_add, Int.mul_one]
    omega
theorem lt_step {G : GS} (hW : WFG G) {j : Nat} (hj : j < G.1.length) {B : Int} (hB : 1 ≤ B) (h : ∀ i, i < j → ltG G i ≤ B) (hl : (xof G.1 j).length ≤ 3) : ltG G j ≤ 3 * B := by
  have h1 := sumL_le (f := lyG G) (B := B) (by omega) (xof G.1 j) (fun s hs => by
    have hs := hW.1 j hj s hs
    by_cases q : 8 ≤ s
    · rw [lyG_rule q (by omega)]
      exact h _ (by omega)
    · rw [lyG_letter (by omega)]
      exact hB)
  have h2 : B * ((xof G.1 j).length : Int) ≤ B * 3 := Int.mul_le_mul_of_nonneg_left (by omega) (by omega)
  rw [ltG_fix hW hj]
  omega
theorem lt_81 {G : GS} (hW : WFG G) (h4 : G.1.length ≤ 4) (hl : ∀ j, j < G.1.length → (xof G.1 j).length ≤ 3) : ∀ j, j < G.1.length → ltG G j ≤ 81 := by
  have s0 : ∀ j, j < G.1.length → j < 1 → ltG G j ≤ 3 := fun j hj h => lt_step hW hj (B := 1) (by omega) (fun i hi => by omega) (hl j hj)
  have s1 : ∀ j, j < G.1.length → j < 2 → ltG G j ≤ 9 := fun j hj h => lt_step hW hj (B := 3) (by omega) (fun i hi => s0 i (by omega) (by omega)) (hl j hj)
  have s2 : ∀ j, j < G.1.length → j < 3 → ltG G j ≤ 27 := fun j hj h => lt_step hW hj (B := 9) (by omega) (fun i hi => s1 i (by omega) (by omega)) (hl j hj)
  exact fun j hj => lt_step hW hj (B := 27) (by omega) (fun i hi => s2 i (by omega) (by omega)) (hl j hj)
theorem too_short {G : GS} (hW : WFG G) (h4 : G.1.length ≤ 4) (hl : ∀ j, j < G.1.length → (xof G.1 j).length ≤ 3) (hm : G.2.length ≤ 24) : tooB G = false := by
  have h1 := lt_81 hW h4 hl
  rw [← Bool.not_eq_true, tooB_iff]
  rintro (h | ⟨j, hj, h⟩)
  · have h2 := sumL_le (f := lyG G) (B := 81) (by omega) G.2 (fun s hs => by
      have hs := hW.2.1 s hs
      by_cases q : 8 ≤ s
      · rw [lyG_rule q (by omega)]
        exact h1 _ (by omega)
      · rw [lyG_letter (by omega)]
        omega)
    unfold wlG at h
    omega
  · have := h1 j hj
    omega
theorem tell_fact {S : ST} {R : List (List Int)} {mn ru : List Int} (hr : rdTo S.2.1 (4, (R, mn), ru)) (hW : WFG (R, mn)) (h4 : R.length ≤ 4) (hl : ∀ j, j < R.length → (xof R j).length ≤ 3) (hm : mn.length ≤ 24) : spTell S = (wlG (R, mn), ((R, mn), [], push S.2.2.1 S.1, S.2.2.2)) := by
  have hr : rdRun S.2.1 (0, ([], []), []) 0 = (-6, (4, (R, mn), ru)) := hr
  unfold spTell
  rw [hr]
  have e : rdAns S.2.1 (-6, (4, (R, mn), ru)) = -6 := rfl
  rw [if_pos e]
  dsimp only
  rw [too_short hW h4 hl hm, if_neg (by decide)]
