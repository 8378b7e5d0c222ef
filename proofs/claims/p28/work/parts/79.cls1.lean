/-! The class' grammars by their lists; its history. -/
theorem lsy_fun {N : Nat} {a b : Nat → Int} (h : ∀ j, j < N → a j = b j) : lsy N a = lsy N b := funext fun s => lsy_loc h s
theorem dsy_fun {N : Nat} {a b : Nat → Int} (h : ∀ j, j < N → a j = b j) : dsy N a = dsy N b := funext fun s => dsy_loc h s
/-- a measured grammar, its numbers named -/
def GV (M : PM) (g : Nat) (G : GS) (p : Nat → Nat) (X : Nat → List Int) (lt dp us : Nat → Int) : Prop := Gm M g G.1.length p X G.2 lt dp us (wlG G) ∧ (∀ k, k < G.1.length → X k = xof G.1 k) ∧ WFG G ∧ (∀ j, j < G.1.length → lt j = ltG G j ∧ dp j = dpG G j ∧ us j = usT G j) ∧ lsy G.1.length lt = lyG G
theorem GM.gv {M : PM} {g : Nat} {G : GS} (h : GM M g G) : ∃ p X lt dp us, GV M g G p X lt dp us := by
  obtain ⟨p, X, lt, dp, us, W, h1, ⟨h2, h3, h4⟩, h5, h6⟩ := h
  have e1 : ∀ j, j < G.1.length → lt j = ltG G j := recT_uniq (fLt_loc G) (fun j hj => by
    have := (h2 j hj).1
    rw [this, h5 j hj]
    show _ = min (sumL (lsy j lt) (xof G.1 j)) 10000
    rw [sumL_congr (f := lsy G.1.length lt) (f' := lsy j lt) (fun s hs => (lsy_up (by omega) (h6.1 j hj s hs).2).symm)])
  have e2 : ∀ j, j < G.1.length → dp j = dpG G j := recT_uniq (fDp_loc G) (fun j hj => by
    have := (h2 j hj).2.1
    rw [this, h5 j hj]
    show _ = mxD (dsy j dp) (xof G.1 j) + 1
    rw [mxD_congr (f := dsy G.1.length dp) (f' := dsy j dp) (fun s hs => (dsy_up (by omega) (h6.1 j hj s hs).2).symm)])
  have e3 : lsy G.1.length lt = lyG G := lsy_fun e1
  have e4 : W = wlG G := by rw [h4, e3]; rfl
  subst e4
  exact ⟨p, X, lt, dp, us, h1, h5, h6, fun j hj => ⟨e1 j hj, e2 j hj, by rw [h3 j hj, usS_congr j h5]; rfl⟩, e3⟩
theorem GM.wf {M : PM} {g : Nat} {G : GS} (h : GM M g G) : WFG G := by
  obtain ⟨p, X, lt, dp, us, W, h1, h2, h3, h4⟩ := h
  exact h4
def GE (M : PM) (g : Nat) : Prop := ∃ N p X mn lt dp us W, Gm M g N p X mn lt dp us W
theorem GM.ge {M : PM} {g : Nat} {G : GS} (h : GM M g G) : GE M g := by
  obtain ⟨p, X, lt, dp, us, W, h1, -⟩ := h
  exact ⟨_, _, _, _, _, _, _, _, h1⟩
theorem GL.ge {M : PM} {g : Nat} {G : GS} (h : GL M g G) : GE M g := by
  obtain ⟨p, X, lt, dp, us, W, h1, -⟩ := h
  exact ⟨_, _, _, _, _, _, _, _, h1⟩
theorem GE.fr {P : Nat → Prop} {M M' : PM} {g : Nat} (h : GE M g) (f : Fr P M M') (hP : ∀ q, inG g q → ¬ P q) : GE M' g := by
  obtain ⟨N, p, X, mn, lt, dp, us, W, h1⟩ := h
  exact ⟨N, p, X, mn, lt, dp, us, W, h1.fr f (fun q q1 q2 => hP q ⟨q1, q2⟩)⟩
theorem GE.obj {M : PM} {g : Nat} (h : GE M g) : ∃ fs, M[g]? = some (.inr (0, fs)) := by
  obtain ⟨N, p, X, mn, lt, dp, us, W, h1⟩ := h
  exact ⟨_, h1.obj⟩
theorem GM.obj {M : PM} {g : Nat} {G : GS} (h : GM M g G) : ∃ fs, M[g]? = some (.inr (0, fs)) := h.ge.obj
/-- what another main row makes of a measured grammar -/
theorem GM.of {M : PM} {g : Nat} {G : GS} {p : Nat → Nat} {X : Nat → List Int} {mn : List Int} {lt dp us : Nat → Int} {W : Int} (h : Gm M g G.1.length p X mn lt dp us W) (hm : Ms G.1.length X mn lt dp us W) (hx : ∀ k, k < G.1.length → X k = xof G.1 k) (hW : WFG (G.1, mn)) : GM M g (G.1, mn) := ⟨p, X, lt, dp, us, W, h, hm, hx, hW⟩
theorem c_GM_copy {M : PM} {g h : Nat} {G : GS} (hgh : g + 59 ≤ h ∨ h + 59 ≤ g) (hg : GE M g) (hh : GM M h G) : Wm 2 [.ref g, .ref h] M (fun v M' => v = none ∧ Fr (inG g) M M' ∧ GM M' g G) := by
  obtain ⟨N, p, X, mn, lt, dp, us, W, h1⟩ := hg
  obtain ⟨p', X', lt', dp', us', W', k1, ⟨k2, k3, k4⟩, k5, k6⟩ := hh
  refine (c_Gr_copy hgh h1 k1).mono ?_
  rintro v M' ⟨rfl, f, X2, lt2, dp2, us2, q1, q2⟩
  have el : lsy G.1.length lt2 = lsy G.1.length lt' := lsy_fun (fun j hj => (q2 j hj).2.1)
  have ed : dsy G.1.length dp2 = dsy G.1.length dp' := dsy_fun (fun j hj => (q2 j hj).2.2.1)
  refine ⟨rfl, f, p, X2, lt2, dp2, us2, W', q1, ⟨fun j hj => ?_, fun j hj => ?_, ?_⟩, fun k hk => by rw [(q2 k hk).1, k5 k hk], k6⟩
  · obtain ⟨w1, w2, w3, w4⟩ := q2 j hj
    rw [w1, w2, w3, el, ed]
    exact k2 j hj
  · obtain ⟨w1, w2, w3, w4⟩ := q2 j hj
    rw [w4, k3 j hj, usS_congr j (fun i hi => (q2 i hi).1)]
  · rw [el]
    exact k4
/-- the history's cells: its object at h, its states in the 354 cells from h + 2 on -/
def CH (M : PM) (h : Nat) (hist : List GS) : Prop := ∃ nx : Nat, nx < 6 ∧ M[h]? = some (.inr (1, [.ref (h + 1), .int (I nx), .int (I (hist.length : Nat))])) ∧ (∃ f, M[h + 1]? = some (aQ 3 6 f) ∧ ∀ i, i < 6 → f i = some (h + 2 + 59 * i)) ∧ (∀ i, i < 6 → GE M (h + 2 + 59 * i)) ∧ hist.length ≤ 6 ∧ ∀ (k : Nat) (G : GS), 1 ≤ k → k ≤ hist.length → hist[hist.length - k]? = some G → GM M (h + 2 + 59 * ((nx + 6 - k) % 6)) G
theorem CH.fr {P : Nat → Prop} {M M' : PM} {h : Nat} {hist : List GS} (k : CH M h hist) (f : Fr P M M') (hP : ∀ q, h ≤ q → q < h + 356 → ¬ P q) : CH M' h hist := by
  obtain ⟨nx, h1, h2, ⟨ff, h3, h4⟩, h5, h6, h7⟩ := k
  refine ⟨nx, h1, f.at (hP _ (by omega) (by omega)) h2, ⟨ff, f.at (hP _ (by omega) (by omega)) h3, h4⟩, fun i hi => (h5 i hi).fr f (fun q hq => by unfold inG at hq; exact hP q (by omega) (by omega)), h6, fun k G k1 k2 k3 => (h7 k G k1 k2 k3).fr f (fun q hq => by
    unfold inG at hq
    have := Nat.mod_lt (nx + 6 - k) (show 0 < 6 by omega)
    exact hP q (by omega) (by omega))⟩
theorem irem6 : ∀ x : Nat, x < 12 → I (x : Int) - I (x : Int) / I 6 * I 6 = I ((x % 6 : Nat) : Int) := by decide
theorem wq_irem6 {c : MM} {ln nx tg r1 r2 r3 pc : Nat} {lv : LV} {r : List Value} {M : PM} {Q : Option Value → PM → Prop} {x : Nat} {z : Int} (hx : x < 12) (hz : z = (x : Int)) (k : Wp c (nx, lv, .int (I ((x % 6 : Nat) : Int)) :: r, M) Q) : Wq c (.irem, ln, nx, tg, r1, r2, r3) pc lv (.int (I 6) :: .int (I z) :: r) M Q := by
  subst hz
  refine wq_k (sk' := .int (I ((x % 6 : Nat) : Int)) :: r) ?_ k
  rw [← irem6 x hx]
  rfl
theorem getE_tail {hist : List GS} (i : Nat) : hist.tail[i]? = hist[i + 1]? := List.getElem?_tail
section HIS
variable {M : PM} {h : Nat} {hist : List GS}
theorem c_Hist_size (k : CH M h hist) : Wm 38 [.ref h] M (fun v M' => v = some (.int (I (hist.length : Nat))) ∧ M' = M) := by
  obtain ⟨nx, h1, h2, -⟩ := k
  refine wm_in (lv := _) rfl rfl rfl ?_
  repeat' (refine wf rfl ?_; first | refine wq_iadd ?_ | refine wq_isub ?_ | refine wq_imul ?_ | refine wq_iinc rfl ?_ | refine wq_goto ?_ | refine wq_k rfl ?_ | refine wq_b rfl rfl ?_ | refine wq_getf (by assumption) rfl ?_ | refine wq_alen (by assumption) rfl ?_ | (refine wq_eq ⟨by omega, by omega⟩ ⟨by omega, by omega⟩ (fun _ => ?_) (fun _ => ?_) <;> try (exfalso; omega)) | (refine wq_ne ⟨by omega, by omega⟩ ⟨by omega, by omega⟩ (fun _ => ?_) (fun _ => ?_) <;> try (exfalso; omega)) | (refine wq_lt ⟨by omega, by omega⟩ ⟨by omega, by omega⟩ (fun _ => ?_) (fun _ => ?_) <;> try (exfalso; omega)) | (refine wq_ge ⟨by omega, by omega⟩ ⟨by omega, by omega⟩ (fun _ => ?_) (fun _ => ?_) <;> try (exfalso; omega)) | (refine wq_gt ⟨by omega, by omega⟩ ⟨by omega, by omega⟩ (fun _ => ?_) (fun _ => ?_) <;> try (exfalso; omega)) | (refine wq_le ⟨by omega, by omega⟩ ⟨by omega, by omega⟩ (fun _ => ?_) (fun _ => ?_) <;> try (exfalso; omega)) | (refine wq_ifeq ⟨by omega, by omega⟩ (fun _ => ?_) (fun _ => ?_) <;> try (exfalso; omega)) | (refine wq_ifne ⟨by omega, by omega⟩ (fun _ => ?_) (fun _ => ?_) <;> try (exfalso; omega)) | (refine wq_iflt ⟨by omega, by omega⟩ (fun _ => ?_) (fun _ => ?_) <;> try (exfalso; omega)) | (refine wq_ifge ⟨by omega, by omega⟩ (fun _ => ?_) (fun _ => ?_) <;> try (exfalso; omega)) | (refine wq_ifgt ⟨by omega, by omega⟩ (fun _ => ?_) (fun _ => ?_) <;> try (exfalso; omega)) | (refine wq_ifle ⟨by omega, by omega⟩ (fun _ => ?_) (fun _ => ?_) <;> try (exfalso; omega)) | refine wq_r rfl rfl rfl rfl rfl rfl ?_)
  exact ⟨rfl, rfl⟩
theorem c_Hist_record {g : Nat} {G : GS} (k : CH M h hist) (hG : GM M g G) (hd : g + 59 ≤ h ∨ h + 356 ≤ g) : Wm 39 [.ref h, .ref g] M (fun v M' => v = none ∧ Fr (fun q => h ≤ q ∧ q < h + 356) M M' ∧ CH M' h (push hist G)) := by
  obtain ⟨nx, h1, h2, ⟨ff, h3, h4⟩, h5, h6, h7⟩ := id k
  obtain ⟨fs, ho⟩ := (h5 nx h1).obj
  have hcp := c_GM_copy (g := h + 2 + 59 * nx) (h := g) (by omega) (h5 nx h1) hG
  refine wm_in (lv := _) rfl rfl rfl ?_
  repeat' (refine wf rfl ?_; first | refine wq_iadd ?_ | refine wq_isub ?_ | refine wq_imul ?_ | refine wq_iinc rfl ?_ | refine wq_goto ?_ | refine wq_k rfl ?_ | refine wq_b rfl rfl ?_ | refine wq_getf (by assumption) rfl ?_ | refine wq_alen (by assumption) rfl ?_ | (refine wq_eq ⟨by omega, by omega⟩ ⟨by omega, by omega⟩ (fun _ => ?_) (fun _ => ?_) <;> try (exfalso; omega)) | (refine wq_ne ⟨by omega, by omega⟩ ⟨by omega, by omega⟩ (fun _ => ?_) (fun _ => ?_) <;> try (exfalso; omega)) | (refine wq_lt ⟨by omega, by omega⟩ ⟨by omega, by omega⟩ (fun _ => ?_) (fun _ => ?_) <;> try (exfalso; omega)) | (refine wq_ge ⟨by omega, by omega⟩ ⟨by omega, by omega⟩ (fun _ => ?_) (fun _ => ?_) <;> try (exfalso; omega)) | (refine wq_gt ⟨by omega, by omega⟩ ⟨by omega, by omega⟩ (fun _ => ?_) (fun _ => ?_) <;> try (exfalso; omega)) | (refine wq_le ⟨by omega, by omega⟩ ⟨by omega, by omega⟩ (fun _ => ?_) (fun _ => ?_) <;> try (exfalso; omega)) | (refine wq_ifeq ⟨by omega, by omega⟩ (fun _ => ?_) (fun _ => ?_) <;> try (exfalso; omega)) | (refine wq_ifne ⟨by omega, by omega⟩ (fun _ => ?_) (fun _ => ?_) <;> try (exfalso; omega)) | (refine wq_iflt ⟨by omega, by omega⟩ (fun _ => ?_) (fun _ => ?_) <;> try (exfalso; omega)) | (refine wq_ifge ⟨by omega, by omega⟩ (fun _ => ?_) (fun _ => ?_) <;> try (exfalso; omega)) | (refine wq_ifgt ⟨by omega, by omega⟩ (fun _ => ?_) (fun _ => ?_) <;> try (exfalso; omega)) | (refine wq_ifle ⟨by omega, by omega⟩ (fun _ => ?_) (fun _ => ?_) <;> try (exfalso; omega)) | refine wq_r rfl rfl rfl rfl rfl rfl ?_)
  refine wf rfl (wq_aald h3 rfl ⟨by omega, by omega⟩ (by omega) (by omega) (h4 _ (by omega)) ?_)
  rw [show ((nx : Int)).toNat = nx by omega]
  repeat (refine wf rfl ?_; first | refine wq_iadd ?_ | refine wq_isub ?_ | refine wq_imul ?_ | refine wq_iinc rfl ?_ | refine wq_goto ?_ | refine wq_k rfl ?_ | refine wq_b rfl rfl ?_ | refine wq_getf (by assumption) rfl ?_ | refine wq_alen (by assumption) rfl ?_)
  refine wf rfl (wq_cv rfl rfl rfl ho (hcp.mono ?_))
  rintro v M1 ⟨rfl, f1, k1⟩
  have h21 := f1.at (by unfold inG; omega) h2
  repeat (refine wf rfl ?_; first | refine wq_irem6 (x := nx + 1) (by omega) (by omega) ?_ | refine wq_iadd ?_ | refine wq_isub ?_ | refine wq_imul ?_ | refine wq_iinc rfl ?_ | refine wq_goto ?_ | refine wq_k rfl ?_ | refine wq_b rfl rfl ?_ | refine wq_getf (by assumption) rfl ?_ | refine wq_alen (by assumption) rfl ?_)
  refine wf rfl (wq_putf h21 rfl (fun M2 e2 f2 => ?_))
  repeat (refine wf rfl ?_; first | refine wq_iadd ?_ | refine wq_isub ?_ | refine wq_imul ?_ | refine wq_iinc rfl ?_ | refine wq_goto ?_ | refine wq_k rfl ?_ | refine wq_b rfl rfl ?_ | refine wq_getf (by assumption) rfl ?_ | refine wq_alen (by assumption) rfl ?_)
  refine wf rfl (wq_cs rfl rfl ((c_min (M := M2) (x := (hist.length : Int) + 1) (y := 6) ⟨by omega, by omega⟩ ⟨by omega, by omega⟩).mono ?_))
  rintro v M2 ⟨rfl, rfl⟩
  refine wf rfl (wq_putf e2 rfl (fun M3 e3 f3 => ?_))
  repeat' (refine wf rfl ?_; first | refine wq_iadd ?_ | refine wq_isub ?_ | refine wq_imul ?_ | refine wq_iinc rfl ?_ | refine wq_goto ?_ | refine wq_k rfl ?_ | refine wq_b rfl rfl ?_ | refine wq_getf (by assumption) rfl ?_ | refine wq_alen (by assumption) rfl ?_ | (refine wq_eq ⟨by omega, by omega⟩ ⟨by omega, by omega⟩ (fun _ => ?_) (fun _ => ?_) <;> try (exfalso; omega)) | (refine wq_ne ⟨by omega, by omega⟩ ⟨by omega, by omega⟩ (fun _ => ?_) (fun _ => ?_) <;> try (exfalso; omega)) | (refine wq_lt ⟨by omega, by omega⟩ ⟨by omega, by omega⟩ (fun _ => ?_) (fun _ => ?_) <;> try (exfalso; omega)) | (refine wq_ge ⟨by omega, by omega⟩ ⟨by omega, by omega⟩ (fun _ => ?_) (fun _ => ?_) <;> try (exfalso; omega)) | (refine wq_gt ⟨by omega, by omega⟩ ⟨by omega, by omega⟩ (fun _ => ?_) (fun _ => ?_) <;> try (exfalso; omega)) | (refine wq_le ⟨by omega, by omega⟩ ⟨by omega, by omega⟩ (fun _ => ?_) (fun _ => ?_) <;> try (exfalso; omega)) | (refine wq_ifeq ⟨by omega, by omega⟩ (fun _ => ?_) (fun _ => ?_) <;> try (exfalso; omega)) | (refine wq_ifne ⟨by omega, by omega⟩ (fun _ => ?_) (fun _ => ?_) <;> try (exfalso; omega)) | (refine wq_iflt ⟨by omega, by omega⟩ (fun _ => ?_) (fun _ => ?_) <;> try (exfalso; omega)) | (refine wq_ifge ⟨by omega, by omega⟩ (fun _ => ?_) (fun _ => ?_) <;> try (exfalso; omega)) | (refine wq_ifgt ⟨by omega, by omega⟩ (fun _ => ?_) (fun _ => ?_) <;> try (exfalso; omega)) | (refine wq_ifle ⟨by omega, by omega⟩ (fun _ => ?_) (fun _ => ?_) <;> try (exfalso; omega)) | refine wq_r rfl rfl rfl rfl rfl rfl ?_)
  have ff13 : Fr (fun q => q = h ∨ inG (h + 2 + 59 * nx) q) M M3 := ((f1.mono (fun q hq => Or.inr hq)).tr (f2.mono (fun q hq => Or.inl hq))).tr (f3.mono (fun q hq => Or.inl hq))
  have hpl : ((push hist G).length : Int) = min ((hist.length : Int) + 1) 6 := by
    unfold push
    rw [List.length_append]
    split
    · rw [List.length_tail]; simp; omega
    · simp; omega
  have hnm := Nat.mod_lt (nx + 1) (show 0 < 6 by omega)
  refine ⟨rfl, ff13.mono (fun q hq => by unfold inG at hq; omega), (nx + 1) % 6, hnm, ?_, ⟨ff, f3.at (by omega) (f2.at (by omega) (f1.at (by unfold inG; omega) h3)), h4⟩, fun i hi => ?_, push_len h6, fun j G' j1 j2 j3 => ?_⟩
  · rw [hpl]
    exact e3
  · by_cases he : i = nx
    · subst he
      exact (k1.ge.fr f2 (fun q hq => by unfold inG at hq; omega)).fr f3 (fun q hq => by unfold inG at hq; omega)
    · exact (h5 i hi).fr ff13 (fun q hq => by unfold inG at hq ⊢; omega)
  · by_cases hj : j = 1
    · subst hj
      have eG : G' = G := by
        unfold push at j3
        rw [List.length_append, List.length_singleton, Nat.add_sub_cancel, List.getElem?_append_right (Nat.le_refl _), Nat.sub_self] at j3
        cases j3
        rfl
      subst eG
      rw [show ((nx + 1) % 6 + 6 - 1) % 6 = nx by omega]
      exact (k1.fr f2 (fun q hq => by unfold inG at hq; omega)).fr f3 (fun q hq => by unfold inG at hq; omega)
    · have hidx : ((nx + 1) % 6 + 6 - j) % 6 = (nx + 6 - (j - 1)) % 6 := by omega
      have hne : (nx + 6 - (j - 1)) % 6 ≠ nx := by omega
      have hm6 := Nat.mod_lt (nx + 6 - (j - 1)) (show 0 < 6 by omega)
      have hh : hist[hist.length - (j - 1)]? = some G' := by
        rw [← j3]
        unfold push
        rw [List.length_append, List.length_singleton]
        by_cases h66 : hist.length = 6
        · rw [if_pos h66, List.getElem?_append_left (by rw [List.length_tail]; omega), List.length_tail, List.getElem?_tail]
          congr 1
          omega
        · rw [if_neg h66, List.getElem?_append_left (by omega)]
          congr 1
          omega
      rw [hidx]
      exact (h7 (j - 1) G' (by omega) (by omega) hh).fr ff13 (fun q hq => by unfold inG at hq ⊢; omega)
theorem c_Hist_takeBack {g : Nat} {G : GS} (k : CH M h hist) (hg : GE M g) (hd : g + 59 ≤ h ∨ h + 356 ≤ g) (hl : hist.getLast? = some G) : Wm 40 [.ref h, .ref g] M (fun v M' => v = none ∧ Fr (fun q => q = h ∨ inG g q) M M' ∧ CH M' h hist.dropLast ∧ GM M' g G) := by
  obtain ⟨nx, h1, h2, ⟨ff, h3, h4⟩, h5, h6, h7⟩ := id k
  have hg' : hist[hist.length - 1]? = some G := by rw [← hl, List.getLast?_eq_getElem?]
  have hp : 0 < hist.length := by
    rcases Nat.eq_zero_or_pos hist.length with w | w
    · rw [List.eq_nil_of_length_eq_zero w] at hl; cases hl
    · exact w
  have hdl : hist.dropLast.length = hist.length - 1 := List.length_dropLast
  have hn5 : (nx + 5) % 6 < 6 := Nat.mod_lt _ (by omega)
  have hGM := h7 1 G (by omega) hp hg'
  rw [show (nx + 6 - 1) % 6 = (nx + 5) % 6 by omega] at hGM
  obtain ⟨fs, ho⟩ := hg.obj
  refine wm_in (lv := _) rfl rfl rfl ?_
  repeat (refine wf rfl ?_; first | refine wq_irem6 (x := nx + 5) (by omega) (by omega) ?_ | refine wq_iadd ?_ | refine wq_isub ?_ | refine wq_imul ?_ | refine wq_iinc rfl ?_ | refine wq_goto ?_ | refine wq_k rfl ?_ | refine wq_b rfl rfl ?_ | refine wq_getf (by assumption) rfl ?_ | refine wq_alen (by assumption) rfl ?_)
  repeat' (refine wf rfl ?_; first | refine wq_iadd ?_ | refine wq_isub ?_ | refine wq_imul ?_ | refine wq_iinc rfl ?_ | refine wq_goto ?_ | refine wq_k rfl ?_ | refine wq_b rfl rfl ?_ | refine wq_getf (by assumption) rfl ?_ | refine wq_alen (by assumption) rfl ?_ | (refine wq_eq ⟨by omega, by omega⟩ ⟨by omega, by omega⟩ (fun _ => ?_) (fun _ => ?_) <;> try (exfalso; omega)) | (refine wq_ne ⟨by omega, by omega⟩ ⟨by omega, by omega⟩ (fun _ => ?_) (fun _ => ?_) <;> try (exfalso; omega)) | (refine wq_lt ⟨by omega, by omega⟩ ⟨by omega, by omega⟩ (fun _ => ?_) (fun _ => ?_) <;> try (exfalso; omega)) | (refine wq_ge ⟨by omega, by omega⟩ ⟨by omega, by omega⟩ (fun _ => ?_) (fun _ => ?_) <;> try (exfalso; omega)) | (refine wq_gt ⟨by omega, by omega⟩ ⟨by omega, by omega⟩ (fun _ => ?_) (fun _ => ?_) <;> try (exfalso; omega)) | (refine wq_le ⟨by omega, by omega⟩ ⟨by omega, by omega⟩ (fun _ => ?_) (fun _ => ?_) <;> try (exfalso; omega)) | (refine wq_ifeq ⟨by omega, by omega⟩ (fun _ => ?_) (fun _ => ?_) <;> try (exfalso; omega)) | (refine wq_ifne ⟨by omega, by omega⟩ (fun _ => ?_) (fun _ => ?_) <;> try (exfalso; omega)) | (refine wq_iflt ⟨by omega, by omega⟩ (fun _ => ?_) (fun _ => ?_) <;> try (exfalso; omega)) | (refine wq_ifge ⟨by omega, by omega⟩ (fun _ => ?_) (fun _ => ?_) <;> try (exfalso; omega)) | (refine wq_ifgt ⟨by omega, by omega⟩ (fun _ => ?_) (fun _ => ?_) <;> try (exfalso; omega)) | (refine wq_ifle ⟨by omega, by omega⟩ (fun _ => ?_) (fun _ => ?_) <;> try (exfalso; omega)) | refine wq_r rfl rfl rfl rfl rfl rfl ?_)
  refine wf rfl (wq_putf h2 rfl (fun M2 e2 f2 => ?_))
  repeat (refine wf rfl ?_; first | refine wq_iadd ?_ | refine wq_isub ?_ | refine wq_imul ?_ | refine wq_iinc rfl ?_ | refine wq_goto ?_ | refine wq_k rfl ?_ | refine wq_b rfl rfl ?_ | refine wq_getf (by assumption) rfl ?_ | refine wq_alen (by assumption) rfl ?_)
  refine wf rfl (wq_putf e2 rfl (fun M3 e3 f3 => ?_))
  have f23 : Fr (fun q => q = h) M M3 := f2.tr f3
  have h33 := f23.at (by omega) h3
  have ho3 := f23.at (by omega) ho
  repeat (refine wf rfl ?_; first | refine wq_iadd ?_ | refine wq_isub ?_ | refine wq_imul ?_ | refine wq_iinc rfl ?_ | refine wq_goto ?_ | refine wq_k rfl ?_ | refine wq_b rfl rfl ?_ | refine wq_getf (by assumption) rfl ?_ | refine wq_alen (by assumption) rfl ?_)
  refine wf rfl (wq_aald h33 rfl ⟨by omega, by omega⟩ (by omega) (by omega) (h4 _ (by omega)) ?_)
  have hcp := c_GM_copy (M := M3) (g := g) (h := h + 2 + 59 * ((nx + 5) % 6)) (by omega) (hg.fr f23 (fun q hq => by unfold inG at hq; omega)) (hGM.fr f23 (fun q hq => by unfold inG at hq; omega))
  rw [show ((((nx + 5) % 6 : Nat) : Int)).toNat = (nx + 5) % 6 by omega]
  refine wf rfl (wq_cv rfl rfl rfl ho3 (hcp.mono ?_))
  rintro v M4 ⟨rfl, f4, k4⟩
  repeat' (refine wf rfl ?_; first | refine wq_iadd ?_ | refine wq_isub ?_ | refine wq_imul ?_ | refine wq_iinc rfl ?_ | refine wq_goto ?_ | refine wq_k rfl ?_ | refine wq_b rfl rfl ?_ | refine wq_getf (by assumption) rfl ?_ | refine wq_alen (by assumption) rfl ?_ | (refine wq_eq ⟨by omega, by omega⟩ ⟨by omega, by omega⟩ (fun _ => ?_) (fun _ => ?_) <;> try (exfalso; omega)) | (refine wq_ne ⟨by omega, by omega⟩ ⟨by omega, by omega⟩ (fun _ => ?_) (fun _ => ?_) <;> try (exfalso; omega)) | (refine wq_lt ⟨by omega, by omega⟩ ⟨by omega, by omega⟩ (fun _ => ?_) (fun _ => ?_) <;> try (exfalso; omega)) | (refine wq_ge ⟨by omega, by omega⟩ ⟨by omega, by omega⟩ (fun _ => ?_) (fun _ => ?_) <;> try (exfalso; omega)) | (refine wq_gt ⟨by omega, by omega⟩ ⟨by omega, by omega⟩ (fun _ => ?_) (fun _ => ?_) <;> try (exfalso; omega)) | (refine wq_le ⟨by omega, by omega⟩ ⟨by omega, by omega⟩ (fun _ => ?_) (fun _ => ?_) <;> try (exfalso; omega)) | (refine wq_ifeq ⟨by omega, by omega⟩ (fun _ => ?_) (fun _ => ?_) <;> try (exfalso; omega)) | (refine wq_ifne ⟨by omega, by omega⟩ (fun _ => ?_) (fun _ => ?_) <;> try (exfalso; omega)) | (refine wq_iflt ⟨by omega, by omega⟩ (fun _ => ?_) (fun _ => ?_) <;> try (exfalso; omega)) | (refine wq_ifge ⟨by omega, by omega⟩ (fun _ => ?_) (fun _ => ?_) <;> try (exfalso; omega)) | (refine wq_ifgt ⟨by omega, by omega⟩ (fun _ => ?_) (fun _ => ?_) <;> try (exfalso; omega)) | (refine wq_ifle ⟨by omega, by omega⟩ (fun _ => ?_) (fun _ => ?_) <;> try (exfalso; omega)) | refine wq_r rfl rfl rfl rfl rfl rfl ?_)
  have f24 : Fr (fun q => q = h ∨ inG g q) M M4 := f23.tr2 f4
  refine ⟨rfl, f24, ⟨(nx + 5) % 6, hn5, ?_, ⟨ff, f4.at (by unfold inG; omega) h33, h4⟩, fun i hi => (h5 i hi).fr f24 (fun q hq => by unfold inG at hq ⊢; omega), by omega, fun j G' j1 j2 j3 => ?_⟩, k4⟩
  · rw [hdl, show ((hist.length - 1 : Nat) : Int) = (hist.length : Int) - 1 by omega]
    exact f4.at (by unfold inG; omega) e3
  · rw [hdl] at j2 j3
    have hh : hist[hist.length - (j + 1)]? = some G' := by
      rw [List.getElem?_dropLast, if_pos (by omega)] at j3
      rw [← j3]
      congr 1
      omega
    have := h7 (j + 1) G' (by omega) (by omega) hh
    rw [show (nx + 6 - (j + 1)) % 6 = ((nx + 5) % 6 + 6 - j) % 6 by omega] at this
    have hm6 := Nat.mod_lt ((nx + 5) % 6 + 6 - j) (show 0 < 6 by omega)
    exact this.fr f24 (fun q hq => by unfold inG at hq ⊢; omega)
end HIS
