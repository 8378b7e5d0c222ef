/-! Grammar.unrollSeldomUsed, on lists. -/
theorem GM.canX {M : PM} {g : Nat} {G : GS} (h : GM M g G) : G.1.length ≤ 26 := by
  obtain ⟨p, X, lt, dp, us, W, h1, h2, h3, h4⟩ := h
  exact h1.le
theorem nextP_some {G : GS} {r : Nat} (h : nextP G = some r) : r < G.1.length ∧ canB G r = true := by
  unfold nextP at h
  rw [List.find?_range_eq_some] at h
  obtain ⟨h1, h2, h3⟩ := h
  rw [List.mem_range] at h2
  unfold seldB at h1
  rw [Bool.and_eq_true] at h1
  exact ⟨h2, h1.2⟩
section GR10
variable {M : PM} {g : Nat}
theorem c_GM_unroll {G : GS} (h : GM M g G) {r : Nat} (hr : r < G.1.length) (hc : canB G r = true) : Wm 34 [.ref g, .int (I r)] M (fun v M' => v = none ∧ Fr (inG g) M M' ∧ GM M' g (unrG G r)) := by
  obtain ⟨p, X, lt, dp, us, W, h1, h2, h3, w1, w2, w3⟩ := h
  have hX : WFX G.1.length X := fun k hk s hs => w1 k hk s (by rw [← h3 k hk]; exact hs)
  have hcu : canU G.1.length X G.2 r := (canU_congr hr h3).mpr (canB_iff.mp hc)
  have hl := unrG_len (G := G) hr
  refine (c_Gr_unrollRule h1 hX w2 (fun k hk => by rw [h3 k hk]; exact w3 k hk) hr hcu).mono ?_
  rintro v M' ⟨hv, fr, X2, q1, q2, q3, lt', dp', us', W', q4, q5⟩
  have e : ∀ k, k < G.1.length - 1 → X2 k = xof (unrG G r).1 k := by
    intro k hk
    rw [q1 k (by omega), xof_unr hr (by omega), h3 r hr, h3 k (by omega), h3 (k + 1) (by omega)]
  refine ⟨hv, fr, (fun j => p (sgU G.1.length r j)), X2, lt', dp', us', W', ?_, ?_, ?_, ?_, ?_, ?_⟩
  · rw [hl]
    rw [h3 r hr] at q4
    exact q4
  · rw [hl]
    rw [h3 r hr] at q5
    exact q5
  · rw [hl]
    exact e
  · rw [hl]
    exact fun k hk s hs => q2 k hk s (by rw [e k hk]; exact hs)
  · rw [hl]
    rw [h3 r hr] at q3
    exact q3
  · rw [hl]
    intro k hk
    rw [xof_unr hr (by omega)]
    split
    · exact w3 k (by omega)
    · have q6 := unr_len (sym := 8 + (r : Int)) (w3 r hr) (xof G.1 (k + 1))
      have q7 := w3 (k + 1) (by omega)
      omega
theorem lp_unrollS (n : Nat) : ∀ (c : Int) (G : GS) (M1 : PM), (0 ≤ c ∧ c + n = 26 ∧ GM M1 g G ∧ Fr (inG g) M M1) →
    Wp k_X0_unrollSeldomUsed (7, [(0, .ref g), (1, .int (I c)), (2, .int (I (ofNext (nextP G))))], [], M1) (fun v M' => v = some (.int (I (c + (prune n G).2))) ∧ Fr (inG g) M M' ∧ GM M' g (prune n G).1) := by
  induction n with
  | zero =>
    rintro c G M1 ⟨i1, i2, i3, i4⟩
    repeat (refine wf rfl ?_; first | refine wq_iadd ?_ | refine wq_isub ?_ | refine wq_imul ?_ | refine wq_iinc rfl ?_ | refine wq_goto ?_ | refine wq_k rfl ?_ | refine wq_b rfl rfl ?_ | refine wq_getf (by assumption) rfl ?_ | refine wq_alen (by assumption) rfl ?_)
    refine wf rfl (wq_ge ⟨by omega, by omega⟩ ⟨by omega, by omega⟩ (fun c1 => ?_) (fun c1 => by exfalso; omega))
    repeat' (refine wf rfl ?_; first | refine wq_iadd ?_ | refine wq_isub ?_ | refine wq_imul ?_ | refine wq_iinc rfl ?_ | refine wq_goto ?_ | refine wq_k rfl ?_ | refine wq_b rfl rfl ?_ | refine wq_getf (by assumption) rfl ?_ | refine wq_alen (by assumption) rfl ?_ | (refine wq_eq ⟨by omega, by omega⟩ ⟨by omega, by omega⟩ (fun _ => ?_) (fun _ => ?_) <;> try (exfalso; omega)) | (refine wq_ne ⟨by omega, by omega⟩ ⟨by omega, by omega⟩ (fun _ => ?_) (fun _ => ?_) <;> try (exfalso; omega)) | (refine wq_lt ⟨by omega, by omega⟩ ⟨by omega, by omega⟩ (fun _ => ?_) (fun _ => ?_) <;> try (exfalso; omega)) | (refine wq_ge ⟨by omega, by omega⟩ ⟨by omega, by omega⟩ (fun _ => ?_) (fun _ => ?_) <;> try (exfalso; omega)) | (refine wq_gt ⟨by omega, by omega⟩ ⟨by omega, by omega⟩ (fun _ => ?_) (fun _ => ?_) <;> try (exfalso; omega)) | (refine wq_le ⟨by omega, by omega⟩ ⟨by omega, by omega⟩ (fun _ => ?_) (fun _ => ?_) <;> try (exfalso; omega)) | (refine wq_ifeq ⟨by omega, by omega⟩ (fun _ => ?_) (fun _ => ?_) <;> try (exfalso; omega)) | (refine wq_ifne ⟨by omega, by omega⟩ (fun _ => ?_) (fun _ => ?_) <;> try (exfalso; omega)) | (refine wq_iflt ⟨by omega, by omega⟩ (fun _ => ?_) (fun _ => ?_) <;> try (exfalso; omega)) | (refine wq_ifge ⟨by omega, by omega⟩ (fun _ => ?_) (fun _ => ?_) <;> try (exfalso; omega)) | (refine wq_ifgt ⟨by omega, by omega⟩ (fun _ => ?_) (fun _ => ?_) <;> try (exfalso; omega)) | (refine wq_ifle ⟨by omega, by omega⟩ (fun _ => ?_) (fun _ => ?_) <;> try (exfalso; omega)) | refine wq_r rfl rfl rfl rfl rfl rfl ?_)
    exact ⟨by simp [prune], i4, by simpa [prune] using i3⟩
  | succ n ih =>
    rintro c G M1 ⟨i1, i2, i3, i4⟩
    obtain ⟨p, X, lt, dp, us, W, h1, h2⟩ := id i3
    have hg1 := h1.obj
    repeat (refine wf rfl ?_; first | refine wq_iadd ?_ | refine wq_isub ?_ | refine wq_imul ?_ | refine wq_iinc rfl ?_ | refine wq_goto ?_ | refine wq_k rfl ?_ | refine wq_b rfl rfl ?_ | refine wq_getf (by assumption) rfl ?_ | refine wq_alen (by assumption) rfl ?_)
    refine wf rfl (wq_ge ⟨by omega, by omega⟩ ⟨by omega, by omega⟩ (fun c1 => by exfalso; omega) (fun c1 => ?_))
    cases hn : nextP G with
    | none =>
      have e : ofNext none = -6 := rfl
      rw [e]
      repeat' (refine wf rfl ?_; first | refine wq_iadd ?_ | refine wq_isub ?_ | refine wq_imul ?_ | refine wq_iinc rfl ?_ | refine wq_goto ?_ | refine wq_k rfl ?_ | refine wq_b rfl rfl ?_ | refine wq_getf (by assumption) rfl ?_ | refine wq_alen (by assumption) rfl ?_ | (refine wq_eq ⟨by omega, by omega⟩ ⟨by omega, by omega⟩ (fun _ => ?_) (fun _ => ?_) <;> try (exfalso; omega)) | (refine wq_ne ⟨by omega, by omega⟩ ⟨by omega, by omega⟩ (fun _ => ?_) (fun _ => ?_) <;> try (exfalso; omega)) | (refine wq_lt ⟨by omega, by omega⟩ ⟨by omega, by omega⟩ (fun _ => ?_) (fun _ => ?_) <;> try (exfalso; omega)) | (refine wq_ge ⟨by omega, by omega⟩ ⟨by omega, by omega⟩ (fun _ => ?_) (fun _ => ?_) <;> try (exfalso; omega)) | (refine wq_gt ⟨by omega, by omega⟩ ⟨by omega, by omega⟩ (fun _ => ?_) (fun _ => ?_) <;> try (exfalso; omega)) | (refine wq_le ⟨by omega, by omega⟩ ⟨by omega, by omega⟩ (fun _ => ?_) (fun _ => ?_) <;> try (exfalso; omega)) | (refine wq_ifeq ⟨by omega, by omega⟩ (fun _ => ?_) (fun _ => ?_) <;> try (exfalso; omega)) | (refine wq_ifne ⟨by omega, by omega⟩ (fun _ => ?_) (fun _ => ?_) <;> try (exfalso; omega)) | (refine wq_iflt ⟨by omega, by omega⟩ (fun _ => ?_) (fun _ => ?_) <;> try (exfalso; omega)) | (refine wq_ifge ⟨by omega, by omega⟩ (fun _ => ?_) (fun _ => ?_) <;> try (exfalso; omega)) | (refine wq_ifgt ⟨by omega, by omega⟩ (fun _ => ?_) (fun _ => ?_) <;> try (exfalso; omega)) | (refine wq_ifle ⟨by omega, by omega⟩ (fun _ => ?_) (fun _ => ?_) <;> try (exfalso; omega)) | refine wq_r rfl rfl rfl rfl rfl rfl ?_)
      exact ⟨by simp [prune, hn], i4, by simpa [prune, hn] using i3⟩
    | some r =>
      have e : ofNext (some r) = (r : Int) := rfl
      rw [e]
      obtain ⟨hr, hc⟩ := nextP_some hn
      have h26 := i3.canX
      repeat (refine wf rfl ?_; first | refine wq_iadd ?_ | refine wq_isub ?_ | refine wq_imul ?_ | refine wq_iinc rfl ?_ | refine wq_goto ?_ | refine wq_k rfl ?_ | refine wq_b rfl rfl ?_ | refine wq_getf (by assumption) rfl ?_ | refine wq_alen (by assumption) rfl ?_)
      refine wf rfl (wq_eq ⟨by omega, by omega⟩ ⟨by omega, by omega⟩ (fun c2 => by exfalso; omega) (fun c2 => ?_))
      repeat (refine wf rfl ?_; first | refine wq_iadd ?_ | refine wq_isub ?_ | refine wq_imul ?_ | refine wq_iinc rfl ?_ | refine wq_goto ?_ | refine wq_k rfl ?_ | refine wq_b rfl rfl ?_ | refine wq_getf (by assumption) rfl ?_ | refine wq_alen (by assumption) rfl ?_)
      refine wf rfl (wq_cv rfl rfl rfl hg1 ((c_GM_unroll i3 hr hc).mono ?_))
      rintro v M2 ⟨rfl, f2, g2⟩
      obtain ⟨p', X', lt', dp', us', W', h1', h2'⟩ := id g2
      have hg2 := h1'.obj
      repeat (refine wf rfl ?_; first | refine wq_iadd ?_ | refine wq_isub ?_ | refine wq_imul ?_ | refine wq_iinc rfl ?_ | refine wq_goto ?_ | refine wq_k rfl ?_ | refine wq_b rfl rfl ?_ | refine wq_getf (by assumption) rfl ?_ | refine wq_alen (by assumption) rfl ?_)
      refine wf rfl (wq_cv rfl rfl rfl hg2 ((c_GM_lowest g2).mono ?_))
      rintro v M2 ⟨rfl, rfl⟩
      have hstep := fun (_ : True) => ih (c + 1) (unrG G r) M2 ⟨by omega, by omega, g2, i4.tr f2⟩
      rw [show (prune (n + 1) G).2 = (prune n (unrG G r)).2 + 1 by rw [prune, hn], show (prune (n + 1) G).1 = (prune n (unrG G r)).1 by rw [prune, hn], show c + (((prune n (unrG G r)).2 + 1 : Nat) : Int) = c + 1 + (prune n (unrG G r)).2 by omega]
      repeat' (first | (refine Wp.sub (hstep  ?_) ⟨rfl, rfl, rfl, trivial⟩ rfl) | (refine wf rfl ?_; first | refine wq_iadd ?_ | refine wq_isub ?_ | refine wq_imul ?_ | refine wq_iinc rfl ?_ | refine wq_goto ?_ | refine wq_k rfl ?_ | refine wq_b rfl rfl ?_ | refine wq_getf (by assumption) rfl ?_ | refine wq_alen (by assumption) rfl ?_ | fail | (refine wq_eq ⟨by omega, by omega⟩ ⟨by omega, by omega⟩ (fun _ => ?_) (fun _ => ?_) <;> try (exfalso; omega)) | (refine wq_ne ⟨by omega, by omega⟩ ⟨by omega, by omega⟩ (fun _ => ?_) (fun _ => ?_) <;> try (exfalso; omega)) | (refine wq_lt ⟨by omega, by omega⟩ ⟨by omega, by omega⟩ (fun _ => ?_) (fun _ => ?_) <;> try (exfalso; omega)) | (refine wq_ge ⟨by omega, by omega⟩ ⟨by omega, by omega⟩ (fun _ => ?_) (fun _ => ?_) <;> try (exfalso; omega)) | (refine wq_gt ⟨by omega, by omega⟩ ⟨by omega, by omega⟩ (fun _ => ?_) (fun _ => ?_) <;> try (exfalso; omega)) | (refine wq_le ⟨by omega, by omega⟩ ⟨by omega, by omega⟩ (fun _ => ?_) (fun _ => ?_) <;> try (exfalso; omega)) | (refine wq_ifeq ⟨by omega, by omega⟩ (fun _ => ?_) (fun _ => ?_) <;> try (exfalso; omega)) | (refine wq_ifne ⟨by omega, by omega⟩ (fun _ => ?_) (fun _ => ?_) <;> try (exfalso; omega)) | (refine wq_iflt ⟨by omega, by omega⟩ (fun _ => ?_) (fun _ => ?_) <;> try (exfalso; omega)) | (refine wq_ifge ⟨by omega, by omega⟩ (fun _ => ?_) (fun _ => ?_) <;> try (exfalso; omega)) | (refine wq_ifgt ⟨by omega, by omega⟩ (fun _ => ?_) (fun _ => ?_) <;> try (exfalso; omega)) | (refine wq_ifle ⟨by omega, by omega⟩ (fun _ => ?_) (fun _ => ?_) <;> try (exfalso; omega)) | refine wq_r rfl rfl rfl rfl rfl rfl ?_))
      trivial
theorem c_Gr_unrollSeldomUsed {G : GS} (h : GM M g G) : Wm 35 [.ref g] M (fun v M' => v = some (.int (I ((prune 26 G).2 : Nat))) ∧ Fr (inG g) M M' ∧ GM M' g (prune 26 G).1) := by
  obtain ⟨p, X, lt, dp, us, W, h1, h2⟩ := id h
  have hg1 := h1.obj
  have hstep := fun (_ : True) => lp_unrollS (M := M) 26 0 G M ⟨by omega, by omega, h, Fr.rf⟩
  rw [show (0 : Int) + ((prune 26 G).2 : Nat) = ((prune 26 G).2 : Nat) by omega] at hstep
  refine wm_in (lv := _) rfl rfl rfl ?_
  repeat (refine wf rfl ?_; first | refine wq_iadd ?_ | refine wq_isub ?_ | refine wq_imul ?_ | refine wq_iinc rfl ?_ | refine wq_goto ?_ | refine wq_k rfl ?_ | refine wq_b rfl rfl ?_ | refine wq_getf (by assumption) rfl ?_ | refine wq_alen (by assumption) rfl ?_)
  refine wf rfl (wq_cv rfl rfl rfl hg1 ((c_GM_lowest h).mono ?_))
  rintro v M ⟨rfl, rfl⟩
  repeat' (first | (refine Wp.sub (hstep  ?_) ⟨rfl, rfl, rfl, trivial⟩ rfl) | (refine wf rfl ?_; first | refine wq_iadd ?_ | refine wq_isub ?_ | refine wq_imul ?_ | refine wq_iinc rfl ?_ | refine wq_goto ?_ | refine wq_k rfl ?_ | refine wq_b rfl rfl ?_ | refine wq_getf (by assumption) rfl ?_ | refine wq_alen (by assumption) rfl ?_ | fail | (refine wq_eq ⟨by omega, by omega⟩ ⟨by omega, by omega⟩ (fun _ => ?_) (fun _ => ?_) <;> try (exfalso; omega)) | (refine wq_ne ⟨by omega, by omega⟩ ⟨by omega, by omega⟩ (fun _ => ?_) (fun _ => ?_) <;> try (exfalso; omega)) | (refine wq_lt ⟨by omega, by omega⟩ ⟨by omega, by omega⟩ (fun _ => ?_) (fun _ => ?_) <;> try (exfalso; omega)) | (refine wq_ge ⟨by omega, by omega⟩ ⟨by omega, by omega⟩ (fun _ => ?_) (fun _ => ?_) <;> try (exfalso; omega)) | (refine wq_gt ⟨by omega, by omega⟩ ⟨by omega, by omega⟩ (fun _ => ?_) (fun _ => ?_) <;> try (exfalso; omega)) | (refine wq_le ⟨by omega, by omega⟩ ⟨by omega, by omega⟩ (fun _ => ?_) (fun _ => ?_) <;> try (exfalso; omega)) | (refine wq_ifeq ⟨by omega, by omega⟩ (fun _ => ?_) (fun _ => ?_) <;> try (exfalso; omega)) | (refine wq_ifne ⟨by omega, by omega⟩ (fun _ => ?_) (fun _ => ?_) <;> try (exfalso; omega)) | (refine wq_iflt ⟨by omega, by omega⟩ (fun _ => ?_) (fun _ => ?_) <;> try (exfalso; omega)) | (refine wq_ifge ⟨by omega, by omega⟩ (fun _ => ?_) (fun _ => ?_) <;> try (exfalso; omega)) | (refine wq_ifgt ⟨by omega, by omega⟩ (fun _ => ?_) (fun _ => ?_) <;> try (exfalso; omega)) | (refine wq_ifle ⟨by omega, by omega⟩ (fun _ => ?_) (fun _ => ?_) <;> try (exfalso; omega)) | refine wq_r rfl rfl rfl rfl rfl rfl ?_))
  trivial
end GR10
