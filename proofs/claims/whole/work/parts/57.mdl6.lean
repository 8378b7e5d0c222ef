/-! The Model unrolls a rule, and prunes. -/
theorem unr_sym {N r : Nat} {X : Nat → List Int} (hX : WFX N X) (hr : r < N) (xs : List Int) (B : Nat) (hB : r < B) (hxs : ∀ s ∈ xs, 0 ≤ s ∧ s < 8 + (B : Int)) : ∀ s ∈ unr (8 + (r : Int)) (X r) xs, 0 ≤ s ∧ s < 8 + ((B - 1 : Nat) : Int) := by
  intro s hs
  unfold unr at hs
  obtain ⟨x, hx, hs⟩ := List.mem_flatMap.mp hs
  have h1 := hxs x hx
  unfold unr1 at hs
  split at hs
  · have := hX r hr s hs
    omega
  · split at hs
    · have := List.mem_singleton.mp hs
      omega
    · have := List.mem_singleton.mp hs
      omega
theorem WFG.unr {G : GS} (h : WFG G) {r : Nat} (hr : r < G.1.length) : WFG (unrG G r) := by
  obtain ⟨w1, w2, w3⟩ := h
  have hl := unrG_len (G := G) hr
  refine ⟨?_, ?_, ?_⟩
  · rw [hl]
    intro k hk s hs
    rw [xof_unr hr (by omega)] at hs
    split at hs
    · have := w1 k (by omega) s hs
      omega
    · have := unr_sym w1 hr (xof G.1 (k + 1)) (k + 1) (by omega) (fun s hs => by have := w1 (k + 1) (by omega) s hs; omega) s hs
      omega
  · rw [hl]
    exact unr_sym w1 hr G.2 G.1.length hr w2
  · rw [hl]
    intro k hk
    rw [xof_unr hr (by omega)]
    split
    · exact w3 k (by omega)
    · have q6 := unr_len (sym := 8 + (r : Int)) (w3 r hr) (xof G.1 (k + 1))
      have q7 := w3 (k + 1) (by omega)
      omega
theorem prune_0 {G : GS} (h : G.1.length = 0) : nextP G = none := by
  unfold nextP
  rw [h]
  rfl
theorem canB_fit {G : GS} {r : Nat} (hc : canB G r = true) : (∀ k, r < k → k < G.1.length → (unr (8 + (r : Int)) (xof G.1 r) (xof G.1 k)).length ≤ 80) ∧ (unr (8 + (r : Int)) (xof G.1 r) G.2).length ≤ 80 := by
  have h := canB_iff.mp hc
  obtain ⟨h1, h2⟩ := h
  refine ⟨fun k k1 k2 => ?_, ?_⟩
  · have h3 := h1 k k1 k2
    have h4 := unr_length (8 + (r : Int)) (xof G.1 r) (xof G.1 k)
    unfold fitU at h3
    omega
  · have h4 := unr_length (8 + (r : Int)) (xof G.1 r) G.2
    unfold fitU at h2
    omega
section MD6
variable {M : PM} {m : Nat} {G : GS}
theorem lp_shift {N r : Nat} {a b c d e : Int} {f1 : Nat → Int} (hO : MO M m a b c d e) (hr : r < N) (hN : N ≤ 26) (h1 : f1 2187 = ((N - 1 : Nat) : Int)) (n : Nat) : ∀ (k : Int) (M1 : PM), (81 * (r : Int) ≤ k ∧ k ≤ 81 * ((N - 1 : Nat) : Int) ∧ 81 * ((N - 1 : Nat) : Int) - k < n ∧ Fr (fun q => q = m + 1) M M1 ∧ ∃ g, M1[m + 1]? = some (aJ 2188 g) ∧ ∀ q : Nat, g q = if 81 * r ≤ q ∧ (q : Int) < k then f1 (q + 81) else f1 q) →
    Wp k_X10_unrolls (49, [(0, .ref m), (1, .int (I r)), (2, .int (I k))], [], M1) (fun v M' => v = none ∧ Fr (fun q => q = m + 1) M M' ∧ ∃ g, M'[m + 1]? = some (aJ 2188 g) ∧ ∀ q : Nat, g q = if 81 * r ≤ q ∧ q < 81 * (N - 1) then f1 (q + 81) else f1 q) := by
  induction n with
  | zero => intro k M1 hi; exfalso; omega
  | succ n ih =>
    rintro k M1 ⟨i1, i2, i3, i4, g, j1, j2⟩
    have hO1 : MO M1 m a b c d e := i4.at (by omega) hO
    have g1 : g (2187 : Int).toNat = ((N - 1 : Nat) : Int) := by
      have := j2 2187
      rw [if_neg (by omega), h1] at this
      exact this
    by_cases hk : k < 81 * ((N - 1 : Nat) : Int)
    · have gk : g (k + 81).toNat = f1 (k.toNat + 81) := by
        have := j2 (k + 81).toNat
        rw [if_neg (by omega)] at this
        rw [this]
        congr 1
        omega
      repeat (refine wf rfl ?_; first | refine wq_iadd ?_ | refine wq_isub ?_ | refine wq_imul ?_ | refine wq_iinc rfl ?_ | refine wq_goto ?_ | refine wq_k rfl ?_ | refine wq_b rfl rfl ?_ | refine wq_getf (by assumption) rfl ?_ | refine wq_alen (by assumption) rfl ?_)
      refine wf rfl (wq_iald j1 ⟨by omega, by omega⟩ (by omega) (by omega) ?_)
      repeat (refine wf rfl ?_; first | refine wq_iadd ?_ | refine wq_isub ?_ | refine wq_imul ?_ | refine wq_iinc rfl ?_ | refine wq_goto ?_ | refine wq_k rfl ?_ | refine wq_b rfl rfl ?_ | refine wq_getf (by assumption) rfl ?_ | refine wq_alen (by assumption) rfl ?_)
      refine wf rfl (wq_ge ⟨by omega, by omega⟩ ⟨by omega, by omega⟩ (fun c1 => by exfalso; omega) (fun c1 => ?_))
      repeat (refine wf rfl ?_; first | refine wq_iadd ?_ | refine wq_isub ?_ | refine wq_imul ?_ | refine wq_iinc rfl ?_ | refine wq_goto ?_ | refine wq_k rfl ?_ | refine wq_b rfl rfl ?_ | refine wq_getf (by assumption) rfl ?_ | refine wq_alen (by assumption) rfl ?_)
      refine wf rfl (wq_iald j1 ⟨by omega, by omega⟩ (by omega) (by omega) ?_)
      refine wf rfl (wq_iast j1 rfl ⟨by omega, by omega⟩ (by omega) (by omega) (fun M2 e2 f2 => ?_))
      repeat' (first | (refine Wp.sub (ih _ _ ?_) ⟨rfl, rfl, rfl, trivial⟩ rfl) | (refine wf rfl ?_; first | refine wq_iadd ?_ | refine wq_isub ?_ | refine wq_imul ?_ | refine wq_iinc rfl ?_ | refine wq_goto ?_ | refine wq_k rfl ?_ | refine wq_b rfl rfl ?_ | refine wq_getf (by assumption) rfl ?_ | refine wq_alen (by assumption) rfl ?_ | fail | (refine wq_eq ⟨by omega, by omega⟩ ⟨by omega, by omega⟩ (fun _ => ?_) (fun _ => ?_) <;> try (exfalso; omega)) | (refine wq_ne ⟨by omega, by omega⟩ ⟨by omega, by omega⟩ (fun _ => ?_) (fun _ => ?_) <;> try (exfalso; omega)) | (refine wq_lt ⟨by omega, by omega⟩ ⟨by omega, by omega⟩ (fun _ => ?_) (fun _ => ?_) <;> try (exfalso; omega)) | (refine wq_ge ⟨by omega, by omega⟩ ⟨by omega, by omega⟩ (fun _ => ?_) (fun _ => ?_) <;> try (exfalso; omega)) | (refine wq_gt ⟨by omega, by omega⟩ ⟨by omega, by omega⟩ (fun _ => ?_) (fun _ => ?_) <;> try (exfalso; omega)) | (refine wq_le ⟨by omega, by omega⟩ ⟨by omega, by omega⟩ (fun _ => ?_) (fun _ => ?_) <;> try (exfalso; omega)) | (refine wq_ifeq ⟨by omega, by omega⟩ (fun _ => ?_) (fun _ => ?_) <;> try (exfalso; omega)) | (refine wq_ifne ⟨by omega, by omega⟩ (fun _ => ?_) (fun _ => ?_) <;> try (exfalso; omega)) | (refine wq_iflt ⟨by omega, by omega⟩ (fun _ => ?_) (fun _ => ?_) <;> try (exfalso; omega)) | (refine wq_ifge ⟨by omega, by omega⟩ (fun _ => ?_) (fun _ => ?_) <;> try (exfalso; omega)) | (refine wq_ifgt ⟨by omega, by omega⟩ (fun _ => ?_) (fun _ => ?_) <;> try (exfalso; omega)) | (refine wq_ifle ⟨by omega, by omega⟩ (fun _ => ?_) (fun _ => ?_) <;> try (exfalso; omega)) | refine wq_r rfl rfl rfl rfl rfl rfl ?_))
      refine ⟨by omega, by omega, by omega, i4.tr f2, _, e2, fun q => ?_⟩
      by_cases he : q = k.toNat
      · subst he
        rw [upz_at, gk, if_pos (by omega)]
      · rw [upz_ne _ _ he, j2 q]
        by_cases hq : 81 * r ≤ q ∧ (q : Int) < k
        · rw [if_pos hq, if_pos (by omega)]
        · rw [if_neg hq, if_neg (by omega)]
    · repeat (refine wf rfl ?_; first | refine wq_iadd ?_ | refine wq_isub ?_ | refine wq_imul ?_ | refine wq_iinc rfl ?_ | refine wq_goto ?_ | refine wq_k rfl ?_ | refine wq_b rfl rfl ?_ | refine wq_getf (by assumption) rfl ?_ | refine wq_alen (by assumption) rfl ?_)
      refine wf rfl (wq_iald j1 ⟨by omega, by omega⟩ (by omega) (by omega) ?_)
      repeat' (refine wf rfl ?_; first | refine wq_iadd ?_ | refine wq_isub ?_ | refine wq_imul ?_ | refine wq_iinc rfl ?_ | refine wq_goto ?_ | refine wq_k rfl ?_ | refine wq_b rfl rfl ?_ | refine wq_getf (by assumption) rfl ?_ | refine wq_alen (by assumption) rfl ?_ | (refine wq_eq ⟨by omega, by omega⟩ ⟨by omega, by omega⟩ (fun _ => ?_) (fun _ => ?_) <;> try (exfalso; omega)) | (refine wq_ne ⟨by omega, by omega⟩ ⟨by omega, by omega⟩ (fun _ => ?_) (fun _ => ?_) <;> try (exfalso; omega)) | (refine wq_lt ⟨by omega, by omega⟩ ⟨by omega, by omega⟩ (fun _ => ?_) (fun _ => ?_) <;> try (exfalso; omega)) | (refine wq_ge ⟨by omega, by omega⟩ ⟨by omega, by omega⟩ (fun _ => ?_) (fun _ => ?_) <;> try (exfalso; omega)) | (refine wq_gt ⟨by omega, by omega⟩ ⟨by omega, by omega⟩ (fun _ => ?_) (fun _ => ?_) <;> try (exfalso; omega)) | (refine wq_le ⟨by omega, by omega⟩ ⟨by omega, by omega⟩ (fun _ => ?_) (fun _ => ?_) <;> try (exfalso; omega)) | (refine wq_ifeq ⟨by omega, by omega⟩ (fun _ => ?_) (fun _ => ?_) <;> try (exfalso; omega)) | (refine wq_ifne ⟨by omega, by omega⟩ (fun _ => ?_) (fun _ => ?_) <;> try (exfalso; omega)) | (refine wq_iflt ⟨by omega, by omega⟩ (fun _ => ?_) (fun _ => ?_) <;> try (exfalso; omega)) | (refine wq_ifge ⟨by omega, by omega⟩ (fun _ => ?_) (fun _ => ?_) <;> try (exfalso; omega)) | (refine wq_ifgt ⟨by omega, by omega⟩ (fun _ => ?_) (fun _ => ?_) <;> try (exfalso; omega)) | (refine wq_ifle ⟨by omega, by omega⟩ (fun _ => ?_) (fun _ => ?_) <;> try (exfalso; omega)) | refine wq_r rfl rfl rfl rfl rfl rfl ?_)
      refine ⟨rfl, i4, g, j1, fun q => ?_⟩
      rw [j2 q]
      by_cases hq : 81 * r ≤ q ∧ q < 81 * (N - 1)
      · rw [if_pos (by omega), if_pos hq]
      · rw [if_neg (by omega), if_neg hq]
theorem lp_unrolls {r : Nat} (h : Mr M m G) (hW : WFG G) (hr : r < G.1.length) (hc : canB G r = true) (n : Nat) : ∀ (k : Int) (M1 : PM), ((r : Int) < k ∧ k ≤ G.1.length + 1 ∧ G.1.length + 1 - k < n ∧ Fr (fun q => q = m + 1 ∨ q = m + 13) M M1 ∧ (∃ la, M1[m + 13]? = some (aJ 80 la)) ∧ ∃ G1 : GS, Mr M1 m G1 ∧ G1.1.length = G.1.length ∧ (∀ j, j < G.1.length → xof G1.1 j = if r < j ∧ (j : Int) < k then unr (8 + (r : Int)) (xof G.1 r) (xof G.1 j) else xof G.1 j) ∧ G1.2 = if k = G.1.length + 1 then unr (8 + (r : Int)) (xof G.1 r) G.2 else G.2) →
    Wp k_X10_unrolls (4, [(0, .ref m), (1, .int (I r)), (2, .int (I k))], [], M1) (fun v M' => v = none ∧ Fr (fun q => q = m + 1 ∨ q = m + 13) M M' ∧ (∃ la, M'[m + 13]? = some (aJ 80 la)) ∧ Mr M' m (unrG G r)) := by
  have hN := h.le
  obtain ⟨cf1, cf2⟩ := canB_fit hc
  obtain ⟨⟨a', b', c', d', e', hO⟩, -⟩ := id h
  induction n with
  | zero => intro k M1 hi; exfalso; omega
  | succ n ih =>
    rintro k M1 ⟨i1, i2, i3, i4, ⟨la, j1⟩, G1, j2, j3, j4, j5⟩
    have hO1 : MO M1 m a' b' c' d' e' := i4.at (by omega) hO
    obtain ⟨-, f, hA, hG⟩ := id j2
    have g0 : f (2187 : Int).toNat = G1.1.length := hG.cnt.1
    rw [j3] at g0
    by_cases hk : k ≤ G.1.length
    · have hra := c_Md_rowAt (k := k) ⟨by omega, by omega⟩ j2
      have vk := vrN (G := G1) (k := k) (by omega)
      have vr : vrG G1 (r : Int) := Or.inr ⟨by omega, by omega⟩
      have er : rwG G1 (r : Int) = xof G.1 r := by
        show (if (r : Int) = 26 then G1.2 else xof G1.1 ((r : Int)).toNat) = _
        rw [if_neg (by omega), show ((r : Int)).toNat = r by omega, j4 r hr, if_neg (by omega)]
      -- the row that comes next
      have hrow : rwG G1 (rwN G1 k) = (if k < G.1.length then xof G.1 k.toNat else G.2) ∧ SB (rwG G1 (rwN G1 k)) ∧ (unr (8 + (r : Int)) (xof G.1 r) (rwG G1 (rwN G1 k))).length ≤ 80 := by
        by_cases hkl : k < G.1.length
        · have e : rwG G1 (rwN G1 k) = xof G.1 k.toNat := by
            have := rwN_lt (G := G1) (k := k.toNat) (by omega) (by omega)
            rw [show ((k.toNat : Nat) : Int) = k by omega] at this
            rw [this, j4 k.toNat (by omega), if_neg (by omega)]
          rw [e, if_pos hkl]
          exact ⟨rfl, hW.1.sb (k := k.toNat) (by omega) hN, cf1 k.toNat (by omega) (by omega)⟩
        · have e : rwG G1 (rwN G1 k) = G.2 := by
            have := rwN_ge G1 (k := k.toNat) (by omega)
            rw [show ((k.toNat : Nat) : Int) = k by omega] at this
            rw [this, j5, if_neg (by omega)]
          rw [e, if_neg hkl]
          exact ⟨rfl, hW.2.1.sb hN, cf2⟩
      obtain ⟨hw1, hw2, hw3⟩ := hrow
      have hui := c_Md_unrollsIn (u := (r : Int)) j2 hA j1 vk vr (by omega) hw2 (by rw [er]; exact hw3)
      rw [er, hw1] at hui
      have hvb := j2.rl vk
      repeat (refine wf rfl ?_; first | refine wq_iadd ?_ | refine wq_isub ?_ | refine wq_imul ?_ | refine wq_iinc rfl ?_ | refine wq_goto ?_ | refine wq_k rfl ?_ | refine wq_b rfl rfl ?_ | refine wq_getf (by assumption) rfl ?_ | refine wq_alen (by assumption) rfl ?_)
      refine wf rfl (wq_iald hA ⟨by omega, by omega⟩ (by omega) (by omega) ?_)
      refine wf rfl (wq_gt ⟨by omega, by omega⟩ ⟨by omega, by omega⟩ (fun c1 => by exfalso; omega) (fun c1 => ?_))
      repeat (refine wf rfl ?_; first | refine wq_iadd ?_ | refine wq_isub ?_ | refine wq_imul ?_ | refine wq_iinc rfl ?_ | refine wq_goto ?_ | refine wq_k rfl ?_ | refine wq_b rfl rfl ?_ | refine wq_getf (by assumption) rfl ?_ | refine wq_alen (by assumption) rfl ?_)
      refine wf rfl (wq_cv rfl rfl rfl hO1 (hra.mono ?_))
      rintro v M1 ⟨rfl, rfl⟩
      repeat (refine wf rfl ?_; first | refine wq_iadd ?_ | refine wq_isub ?_ | refine wq_imul ?_ | refine wq_iinc rfl ?_ | refine wq_goto ?_ | refine wq_k rfl ?_ | refine wq_b rfl rfl ?_ | refine wq_getf (by assumption) rfl ?_ | refine wq_alen (by assumption) rfl ?_)
      refine wf rfl (wq_cv rfl rfl rfl hO1 (hui.mono ?_))
      rintro v M2 ⟨rfl, f2, hl2, g, e2, h5, h6⟩
      repeat' (first | (refine Wp.sub (ih _ _ ?_) ⟨rfl, rfl, rfl, trivial⟩ rfl) | (refine wf rfl ?_; first | refine wq_iadd ?_ | refine wq_isub ?_ | refine wq_imul ?_ | refine wq_iinc rfl ?_ | refine wq_goto ?_ | refine wq_k rfl ?_ | refine wq_b rfl rfl ?_ | refine wq_getf (by assumption) rfl ?_ | refine wq_alen (by assumption) rfl ?_ | fail | (refine wq_eq ⟨by omega, by omega⟩ ⟨by omega, by omega⟩ (fun _ => ?_) (fun _ => ?_) <;> try (exfalso; omega)) | (refine wq_ne ⟨by omega, by omega⟩ ⟨by omega, by omega⟩ (fun _ => ?_) (fun _ => ?_) <;> try (exfalso; omega)) | (refine wq_lt ⟨by omega, by omega⟩ ⟨by omega, by omega⟩ (fun _ => ?_) (fun _ => ?_) <;> try (exfalso; omega)) | (refine wq_ge ⟨by omega, by omega⟩ ⟨by omega, by omega⟩ (fun _ => ?_) (fun _ => ?_) <;> try (exfalso; omega)) | (refine wq_gt ⟨by omega, by omega⟩ ⟨by omega, by omega⟩ (fun _ => ?_) (fun _ => ?_) <;> try (exfalso; omega)) | (refine wq_le ⟨by omega, by omega⟩ ⟨by omega, by omega⟩ (fun _ => ?_) (fun _ => ?_) <;> try (exfalso; omega)) | (refine wq_ifeq ⟨by omega, by omega⟩ (fun _ => ?_) (fun _ => ?_) <;> try (exfalso; omega)) | (refine wq_ifne ⟨by omega, by omega⟩ (fun _ => ?_) (fun _ => ?_) <;> try (exfalso; omega)) | (refine wq_iflt ⟨by omega, by omega⟩ (fun _ => ?_) (fun _ => ?_) <;> try (exfalso; omega)) | (refine wq_ifge ⟨by omega, by omega⟩ (fun _ => ?_) (fun _ => ?_) <;> try (exfalso; omega)) | (refine wq_ifgt ⟨by omega, by omega⟩ (fun _ => ?_) (fun _ => ?_) <;> try (exfalso; omega)) | (refine wq_ifle ⟨by omega, by omega⟩ (fun _ => ?_) (fun _ => ?_) <;> try (exfalso; omega)) | refine wq_r rfl rfl rfl rfl rfl rfl ?_))
      refine ⟨by omega, by omega, by omega, i4.tr f2, hl2, setG G1 (rwN G1 k) (unr (8 + (r : Int)) (xof G.1 r) (if k < G.1.length then xof G.1 k.toNat else G.2)), ⟨⟨a', b', c', d', e', f2.at (by omega) hO1⟩, g, e2, ?_⟩, ?_, fun j hj => ?_, ?_⟩
      · obtain ⟨z1, z2, z3, z4⟩ := hG
        rw [Nat.zero_add] at z1 z4
        have k1 : g 2187 = f 2187 := h6 2187 (by omega)
        by_cases hkl : k < G.1.length
        · have eN : rwN G1 k = k := if_pos (by omega)
          rw [eN] at h5 h6 ⊢
          rw [if_pos hkl] at h5 ⊢
          unfold setG
          rw [if_neg (by omega)]
          refine ⟨?_, by rw [List.length_set]; exact z2, fun j hj => ?_, ?_⟩
          · rw [List.length_set, Nat.zero_add, k1, z1]
          · rw [List.length_set] at hj
            have hj : j < G1.1.length := hj
            by_cases he : j = k.toNat
            · subst he
              have e : xof (G1.1.set k.toNat (unr (8 + (r : Int)) (xof G.1 r) (xof G.1 k.toNat))) k.toNat = unr (8 + (r : Int)) (xof G.1 r) (xof G.1 k.toNat) := by
                unfold xof
                rw [List.getD_eq_getElem?_getD, List.getElem?_set_self hj]
                rfl
              rw [e, show 0 + 81 * k.toNat = (81 * k).toNat by omega]
              exact h5
            · have e : xof (G1.1.set k.toNat (unr (8 + (r : Int)) (xof G.1 r) (xof G.1 k.toNat))) j = xof G1.1 j := by
                unfold xof
                rw [List.getD_eq_getElem?_getD, List.getElem?_set_ne (fun z => he z.symm), List.getD_eq_getElem?_getD]
              rw [e]
              exact (z3 j hj).congr (fun q q1 q2 => h6 q (by omega))
          · rw [Nat.zero_add]
            exact z4.congr (fun q q1 q2 => h6 q (by omega))
        · have eN : rwN G1 k = 26 := if_neg (by omega)
          rw [eN] at h5 h6 ⊢
          rw [if_neg hkl] at h5 ⊢
          unfold setG
          rw [if_pos rfl]
          refine ⟨by rw [Nat.zero_add, k1, z1], z2, fun j hj => (z3 j hj).congr (fun q q1 q2 => ?_), ?_⟩
          · have hj : j < G1.1.length := hj
            exact h6 q (by omega)
          · exact h5
      · unfold setG
        split
        · exact j3
        · rw [List.length_set]; exact j3
      · by_cases hkl : k < G.1.length
        · have eN : rwN G1 k = k := if_pos (by omega)
          rw [eN, if_pos hkl]
          unfold setG
          rw [if_neg (by omega)]
          unfold xof at j4 ⊢
          rw [List.getD_eq_getElem?_getD]
          by_cases he : j = k.toNat
          · subst he
            rw [List.getElem?_set_self (by omega), if_pos (by omega)]
            rfl
          · rw [List.getElem?_set_ne (fun z => he z.symm), ← List.getD_eq_getElem?_getD, j4 j hj]
            by_cases hq : r < j ∧ (j : Int) < k
            · rw [if_pos hq, if_pos (by omega)]
            · rw [if_neg hq, if_neg (by omega)]
        · have eN : rwN G1 k = 26 := if_neg (by omega)
          rw [eN]
          unfold setG
          rw [if_pos rfl, j4 j hj]
          by_cases hq : r < j ∧ (j : Int) < k
          · rw [if_pos hq, if_pos (by omega)]
          · rw [if_neg hq, if_neg (by omega)]
      · by_cases hkl : k < G.1.length
        · have eN : rwN G1 k = k := if_pos (by omega)
          rw [eN]
          unfold setG
          rw [if_neg (by omega)]
          dsimp only
          rw [j5, if_neg (by omega), if_neg (by omega)]
        · have eN : rwN G1 k = 26 := if_neg (by omega)
          rw [eN]
          unfold setG
          rw [if_pos rfl]
          dsimp only
          rw [if_neg hkl, if_pos (by omega)]
    · have ek : k = G.1.length + 1 := by omega
      rw [if_pos ek] at j5
      repeat (refine wf rfl ?_; first | refine wq_iadd ?_ | refine wq_isub ?_ | refine wq_imul ?_ | refine wq_iinc rfl ?_ | refine wq_goto ?_ | refine wq_k rfl ?_ | refine wq_b rfl rfl ?_ | refine wq_getf (by assumption) rfl ?_ | refine wq_alen (by assumption) rfl ?_)
      refine wf rfl (wq_iald hA ⟨by omega, by omega⟩ (by omega) (by omega) ?_)
      refine wf rfl (wq_gt ⟨by omega, by omega⟩ ⟨by omega, by omega⟩ (fun c1 => ?_) (fun c1 => by exfalso; omega))
      repeat (refine wf rfl ?_; first | refine wq_iadd ?_ | refine wq_isub ?_ | refine wq_imul ?_ | refine wq_iinc rfl ?_ | refine wq_goto ?_ | refine wq_k rfl ?_ | refine wq_b rfl rfl ?_ | refine wq_getf (by assumption) rfl ?_ | refine wq_alen (by assumption) rfl ?_)
      refine wf rfl (wq_iald hA ⟨by omega, by omega⟩ (by omega) (by omega) ?_)
      repeat (refine wf rfl ?_; first | refine wq_iadd ?_ | refine wq_isub ?_ | refine wq_imul ?_ | refine wq_iinc rfl ?_ | refine wq_goto ?_ | refine wq_k rfl ?_ | refine wq_b rfl rfl ?_ | refine wq_getf (by assumption) rfl ?_ | refine wq_alen (by assumption) rfl ?_)
      refine wf rfl (wq_iast hA rfl ⟨by omega, by omega⟩ (by omega) (by omega) (fun M2 e2 f2 => ?_))
      rw [g0] at e2
      have hO2 : MO M2 m a' b' c' d' e' := f2.at (by omega) hO1
      generalize hg1 : upz f (2187 : Int).toNat ((G.1.length : Int) - 1) = f1 at e2
      have k0 : f1 2187 = ((G.1.length - 1 : Nat) : Int) := by
        rw [← hg1, show ((G.1.length - 1 : Nat) : Int) = (G.1.length : Int) - 1 by omega]
        exact upz_at _ _ _
      have k1 : ∀ q, q ≠ 2187 → f1 q = f q := fun q hq => by rw [← hg1]; exact upz_ne _ _ hq
      have hst := fun (_ : True) => lp_shift (N := G.1.length) (r := r) (f1 := f1) hO2 hr hN k0 5000 (81 * (r : Int)) M2 ⟨by omega, by omega, by omega, Fr.rf, f1, e2, fun q => by rw [if_neg (by omega)]⟩
      refine Wp.mono (Q := fun v M' => v = none ∧ Fr (fun q => q = m + 1) M2 M' ∧ ∃ g, M'[m + 1]? = some (aJ 2188 g) ∧ ∀ q : Nat, g q = if 81 * r ≤ q ∧ q < 81 * (G.1.length - 1) then f1 (q + 81) else f1 q) ?_ ?_
      · repeat' (first | (refine Wp.sub (hst  ?_) ⟨rfl, rfl, rfl, trivial⟩ rfl) | (refine wf rfl ?_; first | refine wq_iadd ?_ | refine wq_isub ?_ | refine wq_imul ?_ | refine wq_iinc rfl ?_ | refine wq_goto ?_ | refine wq_k rfl ?_ | refine wq_b rfl rfl ?_ | refine wq_getf (by assumption) rfl ?_ | refine wq_alen (by assumption) rfl ?_ | fail | (refine wq_eq ⟨by omega, by omega⟩ ⟨by omega, by omega⟩ (fun _ => ?_) (fun _ => ?_) <;> try (exfalso; omega)) | (refine wq_ne ⟨by omega, by omega⟩ ⟨by omega, by omega⟩ (fun _ => ?_) (fun _ => ?_) <;> try (exfalso; omega)) | (refine wq_lt ⟨by omega, by omega⟩ ⟨by omega, by omega⟩ (fun _ => ?_) (fun _ => ?_) <;> try (exfalso; omega)) | (refine wq_ge ⟨by omega, by omega⟩ ⟨by omega, by omega⟩ (fun _ => ?_) (fun _ => ?_) <;> try (exfalso; omega)) | (refine wq_gt ⟨by omega, by omega⟩ ⟨by omega, by omega⟩ (fun _ => ?_) (fun _ => ?_) <;> try (exfalso; omega)) | (refine wq_le ⟨by omega, by omega⟩ ⟨by omega, by omega⟩ (fun _ => ?_) (fun _ => ?_) <;> try (exfalso; omega)) | (refine wq_ifeq ⟨by omega, by omega⟩ (fun _ => ?_) (fun _ => ?_) <;> try (exfalso; omega)) | (refine wq_ifne ⟨by omega, by omega⟩ (fun _ => ?_) (fun _ => ?_) <;> try (exfalso; omega)) | (refine wq_iflt ⟨by omega, by omega⟩ (fun _ => ?_) (fun _ => ?_) <;> try (exfalso; omega)) | (refine wq_ifge ⟨by omega, by omega⟩ (fun _ => ?_) (fun _ => ?_) <;> try (exfalso; omega)) | (refine wq_ifgt ⟨by omega, by omega⟩ (fun _ => ?_) (fun _ => ?_) <;> try (exfalso; omega)) | (refine wq_ifle ⟨by omega, by omega⟩ (fun _ => ?_) (fun _ => ?_) <;> try (exfalso; omega)) | refine wq_r rfl rfl rfl rfl rfl rfl ?_))
        trivial
      · rintro v M3 ⟨rfl, f3, g, e3, h5⟩
        refine ⟨rfl, (i4.tr (f2.mono (fun q hq => Or.inl hq))).tr (f3.mono (fun q hq => Or.inl hq)), ⟨la, f3.at (by omega) (f2.at (by omega) j1)⟩, ⟨a', b', c', d', e', f3.at (by omega) hO2⟩, g, e3, ?_⟩
        obtain ⟨z1, z2, z3, z4⟩ := hG
        rw [Nat.zero_add] at z1 z4
        have hl := unrG_len (G := G) hr
        refine ⟨?_, by omega, fun j hj => ?_, ?_⟩
        · rw [hl, Nat.zero_add, h5, if_neg (by omega), k0]
        · rw [hl] at hj
          rw [xof_unr hr (by omega), Nat.zero_add]
          by_cases hjr : j < r
          · rw [if_pos hjr]
            have h7 := z3 j (by omega)
            rw [j4 j (by omega), if_neg (by omega), Nat.zero_add] at h7
            exact h7.congr (fun q q1 q2 => by rw [h5, if_neg (by omega), k1 q (by omega)])
          · rw [if_neg hjr]
            have h7 := z3 (j + 1) (by omega)
            rw [j4 (j + 1) (by omega), if_pos (by omega), Nat.zero_add] at h7
            obtain ⟨y1, y2, y3⟩ := h7
            have hsh : ∀ q, 81 * j ≤ q → q ≤ 81 * j + 80 → g q = f (q + 81) := fun q q1 q2 => by rw [h5, if_pos (by omega), k1 _ (by omega)]
            refine ⟨?_, y2, fun i hi => ?_⟩
            · rw [hsh _ (by omega) (by omega), ← y1]
              congr 1
            · rw [y3 i hi, hsh _ (by omega) (by omega)]
              congr 2
              omega
        · show Rf g (0 + 2106) (unr (8 + (r : Int)) (xof G.1 r) G.2)
          rw [j5] at z4
          exact z4.congr (fun q q1 q2 => by rw [h5, if_neg (by omega), k1 q (by omega)])
theorem c_Md_unrolls {r : Nat} (h : Mr M m G) (hL : ∃ la, M[m + 13]? = some (aJ 80 la)) (hW : WFG G) (hr : r < G.1.length) (hc : canB G r = true) : Wm 146 [.ref m, .int (I r)] M (fun v M' => v = none ∧ Fr (fun q => q = m + 1 ∨ q = m + 13) M M' ∧ (∃ la, M'[m + 13]? = some (aJ 80 la)) ∧ Mr M' m (unrG G r)) := by
  have hN := h.le
  refine wm_in (lv := _) rfl rfl rfl ?_
  repeat' (first | (refine Wp.sub (lp_unrolls h hW hr hc 100 _ _ ?_) ⟨rfl, rfl, rfl, trivial⟩ rfl) | (refine wf rfl ?_; first | refine wq_iadd ?_ | refine wq_isub ?_ | refine wq_imul ?_ | refine wq_iinc rfl ?_ | refine wq_goto ?_ | refine wq_k rfl ?_ | refine wq_b rfl rfl ?_ | refine wq_getf (by assumption) rfl ?_ | refine wq_alen (by assumption) rfl ?_ | fail | (refine wq_eq ⟨by omega, by omega⟩ ⟨by omega, by omega⟩ (fun _ => ?_) (fun _ => ?_) <;> try (exfalso; omega)) | (refine wq_ne ⟨by omega, by omega⟩ ⟨by omega, by omega⟩ (fun _ => ?_) (fun _ => ?_) <;> try (exfalso; omega)) | (refine wq_lt ⟨by omega, by omega⟩ ⟨by omega, by omega⟩ (fun _ => ?_) (fun _ => ?_) <;> try (exfalso; omega)) | (refine wq_ge ⟨by omega, by omega⟩ ⟨by omega, by omega⟩ (fun _ => ?_) (fun _ => ?_) <;> try (exfalso; omega)) | (refine wq_gt ⟨by omega, by omega⟩ ⟨by omega, by omega⟩ (fun _ => ?_) (fun _ => ?_) <;> try (exfalso; omega)) | (refine wq_le ⟨by omega, by omega⟩ ⟨by omega, by omega⟩ (fun _ => ?_) (fun _ => ?_) <;> try (exfalso; omega)) | (refine wq_ifeq ⟨by omega, by omega⟩ (fun _ => ?_) (fun _ => ?_) <;> try (exfalso; omega)) | (refine wq_ifne ⟨by omega, by omega⟩ (fun _ => ?_) (fun _ => ?_) <;> try (exfalso; omega)) | (refine wq_iflt ⟨by omega, by omega⟩ (fun _ => ?_) (fun _ => ?_) <;> try (exfalso; omega)) | (refine wq_ifge ⟨by omega, by omega⟩ (fun _ => ?_) (fun _ => ?_) <;> try (exfalso; omega)) | (refine wq_ifgt ⟨by omega, by omega⟩ (fun _ => ?_) (fun _ => ?_) <;> try (exfalso; omega)) | (refine wq_ifle ⟨by omega, by omega⟩ (fun _ => ?_) (fun _ => ?_) <;> try (exfalso; omega)) | refine wq_r rfl rfl rfl rfl rfl rfl ?_))
  exact ⟨by omega, by omega, by omega, Fr.rf, hL, G, h, rfl, fun j hj => by rw [if_neg (by omega)], by rw [if_neg (by omega)]⟩
theorem lp_prunes (n : Nat) : ∀ (c : Int) (G : GS) (M1 : PM), (G.1.length ≤ n ∧ Mr M1 m G ∧ WFG G ∧ (∃ la, M1[m + 13]? = some (aJ 80 la)) ∧ Fr (fun q => q = m + 1 ∨ q = m + 13) M M1) →
    Wp k_X10_prunes (7, [(0, .ref m), (1, .int (I c)), (2, .int (I (ofNext (nextP G))))], [], M1) (fun v M' => v = some (.int (I (c + (prune n G).2))) ∧ Fr (fun q => q = m + 1 ∨ q = m + 13) M M' ∧ (∃ la, M'[m + 13]? = some (aJ 80 la)) ∧ Mr M' m (prune n G).1 ∧ WFG (prune n G).1) := by
  induction n with
  | zero =>
    rintro c G M1 ⟨i1, i2, i3, i4, i5⟩
    have e : ofNext (nextP G) = -6 := by rw [prune_0 (by omega)]; rfl
    rw [e]
    repeat' (refine wf rfl ?_; first | refine wq_iadd ?_ | refine wq_isub ?_ | refine wq_imul ?_ | refine wq_iinc rfl ?_ | refine wq_goto ?_ | refine wq_k rfl ?_ | refine wq_b rfl rfl ?_ | refine wq_getf (by assumption) rfl ?_ | refine wq_alen (by assumption) rfl ?_ | (refine wq_eq ⟨by omega, by omega⟩ ⟨by omega, by omega⟩ (fun _ => ?_) (fun _ => ?_) <;> try (exfalso; omega)) | (refine wq_ne ⟨by omega, by omega⟩ ⟨by omega, by omega⟩ (fun _ => ?_) (fun _ => ?_) <;> try (exfalso; omega)) | (refine wq_lt ⟨by omega, by omega⟩ ⟨by omega, by omega⟩ (fun _ => ?_) (fun _ => ?_) <;> try (exfalso; omega)) | (refine wq_ge ⟨by omega, by omega⟩ ⟨by omega, by omega⟩ (fun _ => ?_) (fun _ => ?_) <;> try (exfalso; omega)) | (refine wq_gt ⟨by omega, by omega⟩ ⟨by omega, by omega⟩ (fun _ => ?_) (fun _ => ?_) <;> try (exfalso; omega)) | (refine wq_le ⟨by omega, by omega⟩ ⟨by omega, by omega⟩ (fun _ => ?_) (fun _ => ?_) <;> try (exfalso; omega)) | (refine wq_ifeq ⟨by omega, by omega⟩ (fun _ => ?_) (fun _ => ?_) <;> try (exfalso; omega)) | (refine wq_ifne ⟨by omega, by omega⟩ (fun _ => ?_) (fun _ => ?_) <;> try (exfalso; omega)) | (refine wq_iflt ⟨by omega, by omega⟩ (fun _ => ?_) (fun _ => ?_) <;> try (exfalso; omega)) | (refine wq_ifge ⟨by omega, by omega⟩ (fun _ => ?_) (fun _ => ?_) <;> try (exfalso; omega)) | (refine wq_ifgt ⟨by omega, by omega⟩ (fun _ => ?_) (fun _ => ?_) <;> try (exfalso; omega)) | (refine wq_ifle ⟨by omega, by omega⟩ (fun _ => ?_) (fun _ => ?_) <;> try (exfalso; omega)) | refine wq_r rfl rfl rfl rfl rfl rfl ?_)
    exact ⟨by simp [prune], i5, i4, by simpa [prune] using i2, by simpa [prune] using i3⟩
  | succ n ih =>
    rintro c G M1 ⟨i1, i2, i3, i4, i5⟩
    have hN := i2.le
    obtain ⟨⟨a', b', c', d', e', hO⟩, -⟩ := id i2
    cases hn : nextP G with
    | none =>
      have e : ofNext none = -6 := rfl
      rw [e]
      repeat' (refine wf rfl ?_; first | refine wq_iadd ?_ | refine wq_isub ?_ | refine wq_imul ?_ | refine wq_iinc rfl ?_ | refine wq_goto ?_ | refine wq_k rfl ?_ | refine wq_b rfl rfl ?_ | refine wq_getf (by assumption) rfl ?_ | refine wq_alen (by assumption) rfl ?_ | (refine wq_eq ⟨by omega, by omega⟩ ⟨by omega, by omega⟩ (fun _ => ?_) (fun _ => ?_) <;> try (exfalso; omega)) | (refine wq_ne ⟨by omega, by omega⟩ ⟨by omega, by omega⟩ (fun _ => ?_) (fun _ => ?_) <;> try (exfalso; omega)) | (refine wq_lt ⟨by omega, by omega⟩ ⟨by omega, by omega⟩ (fun _ => ?_) (fun _ => ?_) <;> try (exfalso; omega)) | (refine wq_ge ⟨by omega, by omega⟩ ⟨by omega, by omega⟩ (fun _ => ?_) (fun _ => ?_) <;> try (exfalso; omega)) | (refine wq_gt ⟨by omega, by omega⟩ ⟨by omega, by omega⟩ (fun _ => ?_) (fun _ => ?_) <;> try (exfalso; omega)) | (refine wq_le ⟨by omega, by omega⟩ ⟨by omega, by omega⟩ (fun _ => ?_) (fun _ => ?_) <;> try (exfalso; omega)) | (refine wq_ifeq ⟨by omega, by omega⟩ (fun _ => ?_) (fun _ => ?_) <;> try (exfalso; omega)) | (refine wq_ifne ⟨by omega, by omega⟩ (fun _ => ?_) (fun _ => ?_) <;> try (exfalso; omega)) | (refine wq_iflt ⟨by omega, by omega⟩ (fun _ => ?_) (fun _ => ?_) <;> try (exfalso; omega)) | (refine wq_ifge ⟨by omega, by omega⟩ (fun _ => ?_) (fun _ => ?_) <;> try (exfalso; omega)) | (refine wq_ifgt ⟨by omega, by omega⟩ (fun _ => ?_) (fun _ => ?_) <;> try (exfalso; omega)) | (refine wq_ifle ⟨by omega, by omega⟩ (fun _ => ?_) (fun _ => ?_) <;> try (exfalso; omega)) | refine wq_r rfl rfl rfl rfl rfl rfl ?_)
      exact ⟨by simp [prune, hn], i5, i4, by simpa [prune, hn] using i2, by simpa [prune, hn] using i3⟩
    | some r =>
      have e : ofNext (some r) = (r : Int) := rfl
      rw [e]
      obtain ⟨hr, hc⟩ := nextP_some hn
      have hl := unrG_len (G := G) hr
      repeat (refine wf rfl ?_; first | refine wq_iadd ?_ | refine wq_isub ?_ | refine wq_imul ?_ | refine wq_iinc rfl ?_ | refine wq_goto ?_ | refine wq_k rfl ?_ | refine wq_b rfl rfl ?_ | refine wq_getf (by assumption) rfl ?_ | refine wq_alen (by assumption) rfl ?_)
      refine wf rfl (wq_eq ⟨by omega, by omega⟩ ⟨by omega, by omega⟩ (fun c2 => by exfalso; omega) (fun c2 => ?_))
      repeat (refine wf rfl ?_; first | refine wq_iadd ?_ | refine wq_isub ?_ | refine wq_imul ?_ | refine wq_iinc rfl ?_ | refine wq_goto ?_ | refine wq_k rfl ?_ | refine wq_b rfl rfl ?_ | refine wq_getf (by assumption) rfl ?_ | refine wq_alen (by assumption) rfl ?_)
      refine wf rfl (wq_cv rfl rfl rfl hO ((c_Md_unrolls i2 i4 i3 hr hc).mono ?_))
      rintro v M2 ⟨rfl, f2, h2, h3⟩
      have hO2 : MO M2 m a' b' c' d' e' := f2.at (by omega) hO
      repeat (refine wf rfl ?_; first | refine wq_iadd ?_ | refine wq_isub ?_ | refine wq_imul ?_ | refine wq_iinc rfl ?_ | refine wq_goto ?_ | refine wq_k rfl ?_ | refine wq_b rfl rfl ?_ | refine wq_getf (by assumption) rfl ?_ | refine wq_alen (by assumption) rfl ?_)
      refine wf rfl (wq_cv rfl rfl rfl hO2 ((c_Md_nextPruned h3 (i3.unr hr)).mono ?_))
      rintro v M2 ⟨rfl, rfl⟩
      have hstep := fun (_ : True) => ih (c + 1) (unrG G r) M2 ⟨by omega, h3, i3.unr hr, h2, i5.tr f2⟩
      rw [show (prune (n + 1) G).2 = (prune n (unrG G r)).2 + 1 by rw [prune, hn], show (prune (n + 1) G).1 = (prune n (unrG G r)).1 by rw [prune, hn], show c + (((prune n (unrG G r)).2 + 1 : Nat) : Int) = c + 1 + (prune n (unrG G r)).2 by omega]
      repeat' (first | (refine Wp.sub (hstep  ?_) ⟨rfl, rfl, rfl, trivial⟩ rfl) | (refine wf rfl ?_; first | refine wq_iadd ?_ | refine wq_isub ?_ | refine wq_imul ?_ | refine wq_iinc rfl ?_ | refine wq_goto ?_ | refine wq_k rfl ?_ | refine wq_b rfl rfl ?_ | refine wq_getf (by assumption) rfl ?_ | refine wq_alen (by assumption) rfl ?_ | fail | (refine wq_eq ⟨by omega, by omega⟩ ⟨by omega, by omega⟩ (fun _ => ?_) (fun _ => ?_) <;> try (exfalso; omega)) | (refine wq_ne ⟨by omega, by omega⟩ ⟨by omega, by omega⟩ (fun _ => ?_) (fun _ => ?_) <;> try (exfalso; omega)) | (refine wq_lt ⟨by omega, by omega⟩ ⟨by omega, by omega⟩ (fun _ => ?_) (fun _ => ?_) <;> try (exfalso; omega)) | (refine wq_ge ⟨by omega, by omega⟩ ⟨by omega, by omega⟩ (fun _ => ?_) (fun _ => ?_) <;> try (exfalso; omega)) | (refine wq_gt ⟨by omega, by omega⟩ ⟨by omega, by omega⟩ (fun _ => ?_) (fun _ => ?_) <;> try (exfalso; omega)) | (refine wq_le ⟨by omega, by omega⟩ ⟨by omega, by omega⟩ (fun _ => ?_) (fun _ => ?_) <;> try (exfalso; omega)) | (refine wq_ifeq ⟨by omega, by omega⟩ (fun _ => ?_) (fun _ => ?_) <;> try (exfalso; omega)) | (refine wq_ifne ⟨by omega, by omega⟩ (fun _ => ?_) (fun _ => ?_) <;> try (exfalso; omega)) | (refine wq_iflt ⟨by omega, by omega⟩ (fun _ => ?_) (fun _ => ?_) <;> try (exfalso; omega)) | (refine wq_ifge ⟨by omega, by omega⟩ (fun _ => ?_) (fun _ => ?_) <;> try (exfalso; omega)) | (refine wq_ifgt ⟨by omega, by omega⟩ (fun _ => ?_) (fun _ => ?_) <;> try (exfalso; omega)) | (refine wq_ifle ⟨by omega, by omega⟩ (fun _ => ?_) (fun _ => ?_) <;> try (exfalso; omega)) | refine wq_r rfl rfl rfl rfl rfl rfl ?_))
      trivial
theorem c_Md_prunes (h : Mr M m G) (hL : ∃ la, M[m + 13]? = some (aJ 80 la)) (hW : WFG G) : Wm 148 [.ref m] M (fun v M' => v = some (.int (I ((prune 26 G).2 : Nat))) ∧ Fr (fun q => q = m + 1 ∨ q = m + 13) M M' ∧ (∃ la, M'[m + 13]? = some (aJ 80 la)) ∧ Mr M' m (prune 26 G).1 ∧ WFG (prune 26 G).1) := by
  have hN := h.le
  obtain ⟨⟨a', b', c', d', e', hO⟩, -⟩ := id h
  have hstep := fun (_ : True) => lp_prunes (M := M) 26 0 G M ⟨by omega, h, hW, hL, Fr.rf⟩
  rw [show (0 : Int) + ((prune 26 G).2 : Nat) = ((prune 26 G).2 : Nat) by omega] at hstep
  refine wm_in (lv := _) rfl rfl rfl ?_
  repeat (refine wf rfl ?_; first | refine wq_iadd ?_ | refine wq_isub ?_ | refine wq_imul ?_ | refine wq_iinc rfl ?_ | refine wq_goto ?_ | refine wq_k rfl ?_ | refine wq_b rfl rfl ?_ | refine wq_getf (by assumption) rfl ?_ | refine wq_alen (by assumption) rfl ?_)
  refine wf rfl (wq_cv rfl rfl rfl hO ((c_Md_nextPruned h hW).mono ?_))
  rintro v M ⟨rfl, rfl⟩
  repeat' (first | (refine Wp.sub (hstep  ?_) ⟨rfl, rfl, rfl, trivial⟩ rfl) | (refine wf rfl ?_; first | refine wq_iadd ?_ | refine wq_isub ?_ | refine wq_imul ?_ | refine wq_iinc rfl ?_ | refine wq_goto ?_ | refine wq_k rfl ?_ | refine wq_b rfl rfl ?_ | refine wq_getf (by assumption) rfl ?_ | refine wq_alen (by assumption) rfl ?_ | fail | (refine wq_eq ⟨by omega, by omega⟩ ⟨by omega, by omega⟩ (fun _ => ?_) (fun _ => ?_) <;> try (exfalso; omega)) | (refine wq_ne ⟨by omega, by omega⟩ ⟨by omega, by omega⟩ (fun _ => ?_) (fun _ => ?_) <;> try (exfalso; omega)) | (refine wq_lt ⟨by omega, by omega⟩ ⟨by omega, by omega⟩ (fun _ => ?_) (fun _ => ?_) <;> try (exfalso; omega)) | (refine wq_ge ⟨by omega, by omega⟩ ⟨by omega, by omega⟩ (fun _ => ?_) (fun _ => ?_) <;> try (exfalso; omega)) | (refine wq_gt ⟨by omega, by omega⟩ ⟨by omega, by omega⟩ (fun _ => ?_) (fun _ => ?_) <;> try (exfalso; omega)) | (refine wq_le ⟨by omega, by omega⟩ ⟨by omega, by omega⟩ (fun _ => ?_) (fun _ => ?_) <;> try (exfalso; omega)) | (refine wq_ifeq ⟨by omega, by omega⟩ (fun _ => ?_) (fun _ => ?_) <;> try (exfalso; omega)) | (refine wq_ifne ⟨by omega, by omega⟩ (fun _ => ?_) (fun _ => ?_) <;> try (exfalso; omega)) | (refine wq_iflt ⟨by omega, by omega⟩ (fun _ => ?_) (fun _ => ?_) <;> try (exfalso; omega)) | (refine wq_ifge ⟨by omega, by omega⟩ (fun _ => ?_) (fun _ => ?_) <;> try (exfalso; omega)) | (refine wq_ifgt ⟨by omega, by omega⟩ (fun _ => ?_) (fun _ => ?_) <;> try (exfalso; omega)) | (refine wq_ifle ⟨by omega, by omega⟩ (fun _ => ?_) (fun _ => ?_) <;> try (exfalso; omega)) | refine wq_r rfl rfl rfl rfl rfl rfl ?_))
  trivial
end MD6
