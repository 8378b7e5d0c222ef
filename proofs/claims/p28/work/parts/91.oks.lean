/-! No state tells more letters than a word may have. -/
theorem OKG.of {G : GS} (hW : WFG G) (f : Nat → Int) (h1 : ∀ j, j < G.1.length → f j = sumL (lsy G.1.length f) (xof G.1 j) ∧ f j ≤ 9999) (h2 : sumL (lsy G.1.length f) G.2 ≤ 9999) : OKG G := by
  have e : ∀ j, j < G.1.length → f j = ltG G j := recT_uniq (fLt_loc G) (fun j hj => by
    obtain ⟨a, b⟩ := h1 j hj
    show _ = min (sumL (lsy j f) (xof G.1 j)) 10000
    rw [sumL_congr (f := lsy j f) (f' := lsy G.1.length f) (fun s hs => lsy_up (by omega) (hW.1 j hj s hs).2)]
    omega)
  have e2 : lsy G.1.length f = lyG G := lsy_fun e
  refine ⟨hW, ?_, fun j hj => by rw [← e j hj]; exact (h1 j hj).2⟩
  show min (sumL (lyG G) G.2) 10000 ≤ 9999
  rw [← e2]
  omega
theorem bst_adj {xs : List Int} {f s : Int} : ∀ n : Nat, n + 1 ≤ xs.length → 0 < (bst xs (f, s, 0) n).2.2 → ∃ p : Nat, p + 1 < xs.length ∧ (bst xs (f, s, 0) n).1 = rat xs p ∧ (bst xs (f, s, 0) n).2.1 = rat xs (p + 1 : Nat)
  | 0, _, h => by
    rw [bst] at h
    exact absurd h (Int.lt_irrefl 0)
  | n + 1, hn, h => by
    have ih := bst_adj (xs := xs) (f := f) (s := s) n (by omega)
    rw [bst] at h ⊢
    split
    · exact ⟨n, by omega, rfl, rfl⟩
    · rename_i hc
      rw [if_neg hc] at h
      exact ih h
theorem sum_two {g : Int → Int} (hg : ∀ s, 0 ≤ g s) {xs : List Int} {p : Nat} (h : p + 1 < xs.length) : g (rat xs p) + g (rat xs (p + 1 : Nat)) ≤ sumL g xs := by
  have e : sumL g xs = sumL g (xs.take p) + sumL g (xs.drop p) := by rw [← sumL_app, List.take_append_drop]
  rw [e, drop2 h, sumL, sumL]
  have h1 := sumL_nn g (xs.take p) (fun s _ => hg s)
  have h2 := sumL_nn g (xs.drop (p + 2)) (fun s _ => hg s)
  omega
theorem sum_fold2 {g : Int → Int} {a b c : Int} (h : g c = g a + g b) : ∀ (n : Nat) (xs : List Int), xs.length ≤ n → sumL g (fold2 a b c xs) = sumL g xs
  | 0, [], _ => by simp [fold2]
  | 0, y :: r, q => by simp at q
  | n + 1, [], _ => by simp [fold2]
  | n + 1, [y], _ => by simp [fold2]
  | n + 1, y :: z :: r, q => by
    rw [List.length_cons, List.length_cons] at q
    have h1 := sum_fold2 h n r (by omega)
    have h2 := sum_fold2 h n (z :: r) (by rw [List.length_cons]; omega)
    rw [fold2]
    split
    · rename_i hc
      rw [sumL, sumL, sumL, h1, h, hc.1, hc.2]
      omega
    · rw [sumL, sumL, h2]
def fFo (G : GS) (w : Int) (j : Nat) : Int := if j < G.1.length then ltG G j else w
def fUn (G : GS) (r j : Nat) : Int := if j < r then ltG G j else ltG G (j + 1)
theorem fFo_lt {G : GS} {w : Int} {j : Nat} (h : j < G.1.length) : fFo G w j = ltG G j := if_pos h
theorem fFo_ge {G : GS} {w : Int} {j : Nat} (h : ¬ j < G.1.length) : fFo G w j = w := if_neg h
theorem fUn_lt {G : GS} {r j : Nat} (h : j < r) : fUn G r j = ltG G j := if_pos h
theorem fUn_ge {G : GS} {r j : Nat} (h : ¬ j < r) : fUn G r j = ltG G (j + 1) := if_neg h
theorem OKG.fold {G : GS} (h : OKG G) (hb : foldB G = true) : OKG (foldG G) := by
  have hW' := h.1.fold hb
  obtain ⟨w1, w2, w3⟩ := id h.1
  have hl := foldG_len G
  have hb0 := hb
  unfold foldB at hb0
  rw [Bool.and_eq_true, decide_eq_true_eq, decide_eq_true_eq] at hb0
  have hml : 1 ≤ G.2.length := by
    rcases Nat.eq_zero_or_pos G.2.length with q | q
    · exfalso
      have e : (bstAll G.2 0 0).2.2 = 0 := by unfold bstAll; rw [q]; rfl
      omega
    · exact q
  obtain ⟨p, p1, p2, p3⟩ := bst_adj (xs := G.2) (f := 0) (s := 0) (G.2.length - 1) (by omega) (by show 0 < (bstAll G.2 0 0).2.2; omega)
  have p2 : (bstAll G.2 0 0).1 = rat G.2 p := p2
  have p3 : (bstAll G.2 0 0).2.1 = rat G.2 (p + 1 : Nat) := p3
  have s2 := sum_two (fun s => (lyG_bd h.1 s).1) p1
  rw [← p2, ← p3, ← h.wl] at s2
  have hw := h.2.1
  have m1 : (bstAll G.2 0 0).1 ∈ G.2 := by rw [p2]; exact rat_mem (by omega) (by omega)
  have m2 : (bstAll G.2 0 0).2.1 ∈ G.2 := by rw [p3]; exact rat_mem (by omega) (by omega)
  have b1 := w2 _ m1
  have b2 := w2 _ m2
  have x1 : ∀ j, j < G.1.length → xof (foldG G).1 j = xof G.1 j := fun j hj => xof_app1 hj
  have x2 : xof (foldG G).1 G.1.length = [(bstAll G.2 0 0).1, (bstAll G.2 0 0).2.1] := xof_app2
  have x3 : (foldG G).2 = fold2 (bstAll G.2 0 0).1 (bstAll G.2 0 0).2.1 (8 + (G.1.length : Int)) G.2 := rfl
  generalize (bstAll G.2 0 0).1 = a at *
  generalize (bstAll G.2 0 0).2.1 = b at *
  have e1 : ∀ s : Int, s < 8 + (G.1.length : Int) → lsy (G.1.length + 1) (fFo G (lyG G a + lyG G b)) s = lyG G s := by
    intro s hs
    by_cases q : 8 ≤ s
    · rw [lyG_rule q hs]
      unfold lsy
      rw [if_pos ⟨q, by omega⟩, fFo_lt (by omega)]
    · rw [lyG_letter (s := s) (by omega)]
      unfold lsy
      rw [if_neg (by omega)]
  have e2 : lsy (G.1.length + 1) (fFo G (lyG G a + lyG G b)) (8 + (G.1.length : Int)) = lyG G a + lyG G b := by
    unfold lsy
    rw [if_pos ⟨by omega, by omega⟩, fFo_ge (by omega)]
  refine OKG.of hW' (fFo G (lyG G a + lyG G b)) ?_ ?_
  · rw [hl]
    intro j hj
    by_cases hq : j < G.1.length
    · rw [x1 j hq, sumL_congr (f' := lyG G) (fun s hs => e1 s (by have := w1 j hq s hs; omega)), fFo_lt hq]
      exact ⟨h.lt hq, h.2.2 j hq⟩
    · have ej : j = G.1.length := by omega
      subst ej
      rw [x2, fFo_ge hq, sumL, sumL, sumL, e1 a (by omega), e1 b (by omega)]
      exact ⟨by omega, by omega⟩
  · rw [hl, x3, sum_fold2 (by rw [e2, e1 a (by omega), e1 b (by omega)]) _ _ (Nat.le_refl _), sumL_congr (f' := lyG G) (fun s hs => e1 s (w2 s hs).2), ← h.wl]
    exact hw
theorem foldN_ok : ∀ (n : Nat) (G : GS), OKG G → OKG (foldN n G).1
  | 0, G, h => by rw [foldN]; exact h
  | n + 1, G, h => by
    rw [foldN]
    split
    · rename_i hB
      exact foldN_ok n _ (h.fold hB)
    · exact h
theorem OKG.unrl {G : GS} (h : OKG G) {r : Nat} (hr : r < G.1.length) : OKG (unrG G r) := by
  have hW' := h.1.unr hr
  obtain ⟨w1, w2, w3⟩ := id h.1
  have hl := unrG_len (G := G) hr
  have e0 : ∀ s : Int, s < 8 + (r : Int) → lsy (G.1.length - 1) (fUn G r) s = lyG G s := by
    intro s hs
    by_cases q : 8 ≤ s
    · rw [lyG_rule q (by omega)]
      unfold lsy
      rw [if_pos ⟨q, by omega⟩, fUn_lt (by omega)]
    · rw [lyG_letter (by omega)]
      unfold lsy
      rw [if_neg (by omega)]
  have e1 : ∀ s : Int, s < 8 + (G.1.length : Int) → sumL (lsy (G.1.length - 1) (fUn G r)) (unr1 (8 + (r : Int)) (xof G.1 r) s) = lyG G s := by
    intro s hs
    unfold unr1
    by_cases q : s = 8 + (r : Int)
    · rw [if_pos q, sumL_congr (f' := lyG G) (fun x hx => e0 x (w1 r hr x hx).2), ← h.lt hr, q, lyG_rule (by omega) (by omega)]
      congr 1
      omega
    · rw [if_neg q]
      by_cases q2 : 8 + (r : Int) < s
      · rw [if_pos q2, sumL, sumL, lyG_rule (by omega) hs]
        unfold lsy
        rw [if_pos ⟨by omega, by omega⟩, fUn_ge (by omega), show (s - 1 - 8).toNat + 1 = (s - 8).toNat by omega]
        omega
      · rw [if_neg q2, sumL, sumL, e0 s (by omega)]
        omega
  have e2 : ∀ xs : List Int, (∀ s ∈ xs, s < 8 + (G.1.length : Int)) → sumL (lsy (G.1.length - 1) (fUn G r)) (unr (8 + (r : Int)) (xof G.1 r) xs) = sumL (lyG G) xs := by
    intro xs
    induction xs with
    | nil => intro _; rfl
    | cons x t ih =>
      intro hx
      rw [show unr (8 + (r : Int)) (xof G.1 r) (x :: t) = unr1 (8 + (r : Int)) (xof G.1 r) x ++ unr (8 + (r : Int)) (xof G.1 r) t from List.flatMap_cons, sumL_app, e1 x (hx x List.mem_cons_self), ih (fun s hs => hx s (List.mem_cons_of_mem _ hs)), sumL]
  refine OKG.of hW' (fUn G r) ?_ ?_
  · rw [hl]
    intro j hj
    rw [xof_unr hr (by omega)]
    by_cases q : j < r
    · rw [if_pos q, fUn_lt q, sumL_congr (f' := lyG G) (fun s hs => e0 s (by have := w1 j (by omega) s hs; omega))]
      exact ⟨h.lt (by omega), h.2.2 j (by omega)⟩
    · rw [if_neg q, fUn_ge q, e2 _ (fun s hs => by have := w1 (j + 1) (by omega) s hs; omega)]
      exact ⟨h.lt (by omega), h.2.2 (j + 1) (by omega)⟩
  · rw [hl]
    show sumL _ (unr (8 + (r : Int)) (xof G.1 r) G.2) ≤ 9999
    rw [e2 _ (fun s hs => (w2 s hs).2), ← h.wl]
    exact h.2.1
theorem prune_ok : ∀ (n : Nat) (G : GS), OKG G → OKG (prune n G).1
  | 0, G, h => by rw [prune]; exact h
  | n + 1, G, h => by
    rw [prune]
    cases e : nextP G with
    | none => exact h
    | some r => exact prune_ok n _ (h.unrl (nextP_some e).1)
theorem OKG.mn {G : GS} (h : OKG G) {mn : List Int} (hW : WFG (G.1, mn)) (hs : sumL (lyG G) mn ≤ 9999) : OKG (G.1, mn) := ⟨hW, by rw [wlG_mn]; omega, h.2.2⟩
theorem push_mem {hist : List GS} {G H : GS} (h : H ∈ push hist G) : H ∈ hist ∨ H = G := by
  unfold push at h
  rcases List.mem_append.mp h with q | q
  · left
    split at q
    · exact List.mem_of_mem_tail q
    · exact q
  · exact Or.inr (List.mem_singleton.mp q)
theorem OKS.acc {S : ST} (h : OKS S) {G : GS} (hG : OKG G) : OKS (accS S G) := by
  obtain ⟨h1, h2, h3, h4⟩ := h
  refine ⟨hG, h2, fun H hH => ?_, h4⟩
  rcases push_mem hH with q | q
  · exact h3 H q
  · rw [q]
    exact h1
theorem OKS_fold {S : ST} (h : OKS S) (t : Int) : OKS (spFold t S).2 := by
  unfold spFold
  split
  · split
    · exact h
    · exact h.acc (foldN_ok _ _ h.1)
  · exact h
theorem OKS_unroll {S : ST} (h : OKS S) (r : Int) : OKS (spUnroll r S).2 := by
  unfold spUnroll
  split
  · rename_i hq
    split
    · exact h.acc (h.1.unrl (by omega))
    · exact h
  · exact h
theorem OKS_prune {S : ST} (h : OKS S) : OKS (spPrune S).2 := h.acc (prune_ok _ _ h.1)
theorem sum_set {g : Int → Int} {l : Int} : ∀ (xs : List Int) (k : Nat) (z : Int), xs[k]? = some z → sumL g (xs.set k l) + g z = sumL g xs + g l
  | [], k, z, h => by simp at h
  | x :: t, 0, z, h => by
    have e : x = z := by simpa using h
    rw [List.set_cons_zero, sumL, sumL, e]
    omega
  | x :: t, k + 1, z, h => by
    have := sum_set (g := g) (l := l) t k z (by simpa using h)
    rw [List.set_cons_succ, sumL, sumL]
    omega
theorem OKS_edit {S : ST} (h : OKS S) {p l : Int} (hW : WFG (spEdit p l S).2.1) : OKS (spEdit p l S).2 := by
  unfold spEdit at hW ⊢
  by_cases hq : 0 ≤ p ∧ p < wlG S.1
  · rw [if_pos hq] at hW ⊢
    by_cases hc : 0 ≤ l ∧ l < 8
    · rw [if_pos hc] at hW ⊢
      cases e : opn S.1 p with
      | none => rw [e] at hW; exact h
      | some z =>
        rw [e] at hW
        obtain ⟨mn2, z⟩ := z
        obtain ⟨b1, b2, b3, b4, b5⟩ := opn_some h.1.1 hq e
        refine h.acc (h.1.mn hW ?_)
        have e3 := List.getElem?_eq_getElem (l := mn2) (i := z.toNat) (by omega)
        have e4 : rat mn2 z = mn2[z.toNat] := rat_in b2 e3
        have e5 := sum_set (g := lyG S.1) (l := l) mn2 z.toNat _ e3
        rw [← e4, lyG_letter b4, lyG_letter hc.2, b5 h.1, ← h.1.wl] at e5
        have e6 : rset mn2 z l = mn2.set z.toNat l := if_neg (by omega)
        have := h.1.2.1
        show sumL (lyG S.1) (rset mn2 z l) ≤ 9999
        rw [e6]
        omega
    · rw [if_neg hc]
      exact h
  · rw [if_neg hq]
    exact h
theorem OKS_delete {S : ST} (h : OKS S) {p : Int} (hW : WFG (spDelete p S).2.1) : OKS (spDelete p S).2 := by
  unfold spDelete at hW ⊢
  by_cases hq : 0 ≤ p ∧ p < wlG S.1
  · rw [if_pos hq] at hW ⊢
    cases e : opn S.1 p with
    | none => rw [e] at hW; exact h
    | some z =>
      rw [e] at hW
      obtain ⟨mn2, z⟩ := z
      obtain ⟨b1, b2, b3, b4, b5⟩ := opn_some h.1.1 hq e
      refine h.acc (h.1.mn hW ?_)
      have e1 : sumL (lyG S.1) mn2 = sumL (lyG S.1) (mn2.take z.toNat) + sumL (lyG S.1) (mn2.drop z.toNat) := by rw [← sumL_app, List.take_append_drop]
      rw [drop_at b2 b3, sumL, show (z + 1).toNat = z.toNat + 1 by omega, b5 h.1, ← h.1.wl] at e1
      have := h.1.2.1
      have := (lyG_bd h.1.1 (rat mn2 z)).1
      show sumL (lyG S.1) (mn2.take z.toNat ++ mn2.drop (z.toNat + 1)) ≤ 9999
      rw [sumL_app]
      omega
  · rw [if_neg hq]
    exact h
theorem OKS_insert {S : ST} (h : OKS S) {p l : Int} (hW : WFG (spInsert p l S).2.1) : OKS (spInsert p l S).2 := by
  unfold spInsert at hW ⊢
  by_cases hq : 0 ≤ p ∧ p ≤ wlG S.1
  · rw [if_pos hq] at hW ⊢
    by_cases hc : 0 ≤ l ∧ l < 8
    · rw [if_pos hc] at hW ⊢
      have hx : ∀ z, spotI S.1 p = some z → sumL (lyG S.1) z.1 = wlG S.1 := by
        intro z e
        unfold spotI at e
        by_cases hb : sumL (lyG S.1) (S.1.2.take (posL (lyG S.1) S.1.2 p).toNat) = p
        · rw [if_pos hb] at e
          cases e
          exact h.1.wl.symm
        · rw [if_neg hb] at e
          have hlt : p < wlG S.1 := by
            rcases Int.lt_or_le p (wlG S.1) with w | w
            · exact w
            · exfalso
              apply hb
              have hwk := h.1.wl
              have hpb := posL_bd (lyG S.1) S.1.2 p
              have e9 := posL_ge (fun s => (lyG_bd h.1.1 s).1) S.1.2 p (by omega)
              rw [e9, List.take_of_length_le (by omega)]
              omega
          obtain ⟨mn2, z⟩ := z
          rw [(opn_some h.1.1 ⟨hq.1, hlt⟩ e).2.2.2.2 h.1, h.1.wl]
      cases e : spotI S.1 p with
      | none => exact h
      | some z =>
        rw [e] at hW
        have hs := hx z e
        dsimp only at hW ⊢
        by_cases h9 : wlG S.1 = 9999 ∨ z.1.length = 80
        · rw [if_pos h9]
          exact h
        · rw [if_neg h9] at hW ⊢
          refine h.acc (h.1.mn hW ?_)
          have := h.1.2.1
          rw [sumL_ins, lyG_letter hc.2]
          omega
    · rw [if_neg hc]
      exact h
  · rw [if_neg hq]
    exact h
theorem OKS_tell {S : ST} (h : OKS S) (hW : WFG (spTell S).2.1) : OKS (spTell S).2 := by
  unfold spTell at hW ⊢
  split at hW
  · rename_i h1
    rw [if_pos h1]
    split at hW
    · rename_i h2
      rw [if_pos h2]
      exact h
    · rename_i h2
      rw [if_neg h2]
      have hn : ∀ (a : Prop), a → (a → 9999 < wlG (rdRun S.2.1 (0, ([], []), []) 0).2.2.1 ∨ ∃ j, j < (rdRun S.2.1 (0, ([], []), []) 0).2.2.1.1.length ∧ 9999 < ltG (rdRun S.2.1 (0, ([], []), []) 0).2.2.1 j) → False := fun a ha k => h2 (tooB_iff.mpr (k ha))
      refine ⟨⟨hW, ?_, fun j hj => ?_⟩, fun x hx => absurd hx (List.not_mem_nil), fun H hH => ?_, h.2.2.2⟩
      · rcases Int.lt_or_le 9999 (wlG (rdRun S.2.1 (0, ([], []), []) 0).2.2.1) with q | q
        · exact absurd (tooB_iff.mpr (Or.inl q)) h2
        · exact q
      · rcases Int.lt_or_le 9999 (ltG (rdRun S.2.1 (0, ([], []), []) 0).2.2.1 j) with q | q
        · exact absurd (tooB_iff.mpr (Or.inr ⟨j, hj, q⟩)) h2
        · exact q
      · rcases push_mem hH with q | q
        · exact h.2.2.1 H q
        · rw [q]
          exact h.1
  · rename_i h1
    rw [if_neg h1]
    exact h
theorem byt_ok (u : Nat) : ∀ b, ∀ x ∈ byt u b, 0 ≤ x ∧ x < 256
  | 0, x, h => by
    rw [byt] at h
    exact absurd h (List.not_mem_nil)
  | b + 1, x, h => by
    rw [byt] at h
    rcases List.mem_cons.mp h with q | q
    · omega
    · exact byt_ok u b x q
theorem OKS_put {S : ST} (h : OKS S) (u : Nat) : OKS (spPut u S).2 := by
  unfold spPut
  split
  · exact h
  · split
    · exact h
    · refine ⟨h.1, fun x hx => ?_, h.2.2⟩
      rcases List.mem_append.mp hx with q | q
      · exact h.2.1 x q
      · exact byt_ok u _ x q
theorem OKS_wipe {S : ST} (h : OKS S) : OKS (spWipe S).2 := ⟨h.1, fun x hx => absurd hx (List.not_mem_nil), h.2.2⟩
theorem OKS_undo {S : ST} (h : OKS S) : OKS (spUndo S).2 := by
  unfold spUndo
  split
  · exact h
  · rename_i G e
    exact ⟨h.2.2.1 G (List.mem_of_getLast? e), h.2.1, fun H hH => h.2.2.1 H ((List.dropLast_sublist _).mem hH), h.2.2.2⟩
theorem OKS_save {S : ST} (h : OKS S) (i : Int) : OKS (spSave i S).2 := by
  unfold spSave
  split
  · refine ⟨h.1, h.2.1, h.2.2.1, fun j G hj e => ?_⟩
    dsimp only at e
    split at e
    · cases e
      exact h.1
    · exact h.2.2.2 j G hj e
  · exact h
theorem OKS_restore {S : ST} (h : OKS S) {i : Int} : OKS (spRestore i S).2 := by
  unfold spRestore
  split
  · rename_i hq
    split
    · exact h
    · rename_i G e
      exact h.acc (h.2.2.2 i.toNat G (by omega) e)
  · exact h
theorem OKS_S0 : OKS S0 := ⟨⟨⟨fun k hk => absurd hk (Nat.not_lt_zero k), fun s hs => absurd hs (List.not_mem_nil), fun k hk => absurd hk (Nat.not_lt_zero k)⟩, by decide, fun j hj => absurd hj (Nat.not_lt_zero j)⟩, fun x hx => absurd hx (List.not_mem_nil), fun G hG => absurd hG (List.not_mem_nil), fun i G hi e => by cases e⟩
