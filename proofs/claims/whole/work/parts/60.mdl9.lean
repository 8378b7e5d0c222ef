/-! Places in a row; the Model's ways to a letter. -/
theorem rat_cons {x : Int} {r : List Int} {k : Int} (h : 0 ≤ k) : rat (x :: r) (1 + k) = rat r k := by
  unfold rat
  rw [if_neg (by omega), if_neg (by omega), show (1 + k).toNat = k.toNat + 1 by omega]
  rfl
theorem posL_lt {f : Int → Int} (hf : ∀ s, 0 ≤ f s) : ∀ (xs : List Int) (q : Int), 0 ≤ q → q < sumL f xs → posL f xs q < xs.length ∧ sumL f (xs.take (posL f xs q).toNat) ≤ q ∧ q < sumL f (xs.take (posL f xs q).toNat) + f (rat xs (posL f xs q))
  | [], q, h0, h1 => by rw [sumL] at h1; omega
  | x :: r, q, h0, h1 => by
    rw [sumL] at h1
    rw [posL]
    by_cases hq : q < f x
    · rw [if_pos hq]
      refine ⟨by rw [List.length_cons]; omega, ?_, ?_⟩
      · show sumL f [] ≤ q
        rw [sumL]; exact h0
      · show q < sumL f [] + f x
        rw [sumL]; omega
    · rw [if_neg hq]
      have ih := posL_lt hf r (q - f x) (by omega) (by omega)
      have hb := posL_bd f r (q - f x)
      rw [show (1 + posL f r (q - f x)).toNat = (posL f r (q - f x)).toNat + 1 by omega, List.take_succ_cons, sumL, rat_cons hb.1, List.length_cons]
      omega
theorem posL_app {f : Int → Int} (hf : ∀ s, 0 ≤ f s) (b : List Int) : ∀ (a : List Int) (q : Int), posL f (a ++ b) q = if q < sumL f a then posL f a q else a.length + posL f b (q - sumL f a)
  | [], q => by
    rw [sumL, List.nil_append]
    by_cases hq : q < 0
    · rw [if_pos hq, posL]
      cases b with
      | nil => rw [posL]
      | cons y r => rw [posL, if_pos (by have := hf y; omega)]
    · rw [if_neg hq]
      simp
  | x :: r, q => by
    have ih := posL_app hf b r (q - f x)
    have hn := sumL_nn f r (fun s _ => hf s)
    rw [List.cons_append, posL, posL, sumL, ih]
    by_cases hq : q < f x
    · rw [if_pos hq, if_pos (by omega), if_pos hq]
    · rw [if_neg hq, if_neg hq]
      by_cases hq2 : q - f x < sumL f r
      · rw [if_pos hq2, if_pos (by omega)]
      · rw [if_neg hq2, if_neg (by omega), List.length_cons, show q - f x - sumL f r = q - (f x + sumL f r) by omega]
        omega
/-- a symbol opened: where the place is then -/
theorem posL_open {f : Int → Int} (hf : ∀ s, 0 ≤ f s) {xs row : List Int} {q : Int} (h0 : 0 ≤ q) (h1 : q < sumL f xs) (hr : f (rat xs (posL f xs q)) ≤ sumL f row) :
    q < sumL f (xs.take (posL f xs q).toNat ++ (row ++ xs.drop ((posL f xs q).toNat + 1))) ∧ (∃ k : Int, 0 ≤ k ∧ k < row.length ∧ rat (xs.take (posL f xs q).toNat ++ (row ++ xs.drop ((posL f xs q).toNat + 1))) (posL f (xs.take (posL f xs q).toNat ++ (row ++ xs.drop ((posL f xs q).toNat + 1))) q) = rat row k) := by
  have h2 := posL_lt hf xs q h0 h1
  have h3 := posL_bd f xs q
  generalize posL f xs q = z at *
  have hlt : ((xs.take z.toNat).length : Int) = z := by rw [List.length_take]; omega
  have hlr := posL_lt hf row (q - sumL f (xs.take z.toNat)) (by omega) (by omega)
  have hbr := posL_bd f row (q - sumL f (xs.take z.toNat))
  have hnd := sumL_nn f (xs.drop (z.toNat + 1)) (fun s _ => hf s)
  refine ⟨by rw [sumL_app, sumL_app]; omega, posL f row (q - sumL f (xs.take z.toNat)), hbr.1, hlr.1, ?_⟩
  rw [posL_app hf, if_neg (by omega), posL_app hf, if_pos (by omega), hlt]
  have hg := List.getElem?_eq_getElem (l := row) (i := (posL f row (q - sumL f (xs.take z.toNat))).toNat) (by omega)
  rw [rat_in (xs := row) hbr.1 hg]
  refine rat_in (by omega) ?_
  rw [List.getElem?_append_right (by omega), List.getElem?_append_left (by omega), ← hg]
  congr 1
  omega
theorem fol_congr {f : Int → Int} {N : Nat} {X X' : Nat → List Int} (hX : ∀ k, k < N → X k = X' k) (hw : WFX N X) : ∀ (n : Nat) (xs : List Int) (q : Int), n ≤ N → WFm n xs → fol f X n xs q = fol f X' n xs q
  | 0, xs, q, _, _ => by rw [fol, fol]
  | n + 1, xs, q, hn, hm => by
    rw [fol, fol]
    by_cases hc : 8 ≤ rat xs (posL f xs q)
    · have hb := posL_bd f xs q
      have hlt : posL f xs q < xs.length := by
        rcases Int.lt_or_le (posL f xs q) xs.length with w | w
        · exact w
        · rw [rat_out (Or.inr w)] at hc; omega
      have h1 := hm _ (rat_mem hb.1 hlt)
      rw [if_pos hc, if_pos hc, hX _ (by omega), fol_congr hX hw n _ _ (by omega) (fun s hs => by
        rw [← hX _ (by omega)] at hs
        have := hw _ (by omega) s hs
        omega)]
    · rw [if_neg hc, if_neg hc]
section MD9
variable {M : PM} {m : Nat} {G : GS}
theorem c_in0 {x w : Int} (hx : inR x) (hw : inR w) : Wm 123 [.long (I x).toInt64, .long (Int64.ofNat 0), .long ((I w).toInt64 - Int64.ofNat 1)] M (fun v M' => v = some (.int (I (if 0 ≤ x ∧ x < w then 1 else 0))) ∧ M' = M) := by
  refine (c_Md_in).mono ?_
  rintro v M' ⟨rfl, rfl⟩
  refine ⟨?_, rfl⟩
  rw [L_int hx, L_sub1 hw, show (Int64.ofNat 0).toInt = 0 from rfl]
  by_cases q : 0 ≤ x ∧ x < w
  · rw [if_pos (by omega), if_pos q]
  · rw [if_neg (by omega), if_neg q]
theorem c_inL {x w : Int} (hx : inR x) (hw : inR w) : Wm 123 [.long (I x).toInt64, .long (Int64.ofNat 0), .long (I w).toInt64] M (fun v M' => v = some (.int (I (if 0 ≤ x ∧ x ≤ w then 1 else 0))) ∧ M' = M) := by
  refine (c_Md_in).mono ?_
  rintro v M' ⟨rfl, rfl⟩
  refine ⟨?_, rfl⟩
  rw [L_int hx, L_int hw, show (Int64.ofNat 0).toInt = 0 from rfl]
theorem c_inC {x : Int} {a b : Nat} (hx : inR x) (ha : a < 10000) (hb : b < 10000) : Wm 123 [.long (I x).toInt64, .long (Int64.ofNat a), .long (Int64.ofNat b)] M (fun v M' => v = some (.int (I (if (a : Int) ≤ x ∧ x ≤ b then 1 else 0))) ∧ M' = M) := by
  refine (c_Md_in).mono ?_
  rintro v M' ⟨rfl, rfl⟩
  refine ⟨?_, rfl⟩
  rw [L_int hx, Int64.toInt_ofNat_of_lt (by omega), Int64.toInt_ofNat_of_lt (by omega)]
theorem lp_seeks {hl pl sp q : Int} (h : Mr M m G) (hW : WFG G) (hT : Tr M m G) (h0 : 0 ≤ q) (h1 : q < sumL (lyG G) G.2) (h2 : inR q) (n : Nat) : ∀ (k r : Int) (M1 : PM), (0 ≤ k ∧ k ≤ posL (lyG G) G.2 q ∧ posL (lyG G) G.2 q - k < n ∧ Fr (fun z => z = m) M M1 ∧ MO M1 m hl k r pl sp ∧ r = q - sumL (lyG G) (G.2.take k.toNat) ∧ k + posL (lyG G) (G.2.drop k.toNat) r = posL (lyG G) G.2 q) →
    Wp k_X10_seeks (10, [(0, .ref m), (1, .int (I q))], [], M1) (fun v M' => v = none ∧ Fr (fun z => z = m) M M' ∧ MO M' m hl (posL (lyG G) G.2 q) (q - sumL (lyG G) (G.2.take (posL (lyG G) G.2 q).toNat)) pl sp) := by
  obtain ⟨h21, h22⟩ := id h2
  have hN := h.le
  have hml := h.ml
  have hpl := posL_lt (fun s => (lyG_bd hW s).1) G.2 q h0 h1
  obtain ⟨-, f, hA, hG⟩ := id h
  induction n with
  | zero => intro k r M1 hi; exfalso; omega
  | succ n ih =>
    rintro k r M1 ⟨i1, i2, i3, i4, i5, i6, i7⟩
    have hM1 : Mr M1 m G := ⟨⟨hl, k, r, pl, sp, i5⟩, f, i4.at (by omega) hA, hG⟩
    obtain ⟨t, t1, t2⟩ := id hT
    have hT1 : Tr M1 m G := ⟨t, i4.at (by omega) t1, t2⟩
    have hkl : k < G.2.length := by omega
    have hat := c_Md_at (p := k) hM1 (vrM G) i1 (by rw [rwM]; exact hkl)
    rw [rwM] at hat
    have hx := hW.2.1 _ (rat_mem i1 hkl)
    have hle := c_Md_letters (s := rat G.2 k) hM1 hT1 hx.1 hx.2
    have hlb := lyG_bd hW (rat G.2 k)
    have bz := sumL_bd (f := lyG G) (xs := G.2.take k.toNat) (fun s _ => lyG_bd hW s)
    rw [List.length_take] at bz
    have hdr := drop1 (xs := G.2) (p := k.toNat) (by omega)
    rw [show ((k.toNat : Nat) : Int) = k by omega] at hdr
    rw [hdr, posL] at i7
    repeat (refine wf rfl ?_; first | refine wq_iadd ?_ | refine wq_isub ?_ | refine wq_imul ?_ | refine wq_iinc rfl ?_ | refine wq_goto ?_ | refine wq_k rfl ?_ | refine wq_b rfl rfl ?_ | refine wq_getf (by assumption) rfl ?_ | refine wq_alen (by assumption) rfl ?_)
    refine wf rfl (wq_cv rfl rfl rfl i5 (hat.mono ?_))
    rintro v M1 ⟨rfl, rfl⟩
    refine wf rfl (wq_cv rfl rfl rfl i5 (hle.mono ?_))
    rintro v M1 ⟨rfl, rfl⟩
    refine wf rfl (wq_lt ⟨by omega, by omega⟩ ⟨by omega, by omega⟩ (fun c2 => ?_) (fun c2 => ?_))
    · rw [if_pos c2] at i7
      have ek : k = posL (lyG G) G.2 q := by omega
      repeat' (refine wf rfl ?_; first | refine wq_iadd ?_ | refine wq_isub ?_ | refine wq_imul ?_ | refine wq_iinc rfl ?_ | refine wq_goto ?_ | refine wq_k rfl ?_ | refine wq_b rfl rfl ?_ | refine wq_getf (by assumption) rfl ?_ | refine wq_alen (by assumption) rfl ?_ | (refine wq_eq ⟨by omega, by omega⟩ ⟨by omega, by omega⟩ (fun _ => ?_) (fun _ => ?_) <;> try (exfalso; omega)) | (refine wq_ne ⟨by omega, by omega⟩ ⟨by omega, by omega⟩ (fun _ => ?_) (fun _ => ?_) <;> try (exfalso; omega)) | (refine wq_lt ⟨by omega, by omega⟩ ⟨by omega, by omega⟩ (fun _ => ?_) (fun _ => ?_) <;> try (exfalso; omega)) | (refine wq_ge ⟨by omega, by omega⟩ ⟨by omega, by omega⟩ (fun _ => ?_) (fun _ => ?_) <;> try (exfalso; omega)) | (refine wq_gt ⟨by omega, by omega⟩ ⟨by omega, by omega⟩ (fun _ => ?_) (fun _ => ?_) <;> try (exfalso; omega)) | (refine wq_le ⟨by omega, by omega⟩ ⟨by omega, by omega⟩ (fun _ => ?_) (fun _ => ?_) <;> try (exfalso; omega)) | (refine wq_ifeq ⟨by omega, by omega⟩ (fun _ => ?_) (fun _ => ?_) <;> try (exfalso; omega)) | (refine wq_ifne ⟨by omega, by omega⟩ (fun _ => ?_) (fun _ => ?_) <;> try (exfalso; omega)) | (refine wq_iflt ⟨by omega, by omega⟩ (fun _ => ?_) (fun _ => ?_) <;> try (exfalso; omega)) | (refine wq_ifge ⟨by omega, by omega⟩ (fun _ => ?_) (fun _ => ?_) <;> try (exfalso; omega)) | (refine wq_ifgt ⟨by omega, by omega⟩ (fun _ => ?_) (fun _ => ?_) <;> try (exfalso; omega)) | (refine wq_ifle ⟨by omega, by omega⟩ (fun _ => ?_) (fun _ => ?_) <;> try (exfalso; omega)) | refine wq_r rfl rfl rfl rfl rfl rfl ?_)
      rw [← ek, ← i6]
      exact ⟨rfl, i4, i5⟩
    · rw [if_neg (by omega)] at i7
      have hpb := posL_bd (lyG G) (G.2.drop (k.toNat + 1)) (r - lyG G (rat G.2 k))
      repeat (refine wf rfl ?_; first | refine wq_iadd ?_ | refine wq_isub ?_ | refine wq_imul ?_ | refine wq_iinc rfl ?_ | refine wq_goto ?_ | refine wq_k rfl ?_ | refine wq_b rfl rfl ?_ | refine wq_getf (by assumption) rfl ?_ | refine wq_alen (by assumption) rfl ?_)
      refine wf rfl (wq_cv rfl rfl rfl i5 (hat.mono ?_))
      rintro v M1 ⟨rfl, rfl⟩
      refine wf rfl (wq_cv rfl rfl rfl i5 (hle.mono ?_))
      rintro v M1 ⟨rfl, rfl⟩
      repeat (refine wf rfl ?_; first | refine wq_iadd ?_ | refine wq_isub ?_ | refine wq_imul ?_ | refine wq_iinc rfl ?_ | refine wq_goto ?_ | refine wq_k rfl ?_ | refine wq_b rfl rfl ?_ | refine wq_getf (by assumption) rfl ?_ | refine wq_alen (by assumption) rfl ?_)
      refine wf rfl (wq_putf i5 rfl (fun M2 e2 f2 => ?_))
      repeat (refine wf rfl ?_; first | refine wq_iadd ?_ | refine wq_isub ?_ | refine wq_imul ?_ | refine wq_iinc rfl ?_ | refine wq_goto ?_ | refine wq_k rfl ?_ | refine wq_b rfl rfl ?_ | refine wq_getf (by assumption) rfl ?_ | refine wq_alen (by assumption) rfl ?_)
      refine wf rfl (wq_putf e2 rfl (fun M3 e3 f3 => ?_))
      have hst := fun (_ : True) => ih (k + 1) (r - lyG G (rat G.2 k)) M3 ⟨by omega, by omega, by omega, (i4.tr f2).tr f3, e3, by rw [sumL_take i1 hkl]; omega, by rw [show (k + 1).toNat = k.toNat + 1 by omega]; omega⟩
      repeat' (first | (refine Wp.sub (hst  ?_) ⟨rfl, rfl, trivial⟩ rfl) | (refine wf rfl ?_; first | refine wq_iadd ?_ | refine wq_isub ?_ | refine wq_imul ?_ | refine wq_iinc rfl ?_ | refine wq_goto ?_ | refine wq_k rfl ?_ | refine wq_b rfl rfl ?_ | refine wq_getf (by assumption) rfl ?_ | refine wq_alen (by assumption) rfl ?_ | fail | (refine wq_eq ⟨by omega, by omega⟩ ⟨by omega, by omega⟩ (fun _ => ?_) (fun _ => ?_) <;> try (exfalso; omega)) | (refine wq_ne ⟨by omega, by omega⟩ ⟨by omega, by omega⟩ (fun _ => ?_) (fun _ => ?_) <;> try (exfalso; omega)) | (refine wq_lt ⟨by omega, by omega⟩ ⟨by omega, by omega⟩ (fun _ => ?_) (fun _ => ?_) <;> try (exfalso; omega)) | (refine wq_ge ⟨by omega, by omega⟩ ⟨by omega, by omega⟩ (fun _ => ?_) (fun _ => ?_) <;> try (exfalso; omega)) | (refine wq_gt ⟨by omega, by omega⟩ ⟨by omega, by omega⟩ (fun _ => ?_) (fun _ => ?_) <;> try (exfalso; omega)) | (refine wq_le ⟨by omega, by omega⟩ ⟨by omega, by omega⟩ (fun _ => ?_) (fun _ => ?_) <;> try (exfalso; omega)) | (refine wq_ifeq ⟨by omega, by omega⟩ (fun _ => ?_) (fun _ => ?_) <;> try (exfalso; omega)) | (refine wq_ifne ⟨by omega, by omega⟩ (fun _ => ?_) (fun _ => ?_) <;> try (exfalso; omega)) | (refine wq_iflt ⟨by omega, by omega⟩ (fun _ => ?_) (fun _ => ?_) <;> try (exfalso; omega)) | (refine wq_ifge ⟨by omega, by omega⟩ (fun _ => ?_) (fun _ => ?_) <;> try (exfalso; omega)) | (refine wq_ifgt ⟨by omega, by omega⟩ (fun _ => ?_) (fun _ => ?_) <;> try (exfalso; omega)) | (refine wq_ifle ⟨by omega, by omega⟩ (fun _ => ?_) (fun _ => ?_) <;> try (exfalso; omega)) | refine wq_r rfl rfl rfl rfl rfl rfl ?_))
      trivial
theorem c_Md_seeks {hl si re pl sp q : Int} (h : Mr M m G) (hO : MO M m hl si re pl sp) (hW : WFG G) (hT : Tr M m G) (h0 : 0 ≤ q) (h1 : q < sumL (lyG G) G.2) (h2 : inR q) : Wm 149 [.ref m, .int (I q)] M (fun v M' => v = none ∧ Fr (fun z => z = m) M M' ∧ MO M' m hl (posL (lyG G) G.2 q) (q - sumL (lyG G) (G.2.take (posL (lyG G) G.2 q).toNat)) pl sp) := by
  have hb := posL_bd (lyG G) G.2 q
  have hml := h.ml
  refine wm_in (lv := _) rfl rfl rfl ?_
  repeat (refine wf rfl ?_; first | refine wq_iadd ?_ | refine wq_isub ?_ | refine wq_imul ?_ | refine wq_iinc rfl ?_ | refine wq_goto ?_ | refine wq_k rfl ?_ | refine wq_b rfl rfl ?_ | refine wq_getf (by assumption) rfl ?_ | refine wq_alen (by assumption) rfl ?_)
  refine wf rfl (wq_putf hO rfl (fun M2 e2 f2 => ?_))
  repeat (refine wf rfl ?_; first | refine wq_iadd ?_ | refine wq_isub ?_ | refine wq_imul ?_ | refine wq_iinc rfl ?_ | refine wq_goto ?_ | refine wq_k rfl ?_ | refine wq_b rfl rfl ?_ | refine wq_getf (by assumption) rfl ?_ | refine wq_alen (by assumption) rfl ?_)
  refine wf rfl (wq_putf e2 rfl (fun M3 e3 f3 => ?_))
  have hst := fun (_ : True) => lp_seeks (hl := hl) (pl := pl) (sp := sp) h hW hT h0 h1 h2 100 0 q M3 ⟨by omega, by omega, by omega, f2.tr f3, e3, by simp [sumL], by simp⟩
  repeat' (first | (refine Wp.sub (hst  ?_) ⟨rfl, rfl, trivial⟩ rfl) | (refine wf rfl ?_; first | refine wq_iadd ?_ | refine wq_isub ?_ | refine wq_imul ?_ | refine wq_iinc rfl ?_ | refine wq_goto ?_ | refine wq_k rfl ?_ | refine wq_b rfl rfl ?_ | refine wq_getf (by assumption) rfl ?_ | refine wq_alen (by assumption) rfl ?_ | fail | (refine wq_eq ⟨by omega, by omega⟩ ⟨by omega, by omega⟩ (fun _ => ?_) (fun _ => ?_) <;> try (exfalso; omega)) | (refine wq_ne ⟨by omega, by omega⟩ ⟨by omega, by omega⟩ (fun _ => ?_) (fun _ => ?_) <;> try (exfalso; omega)) | (refine wq_lt ⟨by omega, by omega⟩ ⟨by omega, by omega⟩ (fun _ => ?_) (fun _ => ?_) <;> try (exfalso; omega)) | (refine wq_ge ⟨by omega, by omega⟩ ⟨by omega, by omega⟩ (fun _ => ?_) (fun _ => ?_) <;> try (exfalso; omega)) | (refine wq_gt ⟨by omega, by omega⟩ ⟨by omega, by omega⟩ (fun _ => ?_) (fun _ => ?_) <;> try (exfalso; omega)) | (refine wq_le ⟨by omega, by omega⟩ ⟨by omega, by omega⟩ (fun _ => ?_) (fun _ => ?_) <;> try (exfalso; omega)) | (refine wq_ifeq ⟨by omega, by omega⟩ (fun _ => ?_) (fun _ => ?_) <;> try (exfalso; omega)) | (refine wq_ifne ⟨by omega, by omega⟩ (fun _ => ?_) (fun _ => ?_) <;> try (exfalso; omega)) | (refine wq_iflt ⟨by omega, by omega⟩ (fun _ => ?_) (fun _ => ?_) <;> try (exfalso; omega)) | (refine wq_ifge ⟨by omega, by omega⟩ (fun _ => ?_) (fun _ => ?_) <;> try (exfalso; omega)) | (refine wq_ifgt ⟨by omega, by omega⟩ (fun _ => ?_) (fun _ => ?_) <;> try (exfalso; omega)) | (refine wq_ifle ⟨by omega, by omega⟩ (fun _ => ?_) (fun _ => ?_) <;> try (exfalso; omega)) | refine wq_r rfl rfl rfl rfl rfl rfl ?_))
  trivial
theorem lp_letI {pl row sym q : Int} {Q : Option Value → PM → Prop} (h : Mr M m G) (hW : WFG G) (hT : Tr M m G) (hr : vrG G row) (h0 : 0 ≤ q) (h1 : q < sumL (lyG G) (rwG G row)) (h2 : inR q)
    (hk : Wp k_X10_letter (73, [(0, .ref m), (1, .int (I pl)), (2, .int (I row)), (3, .int (I (q - sumL (lyG G) ((rwG G row).take (posL (lyG G) (rwG G row) q).toNat)))), (4, .int (I sym)), (5, .int (I (posL (lyG G) (rwG G row) q)))], [], M) Q) (n : Nat) : ∀ (k r : Int), (0 ≤ k ∧ k ≤ posL (lyG G) (rwG G row) q ∧ posL (lyG G) (rwG G row) q - k < n ∧ r = q - sumL (lyG G) ((rwG G row).take k.toNat) ∧ k + posL (lyG G) ((rwG G row).drop k.toNat) r = posL (lyG G) (rwG G row) q) →
    Wp k_X10_letter (38, [(0, .ref m), (1, .int (I pl)), (2, .int (I row)), (3, .int (I r)), (4, .int (I sym)), (5, .int (I k))], [], M) Q := by
  obtain ⟨h21, h22⟩ := id h2
  have hN := h.le
  have hrl := h.rl hr
  have hpl := posL_lt (fun s => (lyG_bd hW s).1) (rwG G row) q h0 h1
  obtain ⟨⟨a, b, c, d, e, hO⟩, -⟩ := id h
  induction n with
  | zero => intro k r hi; exfalso; omega
  | succ n ih =>
    rintro k r ⟨i1, i2, i3, i6, i7⟩
    have hkl : k < (rwG G row).length := by omega
    have hat := c_Md_at (p := k) h hr i1 hkl
    have hx := hW.sbr hN hr _ (rat_mem i1 hkl)
    have hxx : rat (rwG G row) k < 8 + G.1.length := by
      have hm := rat_mem i1 hkl
      rcases hr with rfl | hr
      · rw [rwM] at hm ⊢
        exact (hW.2.1 _ hm).2
      · have er : rwG G row = xof G.1 row.toNat := if_neg (by omega)
        rw [er] at hm ⊢
        have := (hW.1 _ (by omega) _ hm).2
        omega
    have hle := c_Md_letters (s := rat (rwG G row) k) h hT hx.1 hxx
    have hlb := lyG_bd hW (rat (rwG G row) k)
    have bz := sumL_bd (f := lyG G) (xs := (rwG G row).take k.toNat) (fun s _ => lyG_bd hW s)
    rw [List.length_take] at bz
    have hdr := drop1 (xs := rwG G row) (p := k.toNat) (by omega)
    rw [show ((k.toNat : Nat) : Int) = k by omega] at hdr
    rw [hdr, posL] at i7
    repeat (refine wf rfl ?_; first | refine wq_iadd ?_ | refine wq_isub ?_ | refine wq_imul ?_ | refine wq_iinc rfl ?_ | refine wq_goto ?_ | refine wq_k rfl ?_ | refine wq_b rfl rfl ?_ | refine wq_getf (by assumption) rfl ?_ | refine wq_alen (by assumption) rfl ?_)
    refine wf rfl (wq_cv rfl rfl rfl hO (hat.mono ?_))
    rintro v M ⟨rfl, rfl⟩
    refine wf rfl (wq_cv rfl rfl rfl hO (hle.mono ?_))
    rintro v M ⟨rfl, rfl⟩
    refine wf rfl (wq_lt ⟨by omega, by omega⟩ ⟨by omega, by omega⟩ (fun c2 => ?_) (fun c2 => ?_))
    · rw [if_pos c2] at i7
      have ek : posL (lyG G) (rwG G row) q = k := by omega
      rw [ek, ← i6] at hk
      have hst := fun (_ : True) => hk
      repeat' (first | (refine Wp.sub (hst  ?_) ⟨rfl, rfl, rfl, rfl, rfl, rfl, trivial⟩ rfl) | (refine wf rfl ?_; first | refine wq_iadd ?_ | refine wq_isub ?_ | refine wq_imul ?_ | refine wq_iinc rfl ?_ | refine wq_goto ?_ | refine wq_k rfl ?_ | refine wq_b rfl rfl ?_ | refine wq_getf (by assumption) rfl ?_ | refine wq_alen (by assumption) rfl ?_ | fail | (refine wq_eq ⟨by omega, by omega⟩ ⟨by omega, by omega⟩ (fun _ => ?_) (fun _ => ?_) <;> try (exfalso; omega)) | (refine wq_ne ⟨by omega, by omega⟩ ⟨by omega, by omega⟩ (fun _ => ?_) (fun _ => ?_) <;> try (exfalso; omega)) | (refine wq_lt ⟨by omega, by omega⟩ ⟨by omega, by omega⟩ (fun _ => ?_) (fun _ => ?_) <;> try (exfalso; omega)) | (refine wq_ge ⟨by omega, by omega⟩ ⟨by omega, by omega⟩ (fun _ => ?_) (fun _ => ?_) <;> try (exfalso; omega)) | (refine wq_gt ⟨by omega, by omega⟩ ⟨by omega, by omega⟩ (fun _ => ?_) (fun _ => ?_) <;> try (exfalso; omega)) | (refine wq_le ⟨by omega, by omega⟩ ⟨by omega, by omega⟩ (fun _ => ?_) (fun _ => ?_) <;> try (exfalso; omega)) | (refine wq_ifeq ⟨by omega, by omega⟩ (fun _ => ?_) (fun _ => ?_) <;> try (exfalso; omega)) | (refine wq_ifne ⟨by omega, by omega⟩ (fun _ => ?_) (fun _ => ?_) <;> try (exfalso; omega)) | (refine wq_iflt ⟨by omega, by omega⟩ (fun _ => ?_) (fun _ => ?_) <;> try (exfalso; omega)) | (refine wq_ifge ⟨by omega, by omega⟩ (fun _ => ?_) (fun _ => ?_) <;> try (exfalso; omega)) | (refine wq_ifgt ⟨by omega, by omega⟩ (fun _ => ?_) (fun _ => ?_) <;> try (exfalso; omega)) | (refine wq_ifle ⟨by omega, by omega⟩ (fun _ => ?_) (fun _ => ?_) <;> try (exfalso; omega)) | refine wq_r rfl rfl rfl rfl rfl rfl ?_))
      trivial
    · rw [if_neg (by omega)] at i7
      have hpb := posL_bd (lyG G) ((rwG G row).drop (k.toNat + 1)) (r - lyG G (rat (rwG G row) k))
      repeat (refine wf rfl ?_; first | refine wq_iadd ?_ | refine wq_isub ?_ | refine wq_imul ?_ | refine wq_iinc rfl ?_ | refine wq_goto ?_ | refine wq_k rfl ?_ | refine wq_b rfl rfl ?_ | refine wq_getf (by assumption) rfl ?_ | refine wq_alen (by assumption) rfl ?_)
      refine wf rfl (wq_cv rfl rfl rfl hO (hat.mono ?_))
      rintro v M ⟨rfl, rfl⟩
      refine wf rfl (wq_cv rfl rfl rfl hO (hle.mono ?_))
      rintro v M ⟨rfl, rfl⟩
      repeat' (first | (refine Wp.sub (ih _ _ ?_) ⟨rfl, rfl, rfl, rfl, rfl, rfl, trivial⟩ rfl) | (refine wf rfl ?_; first | refine wq_iadd ?_ | refine wq_isub ?_ | refine wq_imul ?_ | refine wq_iinc rfl ?_ | refine wq_goto ?_ | refine wq_k rfl ?_ | refine wq_b rfl rfl ?_ | refine wq_getf (by assumption) rfl ?_ | refine wq_alen (by assumption) rfl ?_ | fail | (refine wq_eq ⟨by omega, by omega⟩ ⟨by omega, by omega⟩ (fun _ => ?_) (fun _ => ?_) <;> try (exfalso; omega)) | (refine wq_ne ⟨by omega, by omega⟩ ⟨by omega, by omega⟩ (fun _ => ?_) (fun _ => ?_) <;> try (exfalso; omega)) | (refine wq_lt ⟨by omega, by omega⟩ ⟨by omega, by omega⟩ (fun _ => ?_) (fun _ => ?_) <;> try (exfalso; omega)) | (refine wq_ge ⟨by omega, by omega⟩ ⟨by omega, by omega⟩ (fun _ => ?_) (fun _ => ?_) <;> try (exfalso; omega)) | (refine wq_gt ⟨by omega, by omega⟩ ⟨by omega, by omega⟩ (fun _ => ?_) (fun _ => ?_) <;> try (exfalso; omega)) | (refine wq_le ⟨by omega, by omega⟩ ⟨by omega, by omega⟩ (fun _ => ?_) (fun _ => ?_) <;> try (exfalso; omega)) | (refine wq_ifeq ⟨by omega, by omega⟩ (fun _ => ?_) (fun _ => ?_) <;> try (exfalso; omega)) | (refine wq_ifne ⟨by omega, by omega⟩ (fun _ => ?_) (fun _ => ?_) <;> try (exfalso; omega)) | (refine wq_iflt ⟨by omega, by omega⟩ (fun _ => ?_) (fun _ => ?_) <;> try (exfalso; omega)) | (refine wq_ifge ⟨by omega, by omega⟩ (fun _ => ?_) (fun _ => ?_) <;> try (exfalso; omega)) | (refine wq_ifgt ⟨by omega, by omega⟩ (fun _ => ?_) (fun _ => ?_) <;> try (exfalso; omega)) | (refine wq_ifle ⟨by omega, by omega⟩ (fun _ => ?_) (fun _ => ?_) <;> try (exfalso; omega)) | refine wq_r rfl rfl rfl rfl rfl rfl ?_))
      exact ⟨by omega, by omega, by omega, by rw [sumL_take i1 hkl]; omega, by rw [show (k + 1).toNat = k.toNat + 1 by omega]; omega⟩
theorem lp_letter {pl : Int} {R : Int} (h : Mr M m G) (hW : WFG G) (hT : Tr M m G) (n : Nat) : ∀ (row q sym : Int), (vrG G row ∧ n ≤ G.1.length ∧ WFm n (rwG G row) ∧ 0 ≤ q ∧ q ≤ 9999 ∧ q < sumL (lyG G) (rwG G row) ∧ 8 ≤ sym ∧ sym < 100 ∧ (fol (lyG G) (xof G.1) n (rwG G row) q).1 = R) →
    ∀ k5 : LV, (k5 = [] ∨ ∃ v, k5 = [(5, v)]) → Wp k_X10_letter (27, [(0, .ref m), (1, .int (I pl)), (2, .int (I row)), (3, .int (I q)), (4, .int (I sym))] ++ k5, [], M) (fun v M' => v = some (.int (I R)) ∧ M' = M) := by
  have hN := h.le
  induction n with
  | zero =>
    rintro row q sym ⟨i1, i2, i3, i4, i5, i6, i7, i8, i9⟩ k5 hk5
    have hpl := posL_lt (fun s => (lyG_bd hW s).1) (rwG G row) q i4 i6
    have hpb := posL_bd (lyG G) (rwG G row) q
    have hx := i3 _ (rat_mem hpb.1 hpl.1)
    have hat := c_Md_at h i1 hpb.1 hpl.1
    have hrl := h.rl i1
    obtain ⟨⟨a, b, c, d, e, hO⟩, -⟩ := id h
    have hil := c_Md_isLetter (M := M) (s := sym) ⟨by omega, by omega⟩
    rw [if_neg (by omega)] at hil
    have hil2 := c_Md_isLetter (M := M) (s := rat (rwG G row) (posL (lyG G) (rwG G row) q)) ⟨by omega, by omega⟩
    rw [if_pos (by omega)] at hil2
    rw [fol] at i9
    have hin := lp_letI (pl := pl) (sym := sym) h hW hT i1 i4 i6 ⟨by omega, by omega⟩ (Q := fun v M' => v = some (.int (I R)) ∧ M' = M) (by
      repeat (refine wf rfl ?_; first | refine wq_iadd ?_ | refine wq_isub ?_ | refine wq_imul ?_ | refine wq_iinc rfl ?_ | refine wq_goto ?_ | refine wq_k rfl ?_ | refine wq_b rfl rfl ?_ | refine wq_getf (by assumption) rfl ?_ | refine wq_alen (by assumption) rfl ?_)
      refine wf rfl (wq_cv rfl rfl rfl hO (hat.mono ?_))
      rintro v M ⟨rfl, rfl⟩
      repeat (refine wf rfl ?_; first | refine wq_iadd ?_ | refine wq_isub ?_ | refine wq_imul ?_ | refine wq_iinc rfl ?_ | refine wq_goto ?_ | refine wq_k rfl ?_ | refine wq_b rfl rfl ?_ | refine wq_getf (by assumption) rfl ?_ | refine wq_alen (by assumption) rfl ?_)
      refine wf rfl (wq_cs rfl rfl (c_Md_ruleOf.mono ?_))
      rintro v M ⟨rfl, rfl⟩
      repeat (refine wf rfl ?_; first | refine wq_iadd ?_ | refine wq_isub ?_ | refine wq_imul ?_ | refine wq_iinc rfl ?_ | refine wq_goto ?_ | refine wq_k rfl ?_ | refine wq_b rfl rfl ?_ | refine wq_getf (by assumption) rfl ?_ | refine wq_alen (by assumption) rfl ?_)
      refine wf rfl (wq_cs rfl rfl (hil2.mono ?_))
      rintro v M ⟨rfl, rfl⟩
      repeat' (refine wf rfl ?_; first | refine wq_iadd ?_ | refine wq_isub ?_ | refine wq_imul ?_ | refine wq_iinc rfl ?_ | refine wq_goto ?_ | refine wq_k rfl ?_ | refine wq_b rfl rfl ?_ | refine wq_getf (by assumption) rfl ?_ | refine wq_alen (by assumption) rfl ?_ | (refine wq_eq ⟨by omega, by omega⟩ ⟨by omega, by omega⟩ (fun _ => ?_) (fun _ => ?_) <;> try (exfalso; omega)) | (refine wq_ne ⟨by omega, by omega⟩ ⟨by omega, by omega⟩ (fun _ => ?_) (fun _ => ?_) <;> try (exfalso; omega)) | (refine wq_lt ⟨by omega, by omega⟩ ⟨by omega, by omega⟩ (fun _ => ?_) (fun _ => ?_) <;> try (exfalso; omega)) | (refine wq_ge ⟨by omega, by omega⟩ ⟨by omega, by omega⟩ (fun _ => ?_) (fun _ => ?_) <;> try (exfalso; omega)) | (refine wq_gt ⟨by omega, by omega⟩ ⟨by omega, by omega⟩ (fun _ => ?_) (fun _ => ?_) <;> try (exfalso; omega)) | (refine wq_le ⟨by omega, by omega⟩ ⟨by omega, by omega⟩ (fun _ => ?_) (fun _ => ?_) <;> try (exfalso; omega)) | (refine wq_ifeq ⟨by omega, by omega⟩ (fun _ => ?_) (fun _ => ?_) <;> try (exfalso; omega)) | (refine wq_ifne ⟨by omega, by omega⟩ (fun _ => ?_) (fun _ => ?_) <;> try (exfalso; omega)) | (refine wq_iflt ⟨by omega, by omega⟩ (fun _ => ?_) (fun _ => ?_) <;> try (exfalso; omega)) | (refine wq_ifge ⟨by omega, by omega⟩ (fun _ => ?_) (fun _ => ?_) <;> try (exfalso; omega)) | (refine wq_ifgt ⟨by omega, by omega⟩ (fun _ => ?_) (fun _ => ?_) <;> try (exfalso; omega)) | (refine wq_ifle ⟨by omega, by omega⟩ (fun _ => ?_) (fun _ => ?_) <;> try (exfalso; omega)) | refine wq_r rfl rfl rfl rfl rfl rfl ?_)
      exact ⟨by rw [← i9], rfl⟩) 100
    rcases hk5 with rfl | ⟨v5, rfl⟩
    · repeat (refine wf rfl ?_; first | refine wq_iadd ?_ | refine wq_isub ?_ | refine wq_imul ?_ | refine wq_iinc rfl ?_ | refine wq_goto ?_ | refine wq_k rfl ?_ | refine wq_b rfl rfl ?_ | refine wq_getf (by assumption) rfl ?_ | refine wq_alen (by assumption) rfl ?_)
      refine wf rfl (wq_cs rfl rfl (hil.mono ?_))
      rintro v M ⟨rfl, rfl⟩
      repeat' (first | (refine Wp.sub (hin _ _ ?_) ⟨rfl, rfl, rfl, rfl, rfl, rfl, trivial⟩ rfl) | (refine wf rfl ?_; first | refine wq_iadd ?_ | refine wq_isub ?_ | refine wq_imul ?_ | refine wq_iinc rfl ?_ | refine wq_goto ?_ | refine wq_k rfl ?_ | refine wq_b rfl rfl ?_ | refine wq_getf (by assumption) rfl ?_ | refine wq_alen (by assumption) rfl ?_ | fail | (refine wq_eq ⟨by omega, by omega⟩ ⟨by omega, by omega⟩ (fun _ => ?_) (fun _ => ?_) <;> try (exfalso; omega)) | (refine wq_ne ⟨by omega, by omega⟩ ⟨by omega, by omega⟩ (fun _ => ?_) (fun _ => ?_) <;> try (exfalso; omega)) | (refine wq_lt ⟨by omega, by omega⟩ ⟨by omega, by omega⟩ (fun _ => ?_) (fun _ => ?_) <;> try (exfalso; omega)) | (refine wq_ge ⟨by omega, by omega⟩ ⟨by omega, by omega⟩ (fun _ => ?_) (fun _ => ?_) <;> try (exfalso; omega)) | (refine wq_gt ⟨by omega, by omega⟩ ⟨by omega, by omega⟩ (fun _ => ?_) (fun _ => ?_) <;> try (exfalso; omega)) | (refine wq_le ⟨by omega, by omega⟩ ⟨by omega, by omega⟩ (fun _ => ?_) (fun _ => ?_) <;> try (exfalso; omega)) | (refine wq_ifeq ⟨by omega, by omega⟩ (fun _ => ?_) (fun _ => ?_) <;> try (exfalso; omega)) | (refine wq_ifne ⟨by omega, by omega⟩ (fun _ => ?_) (fun _ => ?_) <;> try (exfalso; omega)) | (refine wq_iflt ⟨by omega, by omega⟩ (fun _ => ?_) (fun _ => ?_) <;> try (exfalso; omega)) | (refine wq_ifge ⟨by omega, by omega⟩ (fun _ => ?_) (fun _ => ?_) <;> try (exfalso; omega)) | (refine wq_ifgt ⟨by omega, by omega⟩ (fun _ => ?_) (fun _ => ?_) <;> try (exfalso; omega)) | (refine wq_ifle ⟨by omega, by omega⟩ (fun _ => ?_) (fun _ => ?_) <;> try (exfalso; omega)) | refine wq_r rfl rfl rfl rfl rfl rfl ?_))
      exact ⟨by omega, by omega, by omega, by simp [sumL], by simp⟩
    · repeat (refine wf rfl ?_; first | refine wq_iadd ?_ | refine wq_isub ?_ | refine wq_imul ?_ | refine wq_iinc rfl ?_ | refine wq_goto ?_ | refine wq_k rfl ?_ | refine wq_b rfl rfl ?_ | refine wq_getf (by assumption) rfl ?_ | refine wq_alen (by assumption) rfl ?_)
      refine wf rfl (wq_cs rfl rfl (hil.mono ?_))
      rintro v M ⟨rfl, rfl⟩
      repeat' (first | (refine Wp.sub (hin _ _ ?_) ⟨rfl, rfl, rfl, rfl, rfl, rfl, trivial⟩ rfl) | (refine wf rfl ?_; first | refine wq_iadd ?_ | refine wq_isub ?_ | refine wq_imul ?_ | refine wq_iinc rfl ?_ | refine wq_goto ?_ | refine wq_k rfl ?_ | refine wq_b rfl rfl ?_ | refine wq_getf (by assumption) rfl ?_ | refine wq_alen (by assumption) rfl ?_ | fail | (refine wq_eq ⟨by omega, by omega⟩ ⟨by omega, by omega⟩ (fun _ => ?_) (fun _ => ?_) <;> try (exfalso; omega)) | (refine wq_ne ⟨by omega, by omega⟩ ⟨by omega, by omega⟩ (fun _ => ?_) (fun _ => ?_) <;> try (exfalso; omega)) | (refine wq_lt ⟨by omega, by omega⟩ ⟨by omega, by omega⟩ (fun _ => ?_) (fun _ => ?_) <;> try (exfalso; omega)) | (refine wq_ge ⟨by omega, by omega⟩ ⟨by omega, by omega⟩ (fun _ => ?_) (fun _ => ?_) <;> try (exfalso; omega)) | (refine wq_gt ⟨by omega, by omega⟩ ⟨by omega, by omega⟩ (fun _ => ?_) (fun _ => ?_) <;> try (exfalso; omega)) | (refine wq_le ⟨by omega, by omega⟩ ⟨by omega, by omega⟩ (fun _ => ?_) (fun _ => ?_) <;> try (exfalso; omega)) | (refine wq_ifeq ⟨by omega, by omega⟩ (fun _ => ?_) (fun _ => ?_) <;> try (exfalso; omega)) | (refine wq_ifne ⟨by omega, by omega⟩ (fun _ => ?_) (fun _ => ?_) <;> try (exfalso; omega)) | (refine wq_iflt ⟨by omega, by omega⟩ (fun _ => ?_) (fun _ => ?_) <;> try (exfalso; omega)) | (refine wq_ifge ⟨by omega, by omega⟩ (fun _ => ?_) (fun _ => ?_) <;> try (exfalso; omega)) | (refine wq_ifgt ⟨by omega, by omega⟩ (fun _ => ?_) (fun _ => ?_) <;> try (exfalso; omega)) | (refine wq_ifle ⟨by omega, by omega⟩ (fun _ => ?_) (fun _ => ?_) <;> try (exfalso; omega)) | refine wq_r rfl rfl rfl rfl rfl rfl ?_))
      exact ⟨by omega, by omega, by omega, by simp [sumL], by simp⟩
  | succ n ih =>
    rintro row q sym ⟨i1, i2, i3, i4, i5, i6, i7, i8, i9⟩ k5 hk5
    have hpl := posL_lt (fun s => (lyG_bd hW s).1) (rwG G row) q i4 i6
    have hpb := posL_bd (lyG G) (rwG G row) q
    have hx := i3 _ (rat_mem hpb.1 hpl.1)
    have hat := c_Md_at h i1 hpb.1 hpl.1
    have hrl := h.rl i1
    obtain ⟨⟨a, b, c, d, e, hO⟩, -⟩ := id h
    have hil := c_Md_isLetter (M := M) (s := sym) ⟨by omega, by omega⟩
    rw [if_neg (by omega)] at hil
    have hil2 := c_Md_isLetter (M := M) (s := rat (rwG G row) (posL (lyG G) (rwG G row) q)) ⟨by omega, by omega⟩
    rw [fol] at i9
    have hin := lp_letI (pl := pl) (sym := sym) h hW hT i1 i4 i6 ⟨by omega, by omega⟩ (Q := fun v M' => v = some (.int (I R)) ∧ M' = M) (by
      repeat (refine wf rfl ?_; first | refine wq_iadd ?_ | refine wq_isub ?_ | refine wq_imul ?_ | refine wq_iinc rfl ?_ | refine wq_goto ?_ | refine wq_k rfl ?_ | refine wq_b rfl rfl ?_ | refine wq_getf (by assumption) rfl ?_ | refine wq_alen (by assumption) rfl ?_)
      refine wf rfl (wq_cv rfl rfl rfl hO (hat.mono ?_))
      rintro v M ⟨rfl, rfl⟩
      repeat (refine wf rfl ?_; first | refine wq_iadd ?_ | refine wq_isub ?_ | refine wq_imul ?_ | refine wq_iinc rfl ?_ | refine wq_goto ?_ | refine wq_k rfl ?_ | refine wq_b rfl rfl ?_ | refine wq_getf (by assumption) rfl ?_ | refine wq_alen (by assumption) rfl ?_)
      refine wf rfl (wq_cs rfl rfl (c_Md_ruleOf.mono ?_))
      rintro v M ⟨rfl, rfl⟩
      by_cases hc : 8 ≤ rat (rwG G row) (posL (lyG G) (rwG G row) q)
      · rw [if_pos hc] at i9
        have hru : (rat (rwG G row) (posL (lyG G) (rwG G row) q) - 8).toNat < G.1.length := by omega
        have er : rwG G (rat (rwG G row) (posL (lyG G) (rwG G row) q) - 8) = xof G.1 (rat (rwG G row) (posL (lyG G) (rwG G row) q) - 8).toNat := if_neg (by omega)
        have hfx := ltG_fix hW hru
        have hly := lyG_rule (G := G) (s := rat (rwG G row) (posL (lyG G) (rwG G row) q)) hc (by omega)
        rw [Int.min_eq_left (by omega)] at i9
        have hst := ih (rat (rwG G row) (posL (lyG G) (rwG G row) q) - 8) (q - sumL (lyG G) ((rwG G row).take (posL (lyG G) (rwG G row) q).toNat)) (rat (rwG G row) (posL (lyG G) (rwG G row) q)) ⟨Or.inr ⟨by omega, by omega⟩, by omega, by
          rw [er]
          intro s hs
          have := hW.1 _ hru s hs
          omega, by omega, by omega, by rw [er]; omega, hc, by omega, by rw [er, ← i9]⟩ [] (Or.inl rfl)
        have hst2 := fun (_ : True) => hst
        repeat' (first | (refine Wp.sub (hst2  ?_) ⟨rfl, rfl, rfl, rfl, rfl, trivial⟩ rfl) | (refine wf rfl ?_; first | refine wq_iadd ?_ | refine wq_isub ?_ | refine wq_imul ?_ | refine wq_iinc rfl ?_ | refine wq_goto ?_ | refine wq_k rfl ?_ | refine wq_b rfl rfl ?_ | refine wq_getf (by assumption) rfl ?_ | refine wq_alen (by assumption) rfl ?_ | fail | (refine wq_eq ⟨by omega, by omega⟩ ⟨by omega, by omega⟩ (fun _ => ?_) (fun _ => ?_) <;> try (exfalso; omega)) | (refine wq_ne ⟨by omega, by omega⟩ ⟨by omega, by omega⟩ (fun _ => ?_) (fun _ => ?_) <;> try (exfalso; omega)) | (refine wq_lt ⟨by omega, by omega⟩ ⟨by omega, by omega⟩ (fun _ => ?_) (fun _ => ?_) <;> try (exfalso; omega)) | (refine wq_ge ⟨by omega, by omega⟩ ⟨by omega, by omega⟩ (fun _ => ?_) (fun _ => ?_) <;> try (exfalso; omega)) | (refine wq_gt ⟨by omega, by omega⟩ ⟨by omega, by omega⟩ (fun _ => ?_) (fun _ => ?_) <;> try (exfalso; omega)) | (refine wq_le ⟨by omega, by omega⟩ ⟨by omega, by omega⟩ (fun _ => ?_) (fun _ => ?_) <;> try (exfalso; omega)) | (refine wq_ifeq ⟨by omega, by omega⟩ (fun _ => ?_) (fun _ => ?_) <;> try (exfalso; omega)) | (refine wq_ifne ⟨by omega, by omega⟩ (fun _ => ?_) (fun _ => ?_) <;> try (exfalso; omega)) | (refine wq_iflt ⟨by omega, by omega⟩ (fun _ => ?_) (fun _ => ?_) <;> try (exfalso; omega)) | (refine wq_ifge ⟨by omega, by omega⟩ (fun _ => ?_) (fun _ => ?_) <;> try (exfalso; omega)) | (refine wq_ifgt ⟨by omega, by omega⟩ (fun _ => ?_) (fun _ => ?_) <;> try (exfalso; omega)) | (refine wq_ifle ⟨by omega, by omega⟩ (fun _ => ?_) (fun _ => ?_) <;> try (exfalso; omega)) | refine wq_r rfl rfl rfl rfl rfl rfl ?_))
        trivial
      · rw [if_neg hc] at i9
        rw [if_pos (by omega)] at hil2
        repeat (refine wf rfl ?_; first | refine wq_iadd ?_ | refine wq_isub ?_ | refine wq_imul ?_ | refine wq_iinc rfl ?_ | refine wq_goto ?_ | refine wq_k rfl ?_ | refine wq_b rfl rfl ?_ | refine wq_getf (by assumption) rfl ?_ | refine wq_alen (by assumption) rfl ?_)
        refine wf rfl (wq_cs rfl rfl (hil2.mono ?_))
        rintro v M ⟨rfl, rfl⟩
        repeat' (refine wf rfl ?_; first | refine wq_iadd ?_ | refine wq_isub ?_ | refine wq_imul ?_ | refine wq_iinc rfl ?_ | refine wq_goto ?_ | refine wq_k rfl ?_ | refine wq_b rfl rfl ?_ | refine wq_getf (by assumption) rfl ?_ | refine wq_alen (by assumption) rfl ?_ | (refine wq_eq ⟨by omega, by omega⟩ ⟨by omega, by omega⟩ (fun _ => ?_) (fun _ => ?_) <;> try (exfalso; omega)) | (refine wq_ne ⟨by omega, by omega⟩ ⟨by omega, by omega⟩ (fun _ => ?_) (fun _ => ?_) <;> try (exfalso; omega)) | (refine wq_lt ⟨by omega, by omega⟩ ⟨by omega, by omega⟩ (fun _ => ?_) (fun _ => ?_) <;> try (exfalso; omega)) | (refine wq_ge ⟨by omega, by omega⟩ ⟨by omega, by omega⟩ (fun _ => ?_) (fun _ => ?_) <;> try (exfalso; omega)) | (refine wq_gt ⟨by omega, by omega⟩ ⟨by omega, by omega⟩ (fun _ => ?_) (fun _ => ?_) <;> try (exfalso; omega)) | (refine wq_le ⟨by omega, by omega⟩ ⟨by omega, by omega⟩ (fun _ => ?_) (fun _ => ?_) <;> try (exfalso; omega)) | (refine wq_ifeq ⟨by omega, by omega⟩ (fun _ => ?_) (fun _ => ?_) <;> try (exfalso; omega)) | (refine wq_ifne ⟨by omega, by omega⟩ (fun _ => ?_) (fun _ => ?_) <;> try (exfalso; omega)) | (refine wq_iflt ⟨by omega, by omega⟩ (fun _ => ?_) (fun _ => ?_) <;> try (exfalso; omega)) | (refine wq_ifge ⟨by omega, by omega⟩ (fun _ => ?_) (fun _ => ?_) <;> try (exfalso; omega)) | (refine wq_ifgt ⟨by omega, by omega⟩ (fun _ => ?_) (fun _ => ?_) <;> try (exfalso; omega)) | (refine wq_ifle ⟨by omega, by omega⟩ (fun _ => ?_) (fun _ => ?_) <;> try (exfalso; omega)) | refine wq_r rfl rfl rfl rfl rfl rfl ?_)
        exact ⟨by rw [← i9], rfl⟩) 100
    rcases hk5 with rfl | ⟨v5, rfl⟩
    · repeat (refine wf rfl ?_; first | refine wq_iadd ?_ | refine wq_isub ?_ | refine wq_imul ?_ | refine wq_iinc rfl ?_ | refine wq_goto ?_ | refine wq_k rfl ?_ | refine wq_b rfl rfl ?_ | refine wq_getf (by assumption) rfl ?_ | refine wq_alen (by assumption) rfl ?_)
      refine wf rfl (wq_cs rfl rfl (hil.mono ?_))
      rintro v M ⟨rfl, rfl⟩
      repeat' (first | (refine Wp.sub (hin _ _ ?_) ⟨rfl, rfl, rfl, rfl, rfl, rfl, trivial⟩ rfl) | (refine wf rfl ?_; first | refine wq_iadd ?_ | refine wq_isub ?_ | refine wq_imul ?_ | refine wq_iinc rfl ?_ | refine wq_goto ?_ | refine wq_k rfl ?_ | refine wq_b rfl rfl ?_ | refine wq_getf (by assumption) rfl ?_ | refine wq_alen (by assumption) rfl ?_ | fail | (refine wq_eq ⟨by omega, by omega⟩ ⟨by omega, by omega⟩ (fun _ => ?_) (fun _ => ?_) <;> try (exfalso; omega)) | (refine wq_ne ⟨by omega, by omega⟩ ⟨by omega, by omega⟩ (fun _ => ?_) (fun _ => ?_) <;> try (exfalso; omega)) | (refine wq_lt ⟨by omega, by omega⟩ ⟨by omega, by omega⟩ (fun _ => ?_) (fun _ => ?_) <;> try (exfalso; omega)) | (refine wq_ge ⟨by omega, by omega⟩ ⟨by omega, by omega⟩ (fun _ => ?_) (fun _ => ?_) <;> try (exfalso; omega)) | (refine wq_gt ⟨by omega, by omega⟩ ⟨by omega, by omega⟩ (fun _ => ?_) (fun _ => ?_) <;> try (exfalso; omega)) | (refine wq_le ⟨by omega, by omega⟩ ⟨by omega, by omega⟩ (fun _ => ?_) (fun _ => ?_) <;> try (exfalso; omega)) | (refine wq_ifeq ⟨by omega, by omega⟩ (fun _ => ?_) (fun _ => ?_) <;> try (exfalso; omega)) | (refine wq_ifne ⟨by omega, by omega⟩ (fun _ => ?_) (fun _ => ?_) <;> try (exfalso; omega)) | (refine wq_iflt ⟨by omega, by omega⟩ (fun _ => ?_) (fun _ => ?_) <;> try (exfalso; omega)) | (refine wq_ifge ⟨by omega, by omega⟩ (fun _ => ?_) (fun _ => ?_) <;> try (exfalso; omega)) | (refine wq_ifgt ⟨by omega, by omega⟩ (fun _ => ?_) (fun _ => ?_) <;> try (exfalso; omega)) | (refine wq_ifle ⟨by omega, by omega⟩ (fun _ => ?_) (fun _ => ?_) <;> try (exfalso; omega)) | refine wq_r rfl rfl rfl rfl rfl rfl ?_))
      exact ⟨by omega, by omega, by omega, by simp [sumL], by simp⟩
    · repeat (refine wf rfl ?_; first | refine wq_iadd ?_ | refine wq_isub ?_ | refine wq_imul ?_ | refine wq_iinc rfl ?_ | refine wq_goto ?_ | refine wq_k rfl ?_ | refine wq_b rfl rfl ?_ | refine wq_getf (by assumption) rfl ?_ | refine wq_alen (by assumption) rfl ?_)
      refine wf rfl (wq_cs rfl rfl (hil.mono ?_))
      rintro v M ⟨rfl, rfl⟩
      repeat' (first | (refine Wp.sub (hin _ _ ?_) ⟨rfl, rfl, rfl, rfl, rfl, rfl, trivial⟩ rfl) | (refine wf rfl ?_; first | refine wq_iadd ?_ | refine wq_isub ?_ | refine wq_imul ?_ | refine wq_iinc rfl ?_ | refine wq_goto ?_ | refine wq_k rfl ?_ | refine wq_b rfl rfl ?_ | refine wq_getf (by assumption) rfl ?_ | refine wq_alen (by assumption) rfl ?_ | fail | (refine wq_eq ⟨by omega, by omega⟩ ⟨by omega, by omega⟩ (fun _ => ?_) (fun _ => ?_) <;> try (exfalso; omega)) | (refine wq_ne ⟨by omega, by omega⟩ ⟨by omega, by omega⟩ (fun _ => ?_) (fun _ => ?_) <;> try (exfalso; omega)) | (refine wq_lt ⟨by omega, by omega⟩ ⟨by omega, by omega⟩ (fun _ => ?_) (fun _ => ?_) <;> try (exfalso; omega)) | (refine wq_ge ⟨by omega, by omega⟩ ⟨by omega, by omega⟩ (fun _ => ?_) (fun _ => ?_) <;> try (exfalso; omega)) | (refine wq_gt ⟨by omega, by omega⟩ ⟨by omega, by omega⟩ (fun _ => ?_) (fun _ => ?_) <;> try (exfalso; omega)) | (refine wq_le ⟨by omega, by omega⟩ ⟨by omega, by omega⟩ (fun _ => ?_) (fun _ => ?_) <;> try (exfalso; omega)) | (refine wq_ifeq ⟨by omega, by omega⟩ (fun _ => ?_) (fun _ => ?_) <;> try (exfalso; omega)) | (refine wq_ifne ⟨by omega, by omega⟩ (fun _ => ?_) (fun _ => ?_) <;> try (exfalso; omega)) | (refine wq_iflt ⟨by omega, by omega⟩ (fun _ => ?_) (fun _ => ?_) <;> try (exfalso; omega)) | (refine wq_ifge ⟨by omega, by omega⟩ (fun _ => ?_) (fun _ => ?_) <;> try (exfalso; omega)) | (refine wq_ifgt ⟨by omega, by omega⟩ (fun _ => ?_) (fun _ => ?_) <;> try (exfalso; omega)) | (refine wq_ifle ⟨by omega, by omega⟩ (fun _ => ?_) (fun _ => ?_) <;> try (exfalso; omega)) | refine wq_r rfl rfl rfl rfl rfl rfl ?_))
      exact ⟨by omega, by omega, by omega, by simp [sumL], by simp⟩
theorem c_Md_letter {q : Int} (hq : inR q) (h : Mr M m G) (hW : WFG G) (hT : ∃ t, M[m + 7]? = some (aJ 27 t)) : Wm 167 [.ref m, .int (I q)] M (fun v M' => v = some (.int (I (if 0 ≤ q ∧ q < wlG G then (fol (lyG G) (xof G.1) G.1.length G.2 q).1 else -1))) ∧ Fr (fun z => z = m + 7) M M') := by
  obtain ⟨hq1, hq2⟩ := id hq
  obtain ⟨⟨a, b, c, d, e, hO⟩, -⟩ := id h
  have hwb := wlG_bd hW
  refine wm_in (lv := _) rfl rfl rfl ?_
  repeat (refine wf rfl ?_; first | refine wq_iadd ?_ | refine wq_isub ?_ | refine wq_imul ?_ | refine wq_iinc rfl ?_ | refine wq_goto ?_ | refine wq_k rfl ?_ | refine wq_b rfl rfl ?_ | refine wq_getf (by assumption) rfl ?_ | refine wq_alen (by assumption) rfl ?_)
  refine wf rfl (wq_cv rfl rfl rfl hO ((c_Md_wordLong h hW hT).mono ?_))
  rintro v M1 ⟨rfl, f1, hT1⟩
  have h1 := h.fr f1 (by omega) (by omega)
  repeat (refine wf rfl ?_; first | refine wq_iadd ?_ | refine wq_isub ?_ | refine wq_imul ?_ | refine wq_iinc rfl ?_ | refine wq_goto ?_ | refine wq_k rfl ?_ | refine wq_b rfl rfl ?_ | refine wq_getf (by assumption) rfl ?_ | refine wq_alen (by assumption) rfl ?_)
  refine wf rfl (wq_cs rfl rfl ((c_in0 hq (w := wlG G) ⟨by omega, by omega⟩).mono ?_))
  rintro v M1 ⟨rfl, rfl⟩
  by_cases hc : 0 ≤ q ∧ q < wlG G
  · rw [if_pos hc, if_pos hc]
    have hw : wlG G = min (sumL (lyG G) G.2) 10000 := rfl
    have hst := lp_letter (pl := q) (R := (fol (lyG G) (xof G.1) G.1.length G.2 q).1) h1 hW hT1.tr G.1.length 26 q 8 ⟨vrM G, Nat.le_refl _, by rw [rwM]; exact hW.2.1, hc.1, by omega, by rw [rwM]; omega, by omega, by omega, by rw [rwM]⟩ [] (Or.inl rfl)
    have hst2 := fun (_ : True) => hst.mono (Q' := fun v M' => v = some (.int (I (fol (lyG G) (xof G.1) G.1.length G.2 q).1)) ∧ Fr (fun z => z = m + 7) M M') (fun v M' hv => ⟨hv.1, by rw [hv.2]; exact f1⟩)
    refine wf rfl (wq_ifne ⟨by omega, by omega⟩ (fun _ => ?_) (fun c9 => by exfalso; omega))
    repeat' (first | (refine Wp.sub (hst2  ?_) ⟨rfl, rfl, rfl, rfl, rfl, trivial⟩ rfl) | (refine wf rfl ?_; first | refine wq_iadd ?_ | refine wq_isub ?_ | refine wq_imul ?_ | refine wq_iinc rfl ?_ | refine wq_goto ?_ | refine wq_k rfl ?_ | refine wq_b rfl rfl ?_ | refine wq_getf (by assumption) rfl ?_ | refine wq_alen (by assumption) rfl ?_ | fail | (refine wq_eq ⟨by omega, by omega⟩ ⟨by omega, by omega⟩ (fun _ => ?_) (fun _ => ?_) <;> try (exfalso; omega)) | (refine wq_ne ⟨by omega, by omega⟩ ⟨by omega, by omega⟩ (fun _ => ?_) (fun _ => ?_) <;> try (exfalso; omega)) | (refine wq_lt ⟨by omega, by omega⟩ ⟨by omega, by omega⟩ (fun _ => ?_) (fun _ => ?_) <;> try (exfalso; omega)) | (refine wq_ge ⟨by omega, by omega⟩ ⟨by omega, by omega⟩ (fun _ => ?_) (fun _ => ?_) <;> try (exfalso; omega)) | (refine wq_gt ⟨by omega, by omega⟩ ⟨by omega, by omega⟩ (fun _ => ?_) (fun _ => ?_) <;> try (exfalso; omega)) | (refine wq_le ⟨by omega, by omega⟩ ⟨by omega, by omega⟩ (fun _ => ?_) (fun _ => ?_) <;> try (exfalso; omega)) | (refine wq_ifeq ⟨by omega, by omega⟩ (fun _ => ?_) (fun _ => ?_) <;> try (exfalso; omega)) | (refine wq_ifne ⟨by omega, by omega⟩ (fun _ => ?_) (fun _ => ?_) <;> try (exfalso; omega)) | (refine wq_iflt ⟨by omega, by omega⟩ (fun _ => ?_) (fun _ => ?_) <;> try (exfalso; omega)) | (refine wq_ifge ⟨by omega, by omega⟩ (fun _ => ?_) (fun _ => ?_) <;> try (exfalso; omega)) | (refine wq_ifgt ⟨by omega, by omega⟩ (fun _ => ?_) (fun _ => ?_) <;> try (exfalso; omega)) | (refine wq_ifle ⟨by omega, by omega⟩ (fun _ => ?_) (fun _ => ?_) <;> try (exfalso; omega)) | refine wq_r rfl rfl rfl rfl rfl rfl ?_))
    trivial
  · rw [if_neg hc, if_neg hc]
    repeat' (refine wf rfl ?_; first | refine wq_iadd ?_ | refine wq_isub ?_ | refine wq_imul ?_ | refine wq_iinc rfl ?_ | refine wq_goto ?_ | refine wq_k rfl ?_ | refine wq_b rfl rfl ?_ | refine wq_getf (by assumption) rfl ?_ | refine wq_alen (by assumption) rfl ?_ | (refine wq_eq ⟨by omega, by omega⟩ ⟨by omega, by omega⟩ (fun _ => ?_) (fun _ => ?_) <;> try (exfalso; omega)) | (refine wq_ne ⟨by omega, by omega⟩ ⟨by omega, by omega⟩ (fun _ => ?_) (fun _ => ?_) <;> try (exfalso; omega)) | (refine wq_lt ⟨by omega, by omega⟩ ⟨by omega, by omega⟩ (fun _ => ?_) (fun _ => ?_) <;> try (exfalso; omega)) | (refine wq_ge ⟨by omega, by omega⟩ ⟨by omega, by omega⟩ (fun _ => ?_) (fun _ => ?_) <;> try (exfalso; omega)) | (refine wq_gt ⟨by omega, by omega⟩ ⟨by omega, by omega⟩ (fun _ => ?_) (fun _ => ?_) <;> try (exfalso; omega)) | (refine wq_le ⟨by omega, by omega⟩ ⟨by omega, by omega⟩ (fun _ => ?_) (fun _ => ?_) <;> try (exfalso; omega)) | (refine wq_ifeq ⟨by omega, by omega⟩ (fun _ => ?_) (fun _ => ?_) <;> try (exfalso; omega)) | (refine wq_ifne ⟨by omega, by omega⟩ (fun _ => ?_) (fun _ => ?_) <;> try (exfalso; omega)) | (refine wq_iflt ⟨by omega, by omega⟩ (fun _ => ?_) (fun _ => ?_) <;> try (exfalso; omega)) | (refine wq_ifge ⟨by omega, by omega⟩ (fun _ => ?_) (fun _ => ?_) <;> try (exfalso; omega)) | (refine wq_ifgt ⟨by omega, by omega⟩ (fun _ => ?_) (fun _ => ?_) <;> try (exfalso; omega)) | (refine wq_ifle ⟨by omega, by omega⟩ (fun _ => ?_) (fun _ => ?_) <;> try (exfalso; omega)) | refine wq_r rfl rfl rfl rfl rfl rfl ?_)
    exact ⟨rfl, f1⟩
end MD9
