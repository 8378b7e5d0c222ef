/-! What the calls answer, and the state behind them: the grammar, the pad, the history, the slots. -/
abbrev ST : Type := GS × List Int × List GS × (Nat → Option GS)
def accS (S : ST) (G : GS) : ST := (G, S.2.1, push S.2.2.1 S.1, S.2.2.2)
def tooB (G : GS) : Bool := decide (9999 < wlG G) || (List.range G.1.length).any (fun j => decide (9999 < ltG G j))
def szG (G : GS) : Int := (G.2.length : Int) + smN (fun j => ((xof G.1 j).length : Int)) G.1.length
def spTell (S : ST) : Int × ST :=
  if rdAns S.2.1 (rdRun S.2.1 (0, ([], []), []) 0) = -6 then
    (if tooB (rdRun S.2.1 (0, ([], []), []) 0).2.2.1 = true then (-4, S)
    else (wlG (rdRun S.2.1 (0, ([], []), []) 0).2.2.1, ((rdRun S.2.1 (0, ([], []), []) 0).2.2.1, [], push S.2.2.1 S.1, S.2.2.2)))
  else (-3, S)
def spFold (t : Int) (S : ST) : Int × ST :=
  if 1 ≤ t ∧ t ≤ 26 then (if (foldN t.toNat S.1).2 = 0 then (-5, S) else (((foldN t.toNat S.1).2 : Int), accS S (foldN t.toNat S.1).1)) else (-2, S)
def spUnroll (r : Int) (S : ST) : Int × ST :=
  if 0 ≤ r ∧ r < S.1.1.length then (if canB S.1 r.toNat = true then (usT S.1 r.toNat, accS S (unrG S.1 r.toNat)) else (-4, S)) else (-1, S)
def spPrune (S : ST) : Int × ST := (((prune 26 S.1).2 : Int), accS S (prune 26 S.1).1)
def opn (G : GS) (p : Int) : Option (List Int × Int) := opnF G.1.length (xof G.1) (lyG G) p 27 G.2
def spEdit (p l : Int) (S : ST) : Int × ST :=
  if 0 ≤ p ∧ p < wlG S.1 then (if 0 ≤ l ∧ l < 8 then (match opn S.1 p with
    | none => (-4, S)
    | some z => (rat z.1 z.2, accS S (S.1.1, rset z.1 z.2 l))) else (-2, S)) else (-1, S)
def spDelete (p : Int) (S : ST) : Int × ST :=
  if 0 ≤ p ∧ p < wlG S.1 then (match opn S.1 p with
    | none => (-4, S)
    | some z => (rat z.1 z.2, accS S (S.1.1, z.1.take z.2.toNat ++ z.1.drop (z.2.toNat + 1)))) else (-1, S)
/-- where a letter is put in: the main row then, and the place in it -/
def spotI (G : GS) (p : Int) : Option (List Int × Int) :=
  if sumL (lyG G) (G.2.take (posL (lyG G) G.2 p).toNat) = p then some (G.2, posL (lyG G) G.2 p) else opn G p
def spInsert (p l : Int) (S : ST) : Int × ST :=
  if 0 ≤ p ∧ p ≤ wlG S.1 then (if 0 ≤ l ∧ l < 8 then (match spotI S.1 p with
    | none => (-4, S)
    | some z => if wlG S.1 = 9999 ∨ z.1.length = 80 then (-4, S) else (wlG S.1 + 1, accS S (S.1.1, z.1.take z.2.toNat ++ l :: z.1.drop z.2.toNat))) else (-2, S)) else (-1, S)
def spLetter (p : Int) (G : GS) : Int := if 0 ≤ p ∧ p < wlG G then (fol (lyG G) (xof G.1) G.1.length G.2 p).1 else -1
def spOpens (p : Int) (G : GS) : Int := if 0 ≤ p ∧ p < wlG G then (fol (lyG G) (xof G.1) G.1.length G.2 p).2 else -1
def spRow (G : GS) (r : Int) : List Int := if 0 ≤ r ∧ r < G.1.length then xof G.1 r.toNat else G.2
def spSymbol (r p : Int) (G : GS) : Int := if r ≠ -6 ∧ ¬ (0 ≤ r ∧ r < G.1.length) then -1 else if 0 ≤ p ∧ p < (spRow G r).length then rat (spRow G r) p else -1
def spOfRule (r w : Int) (G : GS) : Int := if 0 ≤ r ∧ r < G.1.length then (if w = 0 then ((xof G.1 r.toNat).length : Int) else if w = 1 then ltG G r.toNat else if w = 2 then usT G r.toNat else if w = 3 then dpG G r.toNat else -2) else -1
def spCount (w : Int) (S : ST) : Int := if w = 0 then wlG S.1 else if w = 1 then (S.1.2.length : Int) else if w = 2 then (S.1.1.length : Int) else if w = 3 then szG S.1 else if w = 4 then mxN (dpG S.1) S.1.1.length else if w = 5 then smN (fun j => if usT S.1 j = 0 then 1 else 0) S.1.1.length else if w = 6 then (S.2.1.length : Int) else if w = 7 then (S.2.2.1.length : Int) else -2
def isSy (G : GS) (s : Int) : Prop := 0 ≤ s ∧ s < 8 + G.1.length
def spPair (f s : Int) (G : GS) : Int := if (0 ≤ f ∧ f < 8 + G.1.length) ∧ (0 ≤ s ∧ s < 8 + G.1.length) then (cnt2 f s G.2 : Int) else -1
def spBest (w : Int) (G : GS) : Int := if 0 ≤ w ∧ w ≤ 2 then (if G.2.length < 2 then -6 else if w = 0 then (bstAll G.2 0 0).1 else if w = 1 then (bstAll G.2 0 0).2.1 else (bstAll G.2 0 0).2.2) else -2
def spCould (G : GS) : Int := szG (prune 26 (foldN 26 G).1).1
def spWipe (S : ST) : Int × ST := ((S.2.1.length : Int), (S.1, [], S.2.2.1, S.2.2.2))
def spFault (S : ST) : Int := rdAns S.2.1 (rdRun S.2.1 (0, ([], []), []) 0)
def spUndo (S : ST) : Int × ST := match S.2.2.1.getLast? with
  | none => (-5, S)
  | some G => ((S.2.2.1.length : Int) - 1, (G, S.2.1, S.2.2.1.dropLast, S.2.2.2))
def spSave (i : Int) (S : ST) : Int × ST := if 0 ≤ i ∧ i < 2 then ((S.1.1.length : Int), (S.1, S.2.1, S.2.2.1, fun j => if j = i.toNat then some S.1 else S.2.2.2 j)) else (-2, S)
def spRestore (i : Int) (S : ST) : Int × ST := if 0 ≤ i ∧ i < 2 then (match S.2.2.2 i.toNat with
  | none => (-5, S)
  | some G => ((G.1.length : Int), accS S G)) else (-2, S)
/-! The Model's whole state. -/
def inM (m q : Nat) : Prop := m ≤ q ∧ q < m + 15
def WA (M : PM) (m : Nat) : Prop := (∃ f, M[m + 2]? = some (aJ 2188 f)) ∧ (∃ f, M[m + 3]? = some (aJ 2188 f)) ∧ (∃ f, M[m + 7]? = some (aJ 27 f)) ∧ (∃ f, M[m + 8]? = some (aJ 26 f)) ∧ (∃ f, M[m + 9]? = some (aJ 9999 f)) ∧ (∃ f, M[m + 10]? = some (aJ 9999 f)) ∧ (∃ f, M[m + 11]? = some (aJ 28 f)) ∧ (∃ f, M[m + 12]? = some (aJ 28 f)) ∧ (∃ f, M[m + 13]? = some (aJ 80 f))
theorem WA.fr {P : Nat → Prop} {M M' : PM} {m : Nat} (h : WA M m) (k : Fr P M M') : WA M' m := by
  obtain ⟨a, b, c, d, e, f, g, h, i⟩ := h
  exact ⟨k.arr a, k.arr b, k.arr c, k.arr d, k.arr e, k.arr f, k.arr g, k.arr h, k.arr i⟩
def HA (M : PM) (m : Nat) (hist : List GS) : Prop := (∃ f, M[m + 4]? = some (aJ 13128 f) ∧ HG f hist) ∧ hist.length ≤ 6
def SA (M : PM) (m : Nat) (sl : Nat → Option GS) : Prop := (∃ f, M[m + 5]? = some (aJ 4376 f) ∧ ∀ i G', i < 2 → sl i = some G' → Ga f (2188 * i) G') ∧ (∃ f, M[m + 6]? = some (aJ 2 f) ∧ ∀ i, i < 2 → f i = if (sl i).isSome then 1 else 0)
def PA (M : PM) (m : Nat) (pad : List Int) : Prop := (∃ f, M[m + 14]? = some (aJ 80 f) ∧ Lw f 0 pad) ∧ pad.length ≤ 80
def GA (M : PM) (m : Nat) (G : GS) : Prop := ∃ f, M[m + 1]? = some (aJ 2188 f) ∧ Ga f 0 G
def MS (M : PM) (m : Nat) (S : ST) : Prop := (∃ si re sp, MO M m (S.2.2.1.length : Nat) si re (S.2.1.length : Nat) sp) ∧ GA M m S.1 ∧ PA M m S.2.1 ∧ HA M m S.2.2.1 ∧ SA M m S.2.2.2 ∧ WA M m
theorem MS.mr {M : PM} {m : Nat} {S : ST} (h : MS M m S) : Mr M m S.1 := by
  obtain ⟨⟨si, re, sp, hO⟩, ⟨f, h1, h2⟩, -⟩ := h
  exact ⟨⟨_, _, _, _, _, hO⟩, f, h1, h2⟩
theorem HA.fr {P : Nat → Prop} {M M' : PM} {m : Nat} {hist : List GS} (h : HA M m hist) (k : Fr P M M') (h4 : ¬ P (m + 4)) : HA M' m hist := by
  obtain ⟨⟨f, a, b⟩, c⟩ := h
  exact ⟨⟨f, k.at h4 a, b⟩, c⟩
theorem PA.fr {P : Nat → Prop} {M M' : PM} {m : Nat} {pad : List Int} (h : PA M m pad) (k : Fr P M M') (h4 : ¬ P (m + 14)) : PA M' m pad := by
  obtain ⟨⟨f, a, b⟩, c⟩ := h
  exact ⟨⟨f, k.at h4 a, b⟩, c⟩
theorem SA.fr {P : Nat → Prop} {M M' : PM} {m : Nat} {sl : Nat → Option GS} (h : SA M m sl) (k : Fr P M M') (h5 : ¬ P (m + 5)) (h6 : ¬ P (m + 6)) : SA M' m sl := by
  obtain ⟨⟨f, a, b⟩, ⟨g, c, d⟩⟩ := h
  exact ⟨⟨f, k.at h5 a, b⟩, g, k.at h6 c, d⟩
theorem GA.fr {P : Nat → Prop} {M M' : PM} {m : Nat} {G : GS} (h : GA M m G) (k : Fr P M M') (h1 : ¬ P (m + 1)) : GA M' m G := by
  obtain ⟨f, a, b⟩ := h
  exact ⟨f, k.at h1 a, b⟩
/-- only the Model's work cells changed -/
theorem MS.work {P : Nat → Prop} {M M' : PM} {m : Nat} {S : ST} (h : MS M m S) (k : Fr P M M') (h0 : ¬ P m) (h1 : ¬ P (m + 1)) (h4 : ¬ P (m + 4)) (h5 : ¬ P (m + 5)) (h6 : ¬ P (m + 6)) (h14 : ¬ P (m + 14)) : MS M' m S := by
  obtain ⟨⟨si, re, sp, hO⟩, a, b, c, d, e⟩ := h
  exact ⟨⟨si, re, sp, k.at h0 hO⟩, a.fr k h1, b.fr k h14, c.fr k h4, d.fr k h5 h6, e.fr k⟩
theorem push_len {hist : List GS} {G : GS} (h : hist.length ≤ 6) : (push hist G).length ≤ 6 := by
  unfold push
  rw [List.length_append]
  split
  · rw [List.length_tail]; simp; omega
  · simp; omega
theorem smR_sz {G : GS} (hN : G.1.length ≤ 26) : smR G (fun xs => (xs.length : Int)) (G.1.length + 1) = szG G := by
  have h : ∀ k : Nat, k ≤ G.1.length → smR G (fun xs => (xs.length : Int)) k = smN (fun j => ((xof G.1 j).length : Int)) k := by
    intro k
    induction k with
    | zero => intro _; rw [smR, smN]
    | succ k ih => intro hk; rw [smR, smN, ih (by omega), rwN_lt (by omega) hN]
  rw [smR, h _ (Nat.le_refl _), rwN_ge G (Nat.le_refl _)]
  unfold szG
  omega
section MD12
variable {M : PM} {m : Nat} {S : ST}
/-- the end of a change: what was kept comes into the history -/
theorem c_Md_chg {P : Nat → Prop} {M1 : PM} {rs : Int} {G : GS} {fk : Nat → Int} (h : MS M m S) (f1 : Fr P M M1) (hP : ∀ q, P q → inM m q) (p4 : ¬ P (m + 4)) (p5 : ¬ P (m + 5)) (p6 : ¬ P (m + 6)) (p14 : ¬ P (m + 14)) (hO : ∃ si re sp, MO M1 m (S.2.2.1.length : Nat) si re (S.2.1.length : Nat) sp) (hK : M1[m + 2]? = some (aJ 2188 fk)) (hGk : Ga fk 0 S.1) (hG : GA M1 m G) : Wm 125 [.ref m, .int (I rs)] M1 (fun v M' => v = some (.int (I rs)) ∧ Fr (inM m) M M' ∧ MS M' m (accS S G)) := by
  obtain ⟨-, a, b, ⟨⟨f, c1, c2⟩, c3⟩, d, e⟩ := h
  obtain ⟨si, re, sp, hO⟩ := hO
  refine (c_Md_changed (rs := rs) hO c3 (f1.at p4 c1) c2 hK hGk).mono ?_
  rintro v M2 ⟨rfl, f2, hO2, g, g1, g2⟩
  exact ⟨rfl, (f1.mono hP).tr (f2.mono (fun q hq => by unfold inM; omega)), ⟨si, re, sp, hO2⟩, hG.fr f2 (by omega), (b.fr f1 p14).fr f2 (by omega), ⟨⟨g, g1, g2⟩, push_len c3⟩, (d.fr f1 p5 p6).fr f2 (by omega) (by omega), (e.fr f1).fr f2⟩
theorem Fr.tr2 {P P' : Nat → Prop} {M M1 M2 : PM} (h : Fr P M M1) (k : Fr P' M1 M2) : Fr (fun q => P q ∨ P' q) M M2 := (h.mono (fun q hq => Or.inl hq)).tr (k.mono (fun q hq => Or.inr hq))
theorem lp_mfoldN {t : Int} {T : GS × Nat} (ht : 1 ≤ t ∧ t ≤ 26) {Q : Option Value → PM → Prop}
    (hk : ∀ M1 : PM, Mr M1 m T.1 → Fr (fun q => q = m + 1) M M1 → Wp k_X10_fold (46, [(0, .ref m), (1, .int (I t)), (2, .int (I (T.2 : Int)))], [], M1) Q) (n : Nat) : ∀ (k : Int) (M1 : PM), (0 ≤ k ∧ k ≤ t ∧ t - k < n ∧ Fr (fun q => q = m + 1) M M1 ∧ ∃ G : GS, Mr M1 m G ∧ WFG G ∧ (foldN (t - k).toNat G).1 = T.1 ∧ k + ((foldN (t - k).toNat G).2 : Int) = T.2) →
    Wp k_X10_fold (28, [(0, .ref m), (1, .int (I t)), (2, .int (I k))], [], M1) Q := by
  induction n with
  | zero => intro k M1 hi; exfalso; omega
  | succ n ih =>
    rintro k M1 ⟨i1, i2, i3, i4, G, j1, j2, j3, j4⟩
    obtain ⟨⟨a, b, c, d, e, hO⟩, -⟩ := id j1
    have ex : (foldN (t - k).toNat G) = (G, 0) → Wp k_X10_fold (46, [(0, .ref m), (1, .int (I t)), (2, .int (I k))], [], M1) Q := by
      intro h0
      rw [h0] at j3 j4
      have := hk M1 (by rw [← j3]; exact j1) i4
      rw [show ((T.2 : Nat) : Int) = k by rw [← j4]; simp] at this
      exact this
    repeat (refine wf rfl ?_; first | refine wq_iadd ?_ | refine wq_isub ?_ | refine wq_imul ?_ | refine wq_iinc rfl ?_ | refine wq_goto ?_ | refine wq_k rfl ?_ | refine wq_b rfl rfl ?_ | refine wq_getf (by assumption) rfl ?_ | refine wq_alen (by assumption) rfl ?_)
    refine wf rfl (wq_ge ⟨by omega, by omega⟩ ⟨by omega, by omega⟩ (fun c1 => ?_) (fun c1 => ?_))
    · have hst := fun (_ : True) => ex (by rw [show (t - k).toNat = 0 by omega, foldN])
      repeat' (first | (refine Wp.sub (hst  ?_) ⟨rfl, rfl, rfl, trivial⟩ rfl) | (refine wf rfl ?_; first | refine wq_iadd ?_ | refine wq_isub ?_ | refine wq_imul ?_ | refine wq_iinc rfl ?_ | refine wq_goto ?_ | refine wq_k rfl ?_ | refine wq_b rfl rfl ?_ | refine wq_getf (by assumption) rfl ?_ | refine wq_alen (by assumption) rfl ?_ | fail | (refine wq_eq ⟨by omega, by omega⟩ ⟨by omega, by omega⟩ (fun _ => ?_) (fun _ => ?_) <;> try (exfalso; omega)) | (refine wq_ne ⟨by omega, by omega⟩ ⟨by omega, by omega⟩ (fun _ => ?_) (fun _ => ?_) <;> try (exfalso; omega)) | (refine wq_lt ⟨by omega, by omega⟩ ⟨by omega, by omega⟩ (fun _ => ?_) (fun _ => ?_) <;> try (exfalso; omega)) | (refine wq_ge ⟨by omega, by omega⟩ ⟨by omega, by omega⟩ (fun _ => ?_) (fun _ => ?_) <;> try (exfalso; omega)) | (refine wq_gt ⟨by omega, by omega⟩ ⟨by omega, by omega⟩ (fun _ => ?_) (fun _ => ?_) <;> try (exfalso; omega)) | (refine wq_le ⟨by omega, by omega⟩ ⟨by omega, by omega⟩ (fun _ => ?_) (fun _ => ?_) <;> try (exfalso; omega)) | (refine wq_ifeq ⟨by omega, by omega⟩ (fun _ => ?_) (fun _ => ?_) <;> try (exfalso; omega)) | (refine wq_ifne ⟨by omega, by omega⟩ (fun _ => ?_) (fun _ => ?_) <;> try (exfalso; omega)) | (refine wq_iflt ⟨by omega, by omega⟩ (fun _ => ?_) (fun _ => ?_) <;> try (exfalso; omega)) | (refine wq_ifge ⟨by omega, by omega⟩ (fun _ => ?_) (fun _ => ?_) <;> try (exfalso; omega)) | (refine wq_ifgt ⟨by omega, by omega⟩ (fun _ => ?_) (fun _ => ?_) <;> try (exfalso; omega)) | (refine wq_ifle ⟨by omega, by omega⟩ (fun _ => ?_) (fun _ => ?_) <;> try (exfalso; omega)) | refine wq_r rfl rfl rfl rfl rfl rfl ?_))
      trivial
    · repeat (refine wf rfl ?_; first | refine wq_iadd ?_ | refine wq_isub ?_ | refine wq_imul ?_ | refine wq_iinc rfl ?_ | refine wq_goto ?_ | refine wq_k rfl ?_ | refine wq_b rfl rfl ?_ | refine wq_getf (by assumption) rfl ?_ | refine wq_alen (by assumption) rfl ?_)
      refine wf rfl (wq_cv rfl rfl rfl hO ((c_Md_folds j1 j2).mono ?_))
      rintro v M2 (⟨hB, rfl, f2, h2⟩ | ⟨hB, rfl, rfl⟩)
      · refine wf rfl (wq_ifeq ⟨by omega, by omega⟩ (fun c2 => by exfalso; omega) (fun c2 => ?_))
        rw [show (t - k).toNat = (t - (k + 1)).toNat + 1 by omega, foldN, if_pos hB] at j3 j4
        dsimp only at j3 j4
        repeat' (first | (refine Wp.sub (ih _ _ ?_) ⟨rfl, rfl, rfl, trivial⟩ rfl) | (refine wf rfl ?_; first | refine wq_iadd ?_ | refine wq_isub ?_ | refine wq_imul ?_ | refine wq_iinc rfl ?_ | refine wq_goto ?_ | refine wq_k rfl ?_ | refine wq_b rfl rfl ?_ | refine wq_getf (by assumption) rfl ?_ | refine wq_alen (by assumption) rfl ?_ | fail | (refine wq_eq ⟨by omega, by omega⟩ ⟨by omega, by omega⟩ (fun _ => ?_) (fun _ => ?_) <;> try (exfalso; omega)) | (refine wq_ne ⟨by omega, by omega⟩ ⟨by omega, by omega⟩ (fun _ => ?_) (fun _ => ?_) <;> try (exfalso; omega)) | (refine wq_lt ⟨by omega, by omega⟩ ⟨by omega, by omega⟩ (fun _ => ?_) (fun _ => ?_) <;> try (exfalso; omega)) | (refine wq_ge ⟨by omega, by omega⟩ ⟨by omega, by omega⟩ (fun _ => ?_) (fun _ => ?_) <;> try (exfalso; omega)) | (refine wq_gt ⟨by omega, by omega⟩ ⟨by omega, by omega⟩ (fun _ => ?_) (fun _ => ?_) <;> try (exfalso; omega)) | (refine wq_le ⟨by omega, by omega⟩ ⟨by omega, by omega⟩ (fun _ => ?_) (fun _ => ?_) <;> try (exfalso; omega)) | (refine wq_ifeq ⟨by omega, by omega⟩ (fun _ => ?_) (fun _ => ?_) <;> try (exfalso; omega)) | (refine wq_ifne ⟨by omega, by omega⟩ (fun _ => ?_) (fun _ => ?_) <;> try (exfalso; omega)) | (refine wq_iflt ⟨by omega, by omega⟩ (fun _ => ?_) (fun _ => ?_) <;> try (exfalso; omega)) | (refine wq_ifge ⟨by omega, by omega⟩ (fun _ => ?_) (fun _ => ?_) <;> try (exfalso; omega)) | (refine wq_ifgt ⟨by omega, by omega⟩ (fun _ => ?_) (fun _ => ?_) <;> try (exfalso; omega)) | (refine wq_ifle ⟨by omega, by omega⟩ (fun _ => ?_) (fun _ => ?_) <;> try (exfalso; omega)) | refine wq_r rfl rfl rfl rfl rfl rfl ?_))
        exact ⟨by omega, by omega, by omega, i4.tr f2, _, h2, j2.fold hB, j3, by omega⟩
      · refine wf rfl (wq_ifeq ⟨by omega, by omega⟩ (fun c2 => ?_) (fun c2 => absurd rfl c2))
        have hst := fun (_ : True) => ex (foldN_0 (Or.inr hB))
        repeat' (first | (refine Wp.sub (hst  ?_) ⟨rfl, rfl, rfl, trivial⟩ rfl) | (refine wf rfl ?_; first | refine wq_iadd ?_ | refine wq_isub ?_ | refine wq_imul ?_ | refine wq_iinc rfl ?_ | refine wq_goto ?_ | refine wq_k rfl ?_ | refine wq_b rfl rfl ?_ | refine wq_getf (by assumption) rfl ?_ | refine wq_alen (by assumption) rfl ?_ | fail | (refine wq_eq ⟨by omega, by omega⟩ ⟨by omega, by omega⟩ (fun _ => ?_) (fun _ => ?_) <;> try (exfalso; omega)) | (refine wq_ne ⟨by omega, by omega⟩ ⟨by omega, by omega⟩ (fun _ => ?_) (fun _ => ?_) <;> try (exfalso; omega)) | (refine wq_lt ⟨by omega, by omega⟩ ⟨by omega, by omega⟩ (fun _ => ?_) (fun _ => ?_) <;> try (exfalso; omega)) | (refine wq_ge ⟨by omega, by omega⟩ ⟨by omega, by omega⟩ (fun _ => ?_) (fun _ => ?_) <;> try (exfalso; omega)) | (refine wq_gt ⟨by omega, by omega⟩ ⟨by omega, by omega⟩ (fun _ => ?_) (fun _ => ?_) <;> try (exfalso; omega)) | (refine wq_le ⟨by omega, by omega⟩ ⟨by omega, by omega⟩ (fun _ => ?_) (fun _ => ?_) <;> try (exfalso; omega)) | (refine wq_ifeq ⟨by omega, by omega⟩ (fun _ => ?_) (fun _ => ?_) <;> try (exfalso; omega)) | (refine wq_ifne ⟨by omega, by omega⟩ (fun _ => ?_) (fun _ => ?_) <;> try (exfalso; omega)) | (refine wq_iflt ⟨by omega, by omega⟩ (fun _ => ?_) (fun _ => ?_) <;> try (exfalso; omega)) | (refine wq_ifge ⟨by omega, by omega⟩ (fun _ => ?_) (fun _ => ?_) <;> try (exfalso; omega)) | (refine wq_ifgt ⟨by omega, by omega⟩ (fun _ => ?_) (fun _ => ?_) <;> try (exfalso; omega)) | (refine wq_ifle ⟨by omega, by omega⟩ (fun _ => ?_) (fun _ => ?_) <;> try (exfalso; omega)) | refine wq_r rfl rfl rfl rfl rfl rfl ?_))
        trivial
theorem c_Md_fold {t : Int} (ht : inR t) (h : MS M m S) (hW : WFG S.1) : Wm 160 [.ref m, .int (I t)] M (fun v M' => v = some (.int (I (spFold t S).1)) ∧ Fr (inM m) M M' ∧ MS M' m (spFold t S).2) := by
  obtain ⟨ht1, ht2⟩ := id ht
  obtain ⟨⟨si, re, sp, hO⟩, ⟨f, g1, g2⟩, -, -, -, ⟨fk, w1⟩, -⟩ := id h
  unfold spFold
  refine wm_in (lv := _) rfl rfl rfl ?_
  repeat (refine wf rfl ?_; first | refine wq_iadd ?_ | refine wq_isub ?_ | refine wq_imul ?_ | refine wq_iinc rfl ?_ | refine wq_goto ?_ | refine wq_k rfl ?_ | refine wq_b rfl rfl ?_ | refine wq_getf (by assumption) rfl ?_ | refine wq_alen (by assumption) rfl ?_)
  refine wf rfl (wq_cs rfl rfl ((c_inC (a := 1) (b := 26) ht (by omega) (by omega)).mono ?_))
  rintro v M ⟨rfl, rfl⟩
  by_cases hq : 1 ≤ t ∧ t ≤ 26
  · rw [if_pos hq, if_pos (by omega)]
    refine wf rfl (wq_ifne ⟨by omega, by omega⟩ (fun _ => ?_) (fun c9 => by exfalso; omega))
    repeat (refine wf rfl ?_; first | refine wq_iadd ?_ | refine wq_isub ?_ | refine wq_imul ?_ | refine wq_iinc rfl ?_ | refine wq_goto ?_ | refine wq_k rfl ?_ | refine wq_b rfl rfl ?_ | refine wq_getf (by assumption) rfl ?_ | refine wq_alen (by assumption) rfl ?_)
    refine wf rfl (wq_cs rfl rfl ((c_Md_copy rfl g1 w1 (by omega)).mono ?_))
    rintro v M1 ⟨rfl, f1, g, k1, k2⟩
    have hGk : Ga g 0 S.1 := g2.move (fun k hk => by rw [Nat.zero_add, k2 k hk])
    have h1 : Mr M1 m S.1 := h.mr.fr f1 (by omega) (by omega)
    have hO1 : MO M1 m _ si re _ sp := f1.at (by omega) hO
    have hl := lp_mfoldN (M := M1) (m := m) (T := foldN t.toNat S.1) hq (Q := fun v M' => v = some (.int (I (if (foldN t.toNat S.1).2 = 0 then ((-5, S) : Int × ST) else (((foldN t.toNat S.1).2 : Int), accS S (foldN t.toNat S.1).1)).1)) ∧ Fr (inM m) M M' ∧ MS M' m (if (foldN t.toNat S.1).2 = 0 then ((-5, S) : Int × ST) else (((foldN t.toNat S.1).2 : Int), accS S (foldN t.toNat S.1).1)).2) (fun M2 h2 f2 => by
      have hO2 : MO M2 m _ si re _ sp := f2.at (by omega) hO1
      have f12 : Fr (fun q => q = m + 2 ∨ q = m + 1) M M2 := (f1.mono (fun q hq => Or.inl hq)).tr (f2.mono (fun q hq => Or.inr hq))
      by_cases hz : (foldN t.toNat S.1).2 = 0
      · rw [if_pos hz, hz]
        have e0 : (foldN t.toNat S.1).1 = S.1 := by
          cases hn : t.toNat with
          | zero => rw [foldN]
          | succ n =>
            rw [hn, foldN] at hz
            rw [foldN]
            split
            · rename_i hB
              rw [if_pos hB] at hz
              exact absurd hz (Nat.succ_ne_zero _)
            · rfl
        rw [e0] at h2
        obtain ⟨-, f', q1, q2⟩ := h2
        obtain ⟨-, -, pb, pc, pd, pe⟩ := id h
        repeat' (refine wf rfl ?_; first | refine wq_iadd ?_ | refine wq_isub ?_ | refine wq_imul ?_ | refine wq_iinc rfl ?_ | refine wq_goto ?_ | refine wq_k rfl ?_ | refine wq_b rfl rfl ?_ | refine wq_getf (by assumption) rfl ?_ | refine wq_alen (by assumption) rfl ?_ | (refine wq_eq ⟨by omega, by omega⟩ ⟨by omega, by omega⟩ (fun _ => ?_) (fun _ => ?_) <;> try (exfalso; omega)) | (refine wq_ne ⟨by omega, by omega⟩ ⟨by omega, by omega⟩ (fun _ => ?_) (fun _ => ?_) <;> try (exfalso; omega)) | (refine wq_lt ⟨by omega, by omega⟩ ⟨by omega, by omega⟩ (fun _ => ?_) (fun _ => ?_) <;> try (exfalso; omega)) | (refine wq_ge ⟨by omega, by omega⟩ ⟨by omega, by omega⟩ (fun _ => ?_) (fun _ => ?_) <;> try (exfalso; omega)) | (refine wq_gt ⟨by omega, by omega⟩ ⟨by omega, by omega⟩ (fun _ => ?_) (fun _ => ?_) <;> try (exfalso; omega)) | (refine wq_le ⟨by omega, by omega⟩ ⟨by omega, by omega⟩ (fun _ => ?_) (fun _ => ?_) <;> try (exfalso; omega)) | (refine wq_ifeq ⟨by omega, by omega⟩ (fun _ => ?_) (fun _ => ?_) <;> try (exfalso; omega)) | (refine wq_ifne ⟨by omega, by omega⟩ (fun _ => ?_) (fun _ => ?_) <;> try (exfalso; omega)) | (refine wq_iflt ⟨by omega, by omega⟩ (fun _ => ?_) (fun _ => ?_) <;> try (exfalso; omega)) | (refine wq_ifge ⟨by omega, by omega⟩ (fun _ => ?_) (fun _ => ?_) <;> try (exfalso; omega)) | (refine wq_ifgt ⟨by omega, by omega⟩ (fun _ => ?_) (fun _ => ?_) <;> try (exfalso; omega)) | (refine wq_ifle ⟨by omega, by omega⟩ (fun _ => ?_) (fun _ => ?_) <;> try (exfalso; omega)) | refine wq_r rfl rfl rfl rfl rfl rfl ?_)
        exact ⟨rfl, f12.mono (fun q hq => by unfold inM; omega), ⟨si, re, sp, hO2⟩, ⟨f', q1, q2⟩, pb.fr f12 (by omega), pc.fr f12 (by omega), pd.fr f12 (by omega) (by omega), pe.fr f12⟩
      · rw [if_neg hz]
        have hcb : ∀ (n : Nat) (G : GS), (foldN n G).2 ≤ n := by
          intro n
          induction n with
          | zero => intro G; rw [foldN]; exact Nat.le_refl 0
          | succ n ih =>
            intro G
            rw [foldN]
            split
            · have := ih (foldG G); dsimp only; omega
            · exact Nat.zero_le _
        have hc1 := hcb t.toNat S.1
        repeat (refine wf rfl ?_; first | refine wq_iadd ?_ | refine wq_isub ?_ | refine wq_imul ?_ | refine wq_iinc rfl ?_ | refine wq_goto ?_ | refine wq_k rfl ?_ | refine wq_b rfl rfl ?_ | refine wq_getf (by assumption) rfl ?_ | refine wq_alen (by assumption) rfl ?_)
        refine wf rfl (wq_ifne ⟨by omega, by omega⟩ (fun _ => ?_) (fun c9 => by exfalso; omega))
        repeat (refine wf rfl ?_; first | refine wq_iadd ?_ | refine wq_isub ?_ | refine wq_imul ?_ | refine wq_iinc rfl ?_ | refine wq_goto ?_ | refine wq_k rfl ?_ | refine wq_b rfl rfl ?_ | refine wq_getf (by assumption) rfl ?_ | refine wq_alen (by assumption) rfl ?_)
        refine wf rfl (wq_cv rfl rfl rfl hO2 ((c_Md_chg (P := fun q => q = m + 2 ∨ q = m + 1) h f12 (fun q hq => by unfold inM; omega) (by omega) (by omega) (by omega) (by omega) ⟨si, re, sp, hO2⟩ (f2.at (by omega) k1) hGk h2.2).mono ?_))
        rintro v M3 ⟨rfl, f3, h3⟩
        repeat' (refine wf rfl ?_; first | refine wq_iadd ?_ | refine wq_isub ?_ | refine wq_imul ?_ | refine wq_iinc rfl ?_ | refine wq_goto ?_ | refine wq_k rfl ?_ | refine wq_b rfl rfl ?_ | refine wq_getf (by assumption) rfl ?_ | refine wq_alen (by assumption) rfl ?_ | (refine wq_eq ⟨by omega, by omega⟩ ⟨by omega, by omega⟩ (fun _ => ?_) (fun _ => ?_) <;> try (exfalso; omega)) | (refine wq_ne ⟨by omega, by omega⟩ ⟨by omega, by omega⟩ (fun _ => ?_) (fun _ => ?_) <;> try (exfalso; omega)) | (refine wq_lt ⟨by omega, by omega⟩ ⟨by omega, by omega⟩ (fun _ => ?_) (fun _ => ?_) <;> try (exfalso; omega)) | (refine wq_ge ⟨by omega, by omega⟩ ⟨by omega, by omega⟩ (fun _ => ?_) (fun _ => ?_) <;> try (exfalso; omega)) | (refine wq_gt ⟨by omega, by omega⟩ ⟨by omega, by omega⟩ (fun _ => ?_) (fun _ => ?_) <;> try (exfalso; omega)) | (refine wq_le ⟨by omega, by omega⟩ ⟨by omega, by omega⟩ (fun _ => ?_) (fun _ => ?_) <;> try (exfalso; omega)) | (refine wq_ifeq ⟨by omega, by omega⟩ (fun _ => ?_) (fun _ => ?_) <;> try (exfalso; omega)) | (refine wq_ifne ⟨by omega, by omega⟩ (fun _ => ?_) (fun _ => ?_) <;> try (exfalso; omega)) | (refine wq_iflt ⟨by omega, by omega⟩ (fun _ => ?_) (fun _ => ?_) <;> try (exfalso; omega)) | (refine wq_ifge ⟨by omega, by omega⟩ (fun _ => ?_) (fun _ => ?_) <;> try (exfalso; omega)) | (refine wq_ifgt ⟨by omega, by omega⟩ (fun _ => ?_) (fun _ => ?_) <;> try (exfalso; omega)) | (refine wq_ifle ⟨by omega, by omega⟩ (fun _ => ?_) (fun _ => ?_) <;> try (exfalso; omega)) | refine wq_r rfl rfl rfl rfl rfl rfl ?_)
        exact ⟨rfl, f3, h3⟩) 100
    repeat' (first | (refine Wp.sub (hl _ _ ?_) ⟨rfl, rfl, rfl, trivial⟩ rfl) | (refine wf rfl ?_; first | refine wq_iadd ?_ | refine wq_isub ?_ | refine wq_imul ?_ | refine wq_iinc rfl ?_ | refine wq_goto ?_ | refine wq_k rfl ?_ | refine wq_b rfl rfl ?_ | refine wq_getf (by assumption) rfl ?_ | refine wq_alen (by assumption) rfl ?_ | fail | (refine wq_eq ⟨by omega, by omega⟩ ⟨by omega, by omega⟩ (fun _ => ?_) (fun _ => ?_) <;> try (exfalso; omega)) | (refine wq_ne ⟨by omega, by omega⟩ ⟨by omega, by omega⟩ (fun _ => ?_) (fun _ => ?_) <;> try (exfalso; omega)) | (refine wq_lt ⟨by omega, by omega⟩ ⟨by omega, by omega⟩ (fun _ => ?_) (fun _ => ?_) <;> try (exfalso; omega)) | (refine wq_ge ⟨by omega, by omega⟩ ⟨by omega, by omega⟩ (fun _ => ?_) (fun _ => ?_) <;> try (exfalso; omega)) | (refine wq_gt ⟨by omega, by omega⟩ ⟨by omega, by omega⟩ (fun _ => ?_) (fun _ => ?_) <;> try (exfalso; omega)) | (refine wq_le ⟨by omega, by omega⟩ ⟨by omega, by omega⟩ (fun _ => ?_) (fun _ => ?_) <;> try (exfalso; omega)) | (refine wq_ifeq ⟨by omega, by omega⟩ (fun _ => ?_) (fun _ => ?_) <;> try (exfalso; omega)) | (refine wq_ifne ⟨by omega, by omega⟩ (fun _ => ?_) (fun _ => ?_) <;> try (exfalso; omega)) | (refine wq_iflt ⟨by omega, by omega⟩ (fun _ => ?_) (fun _ => ?_) <;> try (exfalso; omega)) | (refine wq_ifge ⟨by omega, by omega⟩ (fun _ => ?_) (fun _ => ?_) <;> try (exfalso; omega)) | (refine wq_ifgt ⟨by omega, by omega⟩ (fun _ => ?_) (fun _ => ?_) <;> try (exfalso; omega)) | (refine wq_ifle ⟨by omega, by omega⟩ (fun _ => ?_) (fun _ => ?_) <;> try (exfalso; omega)) | refine wq_r rfl rfl rfl rfl rfl rfl ?_))
    exact ⟨by omega, by omega, by omega, Fr.rf, S.1, h1, hW, by rw [show t - 0 = t by omega], by rw [show t - 0 = t by omega]; omega⟩
  · rw [if_neg hq, if_neg (by omega)]
    repeat' (refine wf rfl ?_; first | refine wq_iadd ?_ | refine wq_isub ?_ | refine wq_imul ?_ | refine wq_iinc rfl ?_ | refine wq_goto ?_ | refine wq_k rfl ?_ | refine wq_b rfl rfl ?_ | refine wq_getf (by assumption) rfl ?_ | refine wq_alen (by assumption) rfl ?_ | (refine wq_eq ⟨by omega, by omega⟩ ⟨by omega, by omega⟩ (fun _ => ?_) (fun _ => ?_) <;> try (exfalso; omega)) | (refine wq_ne ⟨by omega, by omega⟩ ⟨by omega, by omega⟩ (fun _ => ?_) (fun _ => ?_) <;> try (exfalso; omega)) | (refine wq_lt ⟨by omega, by omega⟩ ⟨by omega, by omega⟩ (fun _ => ?_) (fun _ => ?_) <;> try (exfalso; omega)) | (refine wq_ge ⟨by omega, by omega⟩ ⟨by omega, by omega⟩ (fun _ => ?_) (fun _ => ?_) <;> try (exfalso; omega)) | (refine wq_gt ⟨by omega, by omega⟩ ⟨by omega, by omega⟩ (fun _ => ?_) (fun _ => ?_) <;> try (exfalso; omega)) | (refine wq_le ⟨by omega, by omega⟩ ⟨by omega, by omega⟩ (fun _ => ?_) (fun _ => ?_) <;> try (exfalso; omega)) | (refine wq_ifeq ⟨by omega, by omega⟩ (fun _ => ?_) (fun _ => ?_) <;> try (exfalso; omega)) | (refine wq_ifne ⟨by omega, by omega⟩ (fun _ => ?_) (fun _ => ?_) <;> try (exfalso; omega)) | (refine wq_iflt ⟨by omega, by omega⟩ (fun _ => ?_) (fun _ => ?_) <;> try (exfalso; omega)) | (refine wq_ifge ⟨by omega, by omega⟩ (fun _ => ?_) (fun _ => ?_) <;> try (exfalso; omega)) | (refine wq_ifgt ⟨by omega, by omega⟩ (fun _ => ?_) (fun _ => ?_) <;> try (exfalso; omega)) | (refine wq_ifle ⟨by omega, by omega⟩ (fun _ => ?_) (fun _ => ?_) <;> try (exfalso; omega)) | refine wq_r rfl rfl rfl rfl rfl rfl ?_)
    exact ⟨rfl, Fr.rf, h⟩
theorem c_Md_unroll {r : Int} (hr : inR r) (h : MS M m S) (hW : WFG S.1) : Wm 161 [.ref m, .int (I r)] M (fun v M' => v = some (.int (I (spUnroll r S).1)) ∧ Fr (inM m) M M' ∧ MS M' m (spUnroll r S).2) := by
  obtain ⟨⟨si, re, sp, hO⟩, ⟨f, g1, g2⟩, -, -, -, ⟨fk, w1⟩, -, -, -, -, -, -, -, wL⟩ := id h
  have hN := h.mr.le
  unfold spUnroll
  refine wm_in (lv := _) rfl rfl rfl ?_
  repeat (refine wf rfl ?_; first | refine wq_iadd ?_ | refine wq_isub ?_ | refine wq_imul ?_ | refine wq_iinc rfl ?_ | refine wq_goto ?_ | refine wq_k rfl ?_ | refine wq_b rfl rfl ?_ | refine wq_getf (by assumption) rfl ?_ | refine wq_alen (by assumption) rfl ?_)
  refine wf rfl (wq_cv rfl rfl rfl hO ((c_Md_isRule hr h.mr).mono ?_))
  rintro v M ⟨rfl, rfl⟩
  by_cases hq : 0 ≤ r ∧ r < S.1.1.length
  · rw [if_pos hq, if_pos hq]
    have hcu := c_Md_canUnroll (r := r.toNat) h.mr hW (by omega)
    rw [show ((r.toNat : Nat) : Int) = r by omega] at hcu
    refine wf rfl (wq_ifne ⟨by omega, by omega⟩ (fun _ => ?_) (fun c9 => by exfalso; omega))
    repeat (refine wf rfl ?_; first | refine wq_iadd ?_ | refine wq_isub ?_ | refine wq_imul ?_ | refine wq_iinc rfl ?_ | refine wq_goto ?_ | refine wq_k rfl ?_ | refine wq_b rfl rfl ?_ | refine wq_getf (by assumption) rfl ?_ | refine wq_alen (by assumption) rfl ?_)
    refine wf rfl (wq_cv rfl rfl rfl hO (hcu.mono ?_))
    rintro v M ⟨rfl, rfl⟩
    by_cases hc : canB S.1 r.toNat = true
    · rw [if_pos hc, if_pos hc]
      refine wf rfl (wq_ifne ⟨by omega, by omega⟩ (fun _ => ?_) (fun c9 => by exfalso; omega))
      repeat (refine wf rfl ?_; first | refine wq_iadd ?_ | refine wq_isub ?_ | refine wq_imul ?_ | refine wq_iinc rfl ?_ | refine wq_goto ?_ | refine wq_k rfl ?_ | refine wq_b rfl rfl ?_ | refine wq_getf (by assumption) rfl ?_ | refine wq_alen (by assumption) rfl ?_)
      refine wf rfl (wq_cs rfl rfl ((c_Md_copy rfl g1 w1 (by omega)).mono ?_))
      rintro v M1 ⟨rfl, f1, g, k1, k2⟩
      have hGk : Ga g 0 S.1 := g2.move (fun k hk => by rw [Nat.zero_add, k2 k hk])
      have h1 : Mr M1 m S.1 := h.mr.fr f1 (by omega) (by omega)
      have hO1 : MO M1 m _ si re _ sp := f1.at (by omega) hO
      have hus := c_Md_used (u := r.toNat) h1 hW (by omega)
      have hun := c_Md_unrolls (r := r.toNat) h1 (f1.arr wL) hW (by omega) hc
      rw [show ((r.toNat : Nat) : Int) = r by omega] at hus hun
      repeat (refine wf rfl ?_; first | refine wq_iadd ?_ | refine wq_isub ?_ | refine wq_imul ?_ | refine wq_iinc rfl ?_ | refine wq_goto ?_ | refine wq_k rfl ?_ | refine wq_b rfl rfl ?_ | refine wq_getf (by assumption) rfl ?_ | refine wq_alen (by assumption) rfl ?_)
      refine wf rfl (wq_cv rfl rfl rfl hO1 (hus.mono ?_))
      rintro v M1 ⟨rfl, rfl⟩
      repeat (refine wf rfl ?_; first | refine wq_iadd ?_ | refine wq_isub ?_ | refine wq_imul ?_ | refine wq_iinc rfl ?_ | refine wq_goto ?_ | refine wq_k rfl ?_ | refine wq_b rfl rfl ?_ | refine wq_getf (by assumption) rfl ?_ | refine wq_alen (by assumption) rfl ?_)
      refine wf rfl (wq_cv rfl rfl rfl hO1 (hun.mono ?_))
      rintro v M2 ⟨rfl, f2, -, h2⟩
      have hO2 : MO M2 m _ si re _ sp := f2.at (by omega) hO1
      have f12 : Fr (fun q => q = m + 2 ∨ q = m + 1 ∨ q = m + 13) M M2 := (f1.mono (fun q hq => Or.inl hq)).tr (f2.mono (fun q hq => Or.inr hq))
      repeat (refine wf rfl ?_; first | refine wq_iadd ?_ | refine wq_isub ?_ | refine wq_imul ?_ | refine wq_iinc rfl ?_ | refine wq_goto ?_ | refine wq_k rfl ?_ | refine wq_b rfl rfl ?_ | refine wq_getf (by assumption) rfl ?_ | refine wq_alen (by assumption) rfl ?_)
      refine wf rfl (wq_cv rfl rfl rfl hO2 ((c_Md_chg (P := fun q => q = m + 2 ∨ q = m + 1 ∨ q = m + 13) h f12 (fun q hq => by unfold inM; omega) (by omega) (by omega) (by omega) (by omega) ⟨si, re, sp, hO2⟩ (f2.at (by omega) k1) hGk h2.2).mono ?_))
      rintro v M3 ⟨rfl, f3, h3⟩
      repeat' (refine wf rfl ?_; first | refine wq_iadd ?_ | refine wq_isub ?_ | refine wq_imul ?_ | refine wq_iinc rfl ?_ | refine wq_goto ?_ | refine wq_k rfl ?_ | refine wq_b rfl rfl ?_ | refine wq_getf (by assumption) rfl ?_ | refine wq_alen (by assumption) rfl ?_ | (refine wq_eq ⟨by omega, by omega⟩ ⟨by omega, by omega⟩ (fun _ => ?_) (fun _ => ?_) <;> try (exfalso; omega)) | (refine wq_ne ⟨by omega, by omega⟩ ⟨by omega, by omega⟩ (fun _ => ?_) (fun _ => ?_) <;> try (exfalso; omega)) | (refine wq_lt ⟨by omega, by omega⟩ ⟨by omega, by omega⟩ (fun _ => ?_) (fun _ => ?_) <;> try (exfalso; omega)) | (refine wq_ge ⟨by omega, by omega⟩ ⟨by omega, by omega⟩ (fun _ => ?_) (fun _ => ?_) <;> try (exfalso; omega)) | (refine wq_gt ⟨by omega, by omega⟩ ⟨by omega, by omega⟩ (fun _ => ?_) (fun _ => ?_) <;> try (exfalso; omega)) | (refine wq_le ⟨by omega, by omega⟩ ⟨by omega, by omega⟩ (fun _ => ?_) (fun _ => ?_) <;> try (exfalso; omega)) | (refine wq_ifeq ⟨by omega, by omega⟩ (fun _ => ?_) (fun _ => ?_) <;> try (exfalso; omega)) | (refine wq_ifne ⟨by omega, by omega⟩ (fun _ => ?_) (fun _ => ?_) <;> try (exfalso; omega)) | (refine wq_iflt ⟨by omega, by omega⟩ (fun _ => ?_) (fun _ => ?_) <;> try (exfalso; omega)) | (refine wq_ifge ⟨by omega, by omega⟩ (fun _ => ?_) (fun _ => ?_) <;> try (exfalso; omega)) | (refine wq_ifgt ⟨by omega, by omega⟩ (fun _ => ?_) (fun _ => ?_) <;> try (exfalso; omega)) | (refine wq_ifle ⟨by omega, by omega⟩ (fun _ => ?_) (fun _ => ?_) <;> try (exfalso; omega)) | refine wq_r rfl rfl rfl rfl rfl rfl ?_)
      exact ⟨rfl, f3, h3⟩
    · rw [if_neg hc, if_neg hc]
      repeat' (refine wf rfl ?_; first | refine wq_iadd ?_ | refine wq_isub ?_ | refine wq_imul ?_ | refine wq_iinc rfl ?_ | refine wq_goto ?_ | refine wq_k rfl ?_ | refine wq_b rfl rfl ?_ | refine wq_getf (by assumption) rfl ?_ | refine wq_alen (by assumption) rfl ?_ | (refine wq_eq ⟨by omega, by omega⟩ ⟨by omega, by omega⟩ (fun _ => ?_) (fun _ => ?_) <;> try (exfalso; omega)) | (refine wq_ne ⟨by omega, by omega⟩ ⟨by omega, by omega⟩ (fun _ => ?_) (fun _ => ?_) <;> try (exfalso; omega)) | (refine wq_lt ⟨by omega, by omega⟩ ⟨by omega, by omega⟩ (fun _ => ?_) (fun _ => ?_) <;> try (exfalso; omega)) | (refine wq_ge ⟨by omega, by omega⟩ ⟨by omega, by omega⟩ (fun _ => ?_) (fun _ => ?_) <;> try (exfalso; omega)) | (refine wq_gt ⟨by omega, by omega⟩ ⟨by omega, by omega⟩ (fun _ => ?_) (fun _ => ?_) <;> try (exfalso; omega)) | (refine wq_le ⟨by omega, by omega⟩ ⟨by omega, by omega⟩ (fun _ => ?_) (fun _ => ?_) <;> try (exfalso; omega)) | (refine wq_ifeq ⟨by omega, by omega⟩ (fun _ => ?_) (fun _ => ?_) <;> try (exfalso; omega)) | (refine wq_ifne ⟨by omega, by omega⟩ (fun _ => ?_) (fun _ => ?_) <;> try (exfalso; omega)) | (refine wq_iflt ⟨by omega, by omega⟩ (fun _ => ?_) (fun _ => ?_) <;> try (exfalso; omega)) | (refine wq_ifge ⟨by omega, by omega⟩ (fun _ => ?_) (fun _ => ?_) <;> try (exfalso; omega)) | (refine wq_ifgt ⟨by omega, by omega⟩ (fun _ => ?_) (fun _ => ?_) <;> try (exfalso; omega)) | (refine wq_ifle ⟨by omega, by omega⟩ (fun _ => ?_) (fun _ => ?_) <;> try (exfalso; omega)) | refine wq_r rfl rfl rfl rfl rfl rfl ?_)
      exact ⟨rfl, Fr.rf, h⟩
  · rw [if_neg hq, if_neg hq]
    repeat' (refine wf rfl ?_; first | refine wq_iadd ?_ | refine wq_isub ?_ | refine wq_imul ?_ | refine wq_iinc rfl ?_ | refine wq_goto ?_ | refine wq_k rfl ?_ | refine wq_b rfl rfl ?_ | refine wq_getf (by assumption) rfl ?_ | refine wq_alen (by assumption) rfl ?_ | (refine wq_eq ⟨by omega, by omega⟩ ⟨by omega, by omega⟩ (fun _ => ?_) (fun _ => ?_) <;> try (exfalso; omega)) | (refine wq_ne ⟨by omega, by omega⟩ ⟨by omega, by omega⟩ (fun _ => ?_) (fun _ => ?_) <;> try (exfalso; omega)) | (refine wq_lt ⟨by omega, by omega⟩ ⟨by omega, by omega⟩ (fun _ => ?_) (fun _ => ?_) <;> try (exfalso; omega)) | (refine wq_ge ⟨by omega, by omega⟩ ⟨by omega, by omega⟩ (fun _ => ?_) (fun _ => ?_) <;> try (exfalso; omega)) | (refine wq_gt ⟨by omega, by omega⟩ ⟨by omega, by omega⟩ (fun _ => ?_) (fun _ => ?_) <;> try (exfalso; omega)) | (refine wq_le ⟨by omega, by omega⟩ ⟨by omega, by omega⟩ (fun _ => ?_) (fun _ => ?_) <;> try (exfalso; omega)) | (refine wq_ifeq ⟨by omega, by omega⟩ (fun _ => ?_) (fun _ => ?_) <;> try (exfalso; omega)) | (refine wq_ifne ⟨by omega, by omega⟩ (fun _ => ?_) (fun _ => ?_) <;> try (exfalso; omega)) | (refine wq_iflt ⟨by omega, by omega⟩ (fun _ => ?_) (fun _ => ?_) <;> try (exfalso; omega)) | (refine wq_ifge ⟨by omega, by omega⟩ (fun _ => ?_) (fun _ => ?_) <;> try (exfalso; omega)) | (refine wq_ifgt ⟨by omega, by omega⟩ (fun _ => ?_) (fun _ => ?_) <;> try (exfalso; omega)) | (refine wq_ifle ⟨by omega, by omega⟩ (fun _ => ?_) (fun _ => ?_) <;> try (exfalso; omega)) | refine wq_r rfl rfl rfl rfl rfl rfl ?_)
    exact ⟨rfl, Fr.rf, h⟩
theorem c_Md_prune (h : MS M m S) (hW : WFG S.1) : Wm 162 [.ref m] M (fun v M' => v = some (.int (I (spPrune S).1)) ∧ Fr (inM m) M M' ∧ MS M' m (spPrune S).2) := by
  obtain ⟨⟨si, re, sp, hO⟩, ⟨f, g1, g2⟩, -, -, -, ⟨fk, w1⟩, -, -, -, -, -, -, -, wL⟩ := id h
  unfold spPrune
  refine wm_in (lv := _) rfl rfl rfl ?_
  repeat (refine wf rfl ?_; first | refine wq_iadd ?_ | refine wq_isub ?_ | refine wq_imul ?_ | refine wq_iinc rfl ?_ | refine wq_goto ?_ | refine wq_k rfl ?_ | refine wq_b rfl rfl ?_ | refine wq_getf (by assumption) rfl ?_ | refine wq_alen (by assumption) rfl ?_)
  refine wf rfl (wq_cs rfl rfl ((c_Md_copy rfl g1 w1 (by omega)).mono ?_))
  rintro v M1 ⟨rfl, f1, g, k1, k2⟩
  have hGk : Ga g 0 S.1 := g2.move (fun k hk => by rw [Nat.zero_add, k2 k hk])
  have h1 : Mr M1 m S.1 := h.mr.fr f1 (by omega) (by omega)
  have hO1 : MO M1 m _ si re _ sp := f1.at (by omega) hO
  repeat (refine wf rfl ?_; first | refine wq_iadd ?_ | refine wq_isub ?_ | refine wq_imul ?_ | refine wq_iinc rfl ?_ | refine wq_goto ?_ | refine wq_k rfl ?_ | refine wq_b rfl rfl ?_ | refine wq_getf (by assumption) rfl ?_ | refine wq_alen (by assumption) rfl ?_)
  refine wf rfl (wq_cv rfl rfl rfl hO1 ((c_Md_prunes h1 (f1.arr wL) hW).mono ?_))
  rintro v M2 ⟨rfl, f2, -, h2, -⟩
  have hO2 : MO M2 m _ si re _ sp := f2.at (by omega) hO1
  have f12 : Fr (fun q => q = m + 2 ∨ q = m + 1 ∨ q = m + 13) M M2 := (f1.mono (fun q hq => Or.inl hq)).tr (f2.mono (fun q hq => Or.inr hq))
  repeat (refine wf rfl ?_; first | refine wq_iadd ?_ | refine wq_isub ?_ | refine wq_imul ?_ | refine wq_iinc rfl ?_ | refine wq_goto ?_ | refine wq_k rfl ?_ | refine wq_b rfl rfl ?_ | refine wq_getf (by assumption) rfl ?_ | refine wq_alen (by assumption) rfl ?_)
  refine wf rfl (wq_cv rfl rfl rfl hO2 ((c_Md_chg (P := fun q => q = m + 2 ∨ q = m + 1 ∨ q = m + 13) h f12 (fun q hq => by unfold inM; omega) (by omega) (by omega) (by omega) (by omega) ⟨si, re, sp, hO2⟩ (f2.at (by omega) k1) hGk h2.2).mono ?_))
  rintro v M3 ⟨rfl, f3, h3⟩
  repeat' (refine wf rfl ?_; first | refine wq_iadd ?_ | refine wq_isub ?_ | refine wq_imul ?_ | refine wq_iinc rfl ?_ | refine wq_goto ?_ | refine wq_k rfl ?_ | refine wq_b rfl rfl ?_ | refine wq_getf (by assumption) rfl ?_ | refine wq_alen (by assumption) rfl ?_ | (refine wq_eq ⟨by omega, by omega⟩ ⟨by omega, by omega⟩ (fun _ => ?_) (fun _ => ?_) <;> try (exfalso; omega)) | (refine wq_ne ⟨by omega, by omega⟩ ⟨by omega, by omega⟩ (fun _ => ?_) (fun _ => ?_) <;> try (exfalso; omega)) | (refine wq_lt ⟨by omega, by omega⟩ ⟨by omega, by omega⟩ (fun _ => ?_) (fun _ => ?_) <;> try (exfalso; omega)) | (refine wq_ge ⟨by omega, by omega⟩ ⟨by omega, by omega⟩ (fun _ => ?_) (fun _ => ?_) <;> try (exfalso; omega)) | (refine wq_gt ⟨by omega, by omega⟩ ⟨by omega, by omega⟩ (fun _ => ?_) (fun _ => ?_) <;> try (exfalso; omega)) | (refine wq_le ⟨by omega, by omega⟩ ⟨by omega, by omega⟩ (fun _ => ?_) (fun _ => ?_) <;> try (exfalso; omega)) | (refine wq_ifeq ⟨by omega, by omega⟩ (fun _ => ?_) (fun _ => ?_) <;> try (exfalso; omega)) | (refine wq_ifne ⟨by omega, by omega⟩ (fun _ => ?_) (fun _ => ?_) <;> try (exfalso; omega)) | (refine wq_iflt ⟨by omega, by omega⟩ (fun _ => ?_) (fun _ => ?_) <;> try (exfalso; omega)) | (refine wq_ifge ⟨by omega, by omega⟩ (fun _ => ?_) (fun _ => ?_) <;> try (exfalso; omega)) | (refine wq_ifgt ⟨by omega, by omega⟩ (fun _ => ?_) (fun _ => ?_) <;> try (exfalso; omega)) | (refine wq_ifle ⟨by omega, by omega⟩ (fun _ => ?_) (fun _ => ?_) <;> try (exfalso; omega)) | refine wq_r rfl rfl rfl rfl rfl rfl ?_)
  exact ⟨rfl, f3, h3⟩
theorem foldN_wf : ∀ (n : Nat) (G : GS), WFG G → WFG (foldN n G).1
  | 0, G, h => by rw [foldN]; exact h
  | n + 1, G, h => by
    rw [foldN]
    split
    · rename_i hB
      exact foldN_wf n _ (h.fold hB)
    · exact h
theorem lp_mcould {T : GS} {Q : Option Value → PM → Prop} (hk : ∀ M1 : PM, Mr M1 m T → Fr (fun q => q = m + 1) M M1 → Wp k_X10_couldBe (25, [(0, .ref m), (1, .int (I 0))], [], M1) Q) (n : Nat) : ∀ (G : GS) (M1 : PM), (26 ≤ G.1.length + n ∧ Fr (fun q => q = m + 1) M M1 ∧ Mr M1 m G ∧ WFG G ∧ (foldN n G).1 = T) →
    Wp k_X10_couldBe (13, [(0, .ref m), (1, .int (I 1))], [], M1) Q := by
  have stop : ∀ (G : GS) (M1 : PM), Fr (fun q => q = m + 1) M M1 → Mr M1 m G → G = T → Wp k_X10_couldBe (13, [(0, .ref m), (1, .int (I 0))], [], M1) Q := by
    rintro G M1 f1 h1 rfl
    have hst := fun (_ : True) => hk M1 h1 f1
    repeat (refine wf rfl ?_; first | refine wq_iadd ?_ | refine wq_isub ?_ | refine wq_imul ?_ | refine wq_iinc rfl ?_ | refine wq_goto ?_ | refine wq_k rfl ?_ | refine wq_b rfl rfl ?_ | refine wq_getf (by assumption) rfl ?_ | refine wq_alen (by assumption) rfl ?_)
    refine wf rfl (wq_ifeq ⟨by omega, by omega⟩ (fun c2 => ?_) (fun c2 => absurd rfl c2))
    repeat' (first | (refine Wp.sub (hst  ?_) ⟨rfl, rfl, trivial⟩ rfl) | (refine wf rfl ?_; first | refine wq_iadd ?_ | refine wq_isub ?_ | refine wq_imul ?_ | refine wq_iinc rfl ?_ | refine wq_goto ?_ | refine wq_k rfl ?_ | refine wq_b rfl rfl ?_ | refine wq_getf (by assumption) rfl ?_ | refine wq_alen (by assumption) rfl ?_ | fail | (refine wq_eq ⟨by omega, by omega⟩ ⟨by omega, by omega⟩ (fun _ => ?_) (fun _ => ?_) <;> try (exfalso; omega)) | (refine wq_ne ⟨by omega, by omega⟩ ⟨by omega, by omega⟩ (fun _ => ?_) (fun _ => ?_) <;> try (exfalso; omega)) | (refine wq_lt ⟨by omega, by omega⟩ ⟨by omega, by omega⟩ (fun _ => ?_) (fun _ => ?_) <;> try (exfalso; omega)) | (refine wq_ge ⟨by omega, by omega⟩ ⟨by omega, by omega⟩ (fun _ => ?_) (fun _ => ?_) <;> try (exfalso; omega)) | (refine wq_gt ⟨by omega, by omega⟩ ⟨by omega, by omega⟩ (fun _ => ?_) (fun _ => ?_) <;> try (exfalso; omega)) | (refine wq_le ⟨by omega, by omega⟩ ⟨by omega, by omega⟩ (fun _ => ?_) (fun _ => ?_) <;> try (exfalso; omega)) | (refine wq_ifeq ⟨by omega, by omega⟩ (fun _ => ?_) (fun _ => ?_) <;> try (exfalso; omega)) | (refine wq_ifne ⟨by omega, by omega⟩ (fun _ => ?_) (fun _ => ?_) <;> try (exfalso; omega)) | (refine wq_iflt ⟨by omega, by omega⟩ (fun _ => ?_) (fun _ => ?_) <;> try (exfalso; omega)) | (refine wq_ifge ⟨by omega, by omega⟩ (fun _ => ?_) (fun _ => ?_) <;> try (exfalso; omega)) | (refine wq_ifgt ⟨by omega, by omega⟩ (fun _ => ?_) (fun _ => ?_) <;> try (exfalso; omega)) | (refine wq_ifle ⟨by omega, by omega⟩ (fun _ => ?_) (fun _ => ?_) <;> try (exfalso; omega)) | refine wq_r rfl rfl rfl rfl rfl rfl ?_))
    trivial
  induction n with
  | zero =>
    rintro G M1 ⟨i1, i2, i3, i4, i5⟩
    obtain ⟨⟨a, b, c, d, e, hO⟩, -⟩ := id i3
    rw [foldN] at i5
    repeat (refine wf rfl ?_; first | refine wq_iadd ?_ | refine wq_isub ?_ | refine wq_imul ?_ | refine wq_iinc rfl ?_ | refine wq_goto ?_ | refine wq_k rfl ?_ | refine wq_b rfl rfl ?_ | refine wq_getf (by assumption) rfl ?_ | refine wq_alen (by assumption) rfl ?_)
    refine wf rfl (wq_ifeq ⟨by omega, by omega⟩ (fun c2 => by exfalso; omega) (fun c2 => ?_))
    repeat (refine wf rfl ?_; first | refine wq_iadd ?_ | refine wq_isub ?_ | refine wq_imul ?_ | refine wq_iinc rfl ?_ | refine wq_goto ?_ | refine wq_k rfl ?_ | refine wq_b rfl rfl ?_ | refine wq_getf (by assumption) rfl ?_ | refine wq_alen (by assumption) rfl ?_)
    refine wf rfl (wq_cv rfl rfl rfl hO ((c_Md_folds i3 i4).mono ?_))
    rintro v M2 (⟨hB, rfl, f2, h2⟩ | ⟨hB, rfl, rfl⟩)
    · exfalso
      unfold foldB at hB
      rw [Bool.and_eq_true, decide_eq_true_eq] at hB
      omega
    · have hst := fun (_ : True) => stop G M2 i2 i3 i5
      repeat' (first | (refine Wp.sub (hst  ?_) ⟨rfl, rfl, trivial⟩ rfl) | (refine wf rfl ?_; first | refine wq_iadd ?_ | refine wq_isub ?_ | refine wq_imul ?_ | refine wq_iinc rfl ?_ | refine wq_goto ?_ | refine wq_k rfl ?_ | refine wq_b rfl rfl ?_ | refine wq_getf (by assumption) rfl ?_ | refine wq_alen (by assumption) rfl ?_ | fail | (refine wq_eq ⟨by omega, by omega⟩ ⟨by omega, by omega⟩ (fun _ => ?_) (fun _ => ?_) <;> try (exfalso; omega)) | (refine wq_ne ⟨by omega, by omega⟩ ⟨by omega, by omega⟩ (fun _ => ?_) (fun _ => ?_) <;> try (exfalso; omega)) | (refine wq_lt ⟨by omega, by omega⟩ ⟨by omega, by omega⟩ (fun _ => ?_) (fun _ => ?_) <;> try (exfalso; omega)) | (refine wq_ge ⟨by omega, by omega⟩ ⟨by omega, by omega⟩ (fun _ => ?_) (fun _ => ?_) <;> try (exfalso; omega)) | (refine wq_gt ⟨by omega, by omega⟩ ⟨by omega, by omega⟩ (fun _ => ?_) (fun _ => ?_) <;> try (exfalso; omega)) | (refine wq_le ⟨by omega, by omega⟩ ⟨by omega, by omega⟩ (fun _ => ?_) (fun _ => ?_) <;> try (exfalso; omega)) | (refine wq_ifeq ⟨by omega, by omega⟩ (fun _ => ?_) (fun _ => ?_) <;> try (exfalso; omega)) | (refine wq_ifne ⟨by omega, by omega⟩ (fun _ => ?_) (fun _ => ?_) <;> try (exfalso; omega)) | (refine wq_iflt ⟨by omega, by omega⟩ (fun _ => ?_) (fun _ => ?_) <;> try (exfalso; omega)) | (refine wq_ifge ⟨by omega, by omega⟩ (fun _ => ?_) (fun _ => ?_) <;> try (exfalso; omega)) | (refine wq_ifgt ⟨by omega, by omega⟩ (fun _ => ?_) (fun _ => ?_) <;> try (exfalso; omega)) | (refine wq_ifle ⟨by omega, by omega⟩ (fun _ => ?_) (fun _ => ?_) <;> try (exfalso; omega)) | refine wq_r rfl rfl rfl rfl rfl rfl ?_))
      trivial
  | succ n ih =>
    rintro G M1 ⟨i1, i2, i3, i4, i5⟩
    obtain ⟨⟨a, b, c, d, e, hO⟩, -⟩ := id i3
    rw [foldN] at i5
    repeat (refine wf rfl ?_; first | refine wq_iadd ?_ | refine wq_isub ?_ | refine wq_imul ?_ | refine wq_iinc rfl ?_ | refine wq_goto ?_ | refine wq_k rfl ?_ | refine wq_b rfl rfl ?_ | refine wq_getf (by assumption) rfl ?_ | refine wq_alen (by assumption) rfl ?_)
    refine wf rfl (wq_ifeq ⟨by omega, by omega⟩ (fun c2 => by exfalso; omega) (fun c2 => ?_))
    repeat (refine wf rfl ?_; first | refine wq_iadd ?_ | refine wq_isub ?_ | refine wq_imul ?_ | refine wq_iinc rfl ?_ | refine wq_goto ?_ | refine wq_k rfl ?_ | refine wq_b rfl rfl ?_ | refine wq_getf (by assumption) rfl ?_ | refine wq_alen (by assumption) rfl ?_)
    refine wf rfl (wq_cv rfl rfl rfl hO ((c_Md_folds i3 i4).mono ?_))
    rintro v M2 (⟨hB, rfl, f2, h2⟩ | ⟨hB, rfl, rfl⟩)
    · rw [if_pos hB] at i5
      have hst := fun (_ : True) => ih (foldG G) M2 ⟨by rw [foldG_len]; omega, i2.tr f2, h2, i4.fold hB, i5⟩
      repeat' (first | (refine Wp.sub (hst  ?_) ⟨rfl, rfl, trivial⟩ rfl) | (refine wf rfl ?_; first | refine wq_iadd ?_ | refine wq_isub ?_ | refine wq_imul ?_ | refine wq_iinc rfl ?_ | refine wq_goto ?_ | refine wq_k rfl ?_ | refine wq_b rfl rfl ?_ | refine wq_getf (by assumption) rfl ?_ | refine wq_alen (by assumption) rfl ?_ | fail | (refine wq_eq ⟨by omega, by omega⟩ ⟨by omega, by omega⟩ (fun _ => ?_) (fun _ => ?_) <;> try (exfalso; omega)) | (refine wq_ne ⟨by omega, by omega⟩ ⟨by omega, by omega⟩ (fun _ => ?_) (fun _ => ?_) <;> try (exfalso; omega)) | (refine wq_lt ⟨by omega, by omega⟩ ⟨by omega, by omega⟩ (fun _ => ?_) (fun _ => ?_) <;> try (exfalso; omega)) | (refine wq_ge ⟨by omega, by omega⟩ ⟨by omega, by omega⟩ (fun _ => ?_) (fun _ => ?_) <;> try (exfalso; omega)) | (refine wq_gt ⟨by omega, by omega⟩ ⟨by omega, by omega⟩ (fun _ => ?_) (fun _ => ?_) <;> try (exfalso; omega)) | (refine wq_le ⟨by omega, by omega⟩ ⟨by omega, by omega⟩ (fun _ => ?_) (fun _ => ?_) <;> try (exfalso; omega)) | (refine wq_ifeq ⟨by omega, by omega⟩ (fun _ => ?_) (fun _ => ?_) <;> try (exfalso; omega)) | (refine wq_ifne ⟨by omega, by omega⟩ (fun _ => ?_) (fun _ => ?_) <;> try (exfalso; omega)) | (refine wq_iflt ⟨by omega, by omega⟩ (fun _ => ?_) (fun _ => ?_) <;> try (exfalso; omega)) | (refine wq_ifge ⟨by omega, by omega⟩ (fun _ => ?_) (fun _ => ?_) <;> try (exfalso; omega)) | (refine wq_ifgt ⟨by omega, by omega⟩ (fun _ => ?_) (fun _ => ?_) <;> try (exfalso; omega)) | (refine wq_ifle ⟨by omega, by omega⟩ (fun _ => ?_) (fun _ => ?_) <;> try (exfalso; omega)) | refine wq_r rfl rfl rfl rfl rfl rfl ?_))
      trivial
    · rw [if_neg (by rw [hB]; simp)] at i5
      have hst := fun (_ : True) => stop G M2 i2 i3 i5
      repeat' (first | (refine Wp.sub (hst  ?_) ⟨rfl, rfl, trivial⟩ rfl) | (refine wf rfl ?_; first | refine wq_iadd ?_ | refine wq_isub ?_ | refine wq_imul ?_ | refine wq_iinc rfl ?_ | refine wq_goto ?_ | refine wq_k rfl ?_ | refine wq_b rfl rfl ?_ | refine wq_getf (by assumption) rfl ?_ | refine wq_alen (by assumption) rfl ?_ | fail | (refine wq_eq ⟨by omega, by omega⟩ ⟨by omega, by omega⟩ (fun _ => ?_) (fun _ => ?_) <;> try (exfalso; omega)) | (refine wq_ne ⟨by omega, by omega⟩ ⟨by omega, by omega⟩ (fun _ => ?_) (fun _ => ?_) <;> try (exfalso; omega)) | (refine wq_lt ⟨by omega, by omega⟩ ⟨by omega, by omega⟩ (fun _ => ?_) (fun _ => ?_) <;> try (exfalso; omega)) | (refine wq_ge ⟨by omega, by omega⟩ ⟨by omega, by omega⟩ (fun _ => ?_) (fun _ => ?_) <;> try (exfalso; omega)) | (refine wq_gt ⟨by omega, by omega⟩ ⟨by omega, by omega⟩ (fun _ => ?_) (fun _ => ?_) <;> try (exfalso; omega)) | (refine wq_le ⟨by omega, by omega⟩ ⟨by omega, by omega⟩ (fun _ => ?_) (fun _ => ?_) <;> try (exfalso; omega)) | (refine wq_ifeq ⟨by omega, by omega⟩ (fun _ => ?_) (fun _ => ?_) <;> try (exfalso; omega)) | (refine wq_ifne ⟨by omega, by omega⟩ (fun _ => ?_) (fun _ => ?_) <;> try (exfalso; omega)) | (refine wq_iflt ⟨by omega, by omega⟩ (fun _ => ?_) (fun _ => ?_) <;> try (exfalso; omega)) | (refine wq_ifge ⟨by omega, by omega⟩ (fun _ => ?_) (fun _ => ?_) <;> try (exfalso; omega)) | (refine wq_ifgt ⟨by omega, by omega⟩ (fun _ => ?_) (fun _ => ?_) <;> try (exfalso; omega)) | (refine wq_ifle ⟨by omega, by omega⟩ (fun _ => ?_) (fun _ => ?_) <;> try (exfalso; omega)) | refine wq_r rfl rfl rfl rfl rfl rfl ?_))
      trivial
theorem c_Md_couldBe (h : MS M m S) (hW : WFG S.1) : Wm 179 [.ref m] M (fun v M' => v = some (.int (I (spCould S.1))) ∧ Fr (inM m) M M' ∧ MS M' m S) := by
  obtain ⟨⟨si, re, sp, hO⟩, ⟨f, g1, g2⟩, pb, pc, pd, pe⟩ := id h
  obtain ⟨-, ⟨ft, w1⟩, -, -, -, -, -, -, wL⟩ := id pe
  have hW1 := foldN_wf 26 S.1 hW
  unfold spCould
  refine wm_in (lv := _) rfl rfl rfl ?_
  repeat (refine wf rfl ?_; first | refine wq_iadd ?_ | refine wq_isub ?_ | refine wq_imul ?_ | refine wq_iinc rfl ?_ | refine wq_goto ?_ | refine wq_k rfl ?_ | refine wq_b rfl rfl ?_ | refine wq_getf (by assumption) rfl ?_ | refine wq_alen (by assumption) rfl ?_)
  refine wf rfl (wq_cs rfl rfl ((c_Md_copy rfl g1 w1 (by omega)).mono ?_))
  rintro v M1 ⟨rfl, f1, g, k1, k2⟩
  have hGk : Ga g 0 S.1 := g2.move (fun k hk => by rw [Nat.zero_add, k2 k hk])
  have h1 : Mr M1 m S.1 := h.mr.fr f1 (by omega) (by omega)
  have hO1 : MO M1 m _ si re _ sp := f1.at (by omega) hO
  have hl := fun (_ : True) => lp_mcould (M := M1) (m := m) (T := (foldN 26 S.1).1) (Q := fun v M' => v = some (.int (I (szG (prune 26 (foldN 26 S.1).1).1))) ∧ Fr (inM m) M M' ∧ MS M' m S) (fun M2 h2 f2 => by
    have hO2 : MO M2 m _ si re _ sp := f2.at (by omega) hO1
    repeat (refine wf rfl ?_; first | refine wq_iadd ?_ | refine wq_isub ?_ | refine wq_imul ?_ | refine wq_iinc rfl ?_ | refine wq_goto ?_ | refine wq_k rfl ?_ | refine wq_b rfl rfl ?_ | refine wq_getf (by assumption) rfl ?_ | refine wq_alen (by assumption) rfl ?_)
    refine wf rfl (wq_cv rfl rfl rfl hO2 ((c_Md_prunes h2 ((f1.tr2 f2).arr wL) hW1).mono ?_))
    rintro v M3 ⟨rfl, f3, -, h3, -⟩
    have hO3 : MO M3 m _ si re _ sp := f3.at (by omega) hO2
    have hsz := c_Md_size h3
    rw [smR_sz h3.le] at hsz
    repeat (refine wf rfl ?_; first | refine wq_iadd ?_ | refine wq_isub ?_ | refine wq_imul ?_ | refine wq_iinc rfl ?_ | refine wq_goto ?_ | refine wq_k rfl ?_ | refine wq_b rfl rfl ?_ | refine wq_getf (by assumption) rfl ?_ | refine wq_alen (by assumption) rfl ?_)
    refine wf rfl (wq_cv rfl rfl rfl hO3 (hsz.mono ?_))
    rintro v M3 ⟨rfl, rfl⟩
    have k3 := f3.at (by omega) (f2.at (by omega) k1)
    obtain ⟨f', a1, a2⟩ := h3.2
    repeat (refine wf rfl ?_; first | refine wq_iadd ?_ | refine wq_isub ?_ | refine wq_imul ?_ | refine wq_iinc rfl ?_ | refine wq_goto ?_ | refine wq_k rfl ?_ | refine wq_b rfl rfl ?_ | refine wq_getf (by assumption) rfl ?_ | refine wq_alen (by assumption) rfl ?_)
    refine wf rfl (wq_cs rfl rfl ((c_Md_copy rfl k3 a1 (by omega)).mono ?_))
    rintro v M4 ⟨rfl, f4, g', k4, k5⟩
    have ff : Fr (fun q => q = m + 3 ∨ q = m + 1 ∨ q = m + 13) M M4 := (((f1.mono (fun q hq => Or.inl hq)).tr (f2.mono (fun q hq => Or.inr (Or.inl hq)))).tr (f3.mono (fun q hq => Or.inr hq))).tr (f4.mono (fun q hq => Or.inr (Or.inl hq)))
    repeat' (refine wf rfl ?_; first | refine wq_iadd ?_ | refine wq_isub ?_ | refine wq_imul ?_ | refine wq_iinc rfl ?_ | refine wq_goto ?_ | refine wq_k rfl ?_ | refine wq_b rfl rfl ?_ | refine wq_getf (by assumption) rfl ?_ | refine wq_alen (by assumption) rfl ?_ | (refine wq_eq ⟨by omega, by omega⟩ ⟨by omega, by omega⟩ (fun _ => ?_) (fun _ => ?_) <;> try (exfalso; omega)) | (refine wq_ne ⟨by omega, by omega⟩ ⟨by omega, by omega⟩ (fun _ => ?_) (fun _ => ?_) <;> try (exfalso; omega)) | (refine wq_lt ⟨by omega, by omega⟩ ⟨by omega, by omega⟩ (fun _ => ?_) (fun _ => ?_) <;> try (exfalso; omega)) | (refine wq_ge ⟨by omega, by omega⟩ ⟨by omega, by omega⟩ (fun _ => ?_) (fun _ => ?_) <;> try (exfalso; omega)) | (refine wq_gt ⟨by omega, by omega⟩ ⟨by omega, by omega⟩ (fun _ => ?_) (fun _ => ?_) <;> try (exfalso; omega)) | (refine wq_le ⟨by omega, by omega⟩ ⟨by omega, by omega⟩ (fun _ => ?_) (fun _ => ?_) <;> try (exfalso; omega)) | (refine wq_ifeq ⟨by omega, by omega⟩ (fun _ => ?_) (fun _ => ?_) <;> try (exfalso; omega)) | (refine wq_ifne ⟨by omega, by omega⟩ (fun _ => ?_) (fun _ => ?_) <;> try (exfalso; omega)) | (refine wq_iflt ⟨by omega, by omega⟩ (fun _ => ?_) (fun _ => ?_) <;> try (exfalso; omega)) | (refine wq_ifge ⟨by omega, by omega⟩ (fun _ => ?_) (fun _ => ?_) <;> try (exfalso; omega)) | (refine wq_ifgt ⟨by omega, by omega⟩ (fun _ => ?_) (fun _ => ?_) <;> try (exfalso; omega)) | (refine wq_ifle ⟨by omega, by omega⟩ (fun _ => ?_) (fun _ => ?_) <;> try (exfalso; omega)) | refine wq_r rfl rfl rfl rfl rfl rfl ?_)
    exact ⟨rfl, ff.mono (fun q hq => by unfold inM; omega), ⟨si, re, sp, f4.at (by omega) hO3⟩, ⟨g', k4, hGk.move (fun k hk => by rw [Nat.zero_add, k5 k hk])⟩, pb.fr ff (by omega), pc.fr ff (by omega), pd.fr ff (by omega) (by omega), pe.fr ff⟩) 26 S.1 M1 ⟨by omega, Fr.rf, h1, hW, rfl⟩
  repeat' (first | (refine Wp.sub (hl  ?_) ⟨rfl, rfl, trivial⟩ rfl) | (refine wf rfl ?_; first | refine wq_iadd ?_ | refine wq_isub ?_ | refine wq_imul ?_ | refine wq_iinc rfl ?_ | refine wq_goto ?_ | refine wq_k rfl ?_ | refine wq_b rfl rfl ?_ | refine wq_getf (by assumption) rfl ?_ | refine wq_alen (by assumption) rfl ?_ | fail | (refine wq_eq ⟨by omega, by omega⟩ ⟨by omega, by omega⟩ (fun _ => ?_) (fun _ => ?_) <;> try (exfalso; omega)) | (refine wq_ne ⟨by omega, by omega⟩ ⟨by omega, by omega⟩ (fun _ => ?_) (fun _ => ?_) <;> try (exfalso; omega)) | (refine wq_lt ⟨by omega, by omega⟩ ⟨by omega, by omega⟩ (fun _ => ?_) (fun _ => ?_) <;> try (exfalso; omega)) | (refine wq_ge ⟨by omega, by omega⟩ ⟨by omega, by omega⟩ (fun _ => ?_) (fun _ => ?_) <;> try (exfalso; omega)) | (refine wq_gt ⟨by omega, by omega⟩ ⟨by omega, by omega⟩ (fun _ => ?_) (fun _ => ?_) <;> try (exfalso; omega)) | (refine wq_le ⟨by omega, by omega⟩ ⟨by omega, by omega⟩ (fun _ => ?_) (fun _ => ?_) <;> try (exfalso; omega)) | (refine wq_ifeq ⟨by omega, by omega⟩ (fun _ => ?_) (fun _ => ?_) <;> try (exfalso; omega)) | (refine wq_ifne ⟨by omega, by omega⟩ (fun _ => ?_) (fun _ => ?_) <;> try (exfalso; omega)) | (refine wq_iflt ⟨by omega, by omega⟩ (fun _ => ?_) (fun _ => ?_) <;> try (exfalso; omega)) | (refine wq_ifge ⟨by omega, by omega⟩ (fun _ => ?_) (fun _ => ?_) <;> try (exfalso; omega)) | (refine wq_ifgt ⟨by omega, by omega⟩ (fun _ => ?_) (fun _ => ?_) <;> try (exfalso; omega)) | (refine wq_ifle ⟨by omega, by omega⟩ (fun _ => ?_) (fun _ => ?_) <;> try (exfalso; omega)) | refine wq_r rfl rfl rfl rfl rfl rfl ?_))
  trivial
end MD12
