/-! What the calls answer, and the state behind them: the grammar, the pad, the history, the slots. -/
abbrev ST : Type := GS × List Int × List GS × (Nat → Option GS)
def accS (S : ST) (G : GS) : ST := (G, S.2.1, push S.2.2.1 S.1, S.2.2.2)
def tooB (G : GS) : Bool := decide (9999 < wlG G) || (List.range G.1.length).any (fun j => decide (9999 < ltG G j))
def szG (G : GS) : Int := (G.2.length : Int) + smN (fun j => ((xof G.1 j).length : Int)) G.1.length
def spTell (S : ST) : Int × ST :=
  if rdAns S.2.1 (rdRun S.2.1 (0, ([], []), []) 0) = -6 then
    (if tooB (rdRun S.2.1 (0, ([], []), []) 0).2.2.1 = true then (-4, S)
    else (wlG (rdRun S.2.1 (0, ([], []), []) 0).2.2.1, ((rdRun S.2.1 (0, ([], []), []) 0).2.2.1, [], push S.2.2.1 S.1, S.2.2.2)))
  else (-3, S)
def spFold (t : Int) (S : ST) : Int × ST :=
  if 1 ≤ t ∧ t ≤ 26 then (if (foldN t.toNat S.1).2 = 0 then (-5, S) else (((foldN t.toNat S.1).2 : Int), accS S (foldN t.toNat S.1).1)) else (-2, S)
def spUnroll (r : Int) (S : ST) : Int × ST :=
  if 0 ≤ r ∧ r < S.1.1.length then (if canB S.1 r.toNat = true then (usT S.1 r.toNat, accS S (unrG S.1 r.toNat)) else (-4, S)) else (-1, S)
def spPrune (S : ST) : Int × ST := (((prune 26 S.1).2 : Int), accS S (prune 26 S.1).1)
def opn (G : GS) (p : Int) : Option (List Int × Int) := opnF G.1.length (xof G.1) (lyG G) p 27 G.2
def spEdit (p l : Int) (S : ST) : Int × ST :=
  if 0 ≤ p ∧ p < wlG S.1 then (if 0 ≤ l ∧ l < 8 then (match opn S.1 p with
    | none => (-4, S)
    | some z => (rat z.1 z.2, accS S (S.1.1, rset z.1 z.2 l))) else (-2, S)) else (-1, S)
def spDelete (p : Int) (S : ST) : Int × ST :=
  if 0 ≤ p ∧ p < wlG S.1 then (match opn S.1 p with
    | none => (-4, S)
    | some z => (rat z.1 z.2, accS S (S.1.1, z.1.take z.2.toNat ++ z.1.drop (z.2.toNat + 1)))) else (-1, S)
/-- where a letter is put in: the main row then, and the place in it -/
def spotI (G : GS) (p : Int) : Option (List Int × Int) :=
  if sumL (lyG G) (G.2.take (posL (lyG G) G.2 p).toNat) = p then some (G.2, posL (lyG G) G.2 p) else opn G p
def spInsert (p l : Int) (S : ST) : Int × ST :=
  if 0 ≤ p ∧ p ≤ wlG S.1 then (if 0 ≤ l ∧ l < 8 then (match spotI S.1 p with
    | none => (-4, S)
    | some z => if wlG S.1 = 9999 ∨ z.1.length = 80 then (-4, S) else (wlG S.1 + 1, accS S (S.1.1, z.1.take z.2.toNat ++ l :: z.1.drop z.2.toNat))) else (-2, S)) else (-1, S)
def spLetter (p : Int) (G : GS) : Int := if 0 ≤ p ∧ p < wlG G then (fol (lyG G) (xof G.1) G.1.length G.2 p).1 else -1
def spOpens (p : Int) (G : GS) : Int := if 0 ≤ p ∧ p < wlG G then (fol (lyG G) (xof G.1) G.1.length G.2 p).2 else -1
def spRow (G : GS) (r : Int) : List Int := if 0 ≤ r ∧ r < G.1.length then xof G.1 r.toNat else G.2
def spSymbol (r p : Int) (G : GS) : Int := if r ≠ -6 ∧ ¬ (0 ≤ r ∧ r < G.1.length) then -1 else if 0 ≤ p ∧ p < (spRow G r).length then rat (spRow G r) p else -1
def spOfRule (r w : Int) (G : GS) : Int := if 0 ≤ r ∧ r < G.1.length then (if w = 0 then ((xof G.1 r.toNat).length : Int) else if w = 1 then ltG G r.toNat else if w = 2 then usT G r.toNat else if w = 3 then dpG G r.toNat else -2) else -1
def spCount (w : Int) (S : ST) : Int := if w = 0 then wlG S.1 else if w = 1 then (S.1.2.length : Int) else if w = 2 then (S.1.1.length : Int) else if w = 3 then szG S.1 else if w = 4 then mxN (dpG S.1) S.1.1.length else if w = 5 then smN (fun j => if usT S.1 j = 0 then 1 else 0) S.1.1.length else if w = 6 then (S.2.1.length : Int) else if w = 7 then (S.2.2.1.length : Int) else -2
def isSy (G : GS) (s : Int) : Prop := 0 ≤ s ∧ s < 8 + G.1.length
def spPair (f s : Int) (G : GS) : Int := if (0 ≤ f ∧ f < 8 + G.1.length) ∧ (0 ≤ s ∧ s < 8 + G.1.length) then (cnt2 f s G.2 : Int) else -1
def spBest (w : Int) (G : GS) : Int := if 0 ≤ w ∧ w ≤ 2 then (if G.2.length < 2 then -6 else if w = 0 then (bstAll G.2 0 0).1 else if w = 1 then (bstAll G.2 0 0).2.1 else (bstAll G.2 0 0).2.2) else -2
def spCould (G : GS) : Int := szG (prune 26 (foldN 26 G).1).1
def spWipe (S : ST) : Int × ST := ((S.2.1.length : Int), (S.1, [], S.2.2.1, S.2.2.2))
def spFault (S : ST) : Int := rdAns S.2.1 (rdRun S.2.1 (0, ([], []), []) 0)
def spUndo (S : ST) : Int × ST := match S.2.2.1.getLast? with
  | none => (-5, S)
  | some G => ((S.2.2.1.length : Int) - 1, (G, S.2.1, S.2.2.1.dropLast, S.2.2.2))
def spSave (i : Int) (S : ST) : Int × ST := if 0 ≤ i ∧ i < 2 then ((S.1.1.length : Int), (S.1, S.2.1, S.2.2.1, fun j => if j = i.toNat then some S.1 else S.2.2.2 j)) else (-2, S)
def spRestore (i : Int) (S : ST) : Int × ST := if 0 ≤ i ∧ i < 2 then (match S.2.2.2 i.toNat with
  | none => (-5, S)
  | some G => ((G.1.length : Int), accS S G)) else (-2, S)
/-! The Model's whole state. -/
def inM (m q : Nat) : Prop := m ≤ q ∧ q < m + 15
def WA (M : PM) (m : Nat) : Prop := (∃ f, M[m + 2]? = some (aJ 2188 f)) ∧ (∃ f, M[m + 3]? = some (aJ 2188 f)) ∧ (∃ f, M[m + 7]? = some (aJ 27 f)) ∧ (∃ f, M[m + 8]? = some (aJ 26 f)) ∧ (∃ f, M[m + 9]? = some (aJ 9999 f)) ∧ (∃ f, M[m + 10]? = some (aJ 9999 f)) ∧ (∃ f, M[m + 11]? = some (aJ 28 f)) ∧ (∃ f, M[m + 12]? = some (aJ 28 f)) ∧ (∃ f, M[m + 13]? = some (aJ 80 f))
theorem WA.fr {P : Nat → Prop} {M M' : PM} {m : Nat} (h : WA M m) (k : Fr P M M') : WA M' m := by
  obtain ⟨a, b, c, d, e, f, g, h, i⟩ := h
  exact ⟨k.arr a, k.arr b, k.arr c, k.arr d, k.arr e, k.arr f, k.arr g, k.arr h, k.arr i⟩
def HA (M : PM) (m : Nat) (hist : List GS) : Prop := (∃ f, M[m + 4]? = some (aJ 13128 f) ∧ HG f hist) ∧ hist.length ≤ 6
def SA (M : PM) (m : Nat) (sl : Nat → Option GS) : Prop := (∃ f, M[m + 5]? = some (aJ 4376 f) ∧ ∀ i G', i < 2 → sl i = some G' → Ga f (2188 * i) G') ∧ (∃ f, M[m + 6]? = some (aJ 2 f) ∧ ∀ i, i < 2 → f i = if (sl i).isSome then 1 else 0)
def PA (M : PM) (m : Nat) (pad : List Int) : Prop := (∃ f, M[m + 14]? = some (aJ 80 f) ∧ Lw f 0 pad) ∧ pad.length ≤ 80
def GA (M : PM) (m : Nat) (G : GS) : Prop := ∃ f, M[m + 1]? = some (aJ 2188 f) ∧ Ga f 0 G
def MS (M : PM) (m : Nat) (S : ST) : Prop := (∃ si re sp, MO M m (S.2.2.1.length : Nat) si re (S.2.1.length : Nat) sp) ∧ GA M m S.1 ∧ PA M m S.2.1 ∧ HA M m S.2.2.1 ∧ SA M m S.2.2.2 ∧ WA M m
theorem MS.mr {M : PM} {m : Nat} {S : ST} (h : MS M m S) : Mr M m S.1 := by
  obtain ⟨⟨si, re, sp, hO⟩, ⟨f, h1, h2⟩, -⟩ := h
  exact ⟨⟨_, _, _, _, _, hO⟩, f, h1, h2⟩
theorem HA.fr {P : Nat → Prop} {M M' : PM} {m : Nat} {hist : List GS} (h : HA M m hist) (k : Fr P M M') (h4 : ¬ P (m + 4)) : HA M' m hist := by
  obtain ⟨⟨f, a, b⟩, c⟩ := h
  exact ⟨⟨f, k.at h4 a, b⟩, c⟩
theorem PA.fr {P : Nat → Prop} {M M' : PM} {m : Nat} {pad : List Int} (h : PA M m pad) (k : Fr P M M') (h4 : ¬ P (m + 14)) : PA M' m pad := by
  obtain ⟨⟨f, a, b⟩, c⟩ := h
  exact ⟨⟨f, k.at h4 a, b⟩, c⟩
theorem SA.fr {P : Nat → Prop} {M M' : PM} {m : Nat} {sl : Nat → Option GS} (h : SA M m sl) (k : Fr P M M') (h5 : ¬ P (m + 5)) (h6 : ¬ P (m + 6)) : SA M' m sl := by
  obtain ⟨⟨f, a, b⟩, ⟨g, c, d⟩⟩ := h
  exact ⟨⟨f, k.at h5 a, b⟩, g, k.at h6 c, d⟩
theorem GA.fr {P : Nat → Prop} {M M' : PM} {m : Nat} {G : GS} (h : GA M m G) (k : Fr P M M') (h1 : ¬ P (m + 1)) : GA M' m G := by
  obtain ⟨f, a, b⟩ := h
  exact ⟨f, k.at h1 a, b⟩
/-- only the Model's work cells changed -/
theorem MS.work {P : Nat → Prop} {M M' : PM} {m : Nat} {S : ST} (h : MS M m S) (k : Fr P M M') (h0 : ¬ P m) (h1 : ¬ P (m + 1)) (h4 : ¬ P (m + 4)) (h5 : ¬ P (m + 5)) (h6 : ¬ P (m + 6)) (h14 : ¬ P (m + 14)) : MS M' m S := by
  obtain ⟨⟨si, re, sp, hO⟩, a, b, c, d, e⟩ := h
  exact ⟨⟨si, re, sp, k.at h0 hO⟩, a.fr k h1, b.fr k h14, c.fr k h4, d.fr k h5 h6, e.fr k⟩
theorem push_len {hist : List GS} {G : GS} (h : hist.length ≤ 6) : (push hist G).length ≤ 6 := by
  unfold push
  rw [List.length_append]
  split
  · rw [List.length_tail]; simp; omega
  · simp; omega
theorem smR_sz {G : GS} (hN : G.1.length ≤ 26) : smR G (fun xs => (xs.length : Int)) (G.1.length + 1) = szG G := by
  have h : ∀ k : Nat, k ≤ G.1.length → smR G (fun xs => (xs.length : Int)) k = smN (fun j => ((xof G.1 j).length : Int)) k := by
    intro k
    induction k with
    | zero => intro _; rw [smR, smN]
    | succ k ih => intro hk; rw [smR, smN, ih (by omega), rwN_lt (by omega) hN]
  rw [smR, h _ (Nat.le_refl _), rwN_ge G (Nat.le_refl _)]
  unfold szG
  omega
section MD12
variable {M : PM} {m : Nat} {S : ST}
theorem Fr.tr2 {P P' : Nat → Prop} {M M1 M2 : PM} (h : Fr P M M1) (k : Fr P' M1 M2) : Fr (fun q => P q ∨ P' q) M M2 := (h.mono (fun q hq => Or.inl hq)).tr (k.mono (fun q hq => Or.inr hq))
theorem foldN_wf : ∀ (n : Nat) (G : GS), WFG G → WFG (foldN n G).1
  | 0, G, h => by rw [foldN]; exact h
  | n + 1, G, h => by
    rw [foldN]
    split
    · rename_i hB
      exact foldN_wf n _ (h.fold hB)
    · exact h
end MD12
