/-! The Model reads its pad. -/
theorem drop_at {xs : List Int} {k : Int} (h0 : 0 ≤ k) (h1 : k < xs.length) : xs.drop k.toNat = rat xs k :: xs.drop (k + 1).toNat := by
  have hd := drop1 (xs := xs) (p := k.toNat) (by omega)
  rw [show ((k.toNat : Nat) : Int) = k by omega] at hd
  rw [hd, show (k + 1).toNat = k.toNat + 1 by omega]
theorem rd_fail {xs : List Int} {j st : Int} {G : GS} {ru : List Int} (h0 : 0 ≤ j) (h1 : j ≤ xs.length) (h4 : st ≠ 4) (hs : j < xs.length → (rdStep (st, G, ru) (rat xs j)).1 = 5) : rdAns xs (rdRun (xs.drop j.toNat) (st, G, ru) j) = j := by
  by_cases hj : j < xs.length
  · rw [drop_at h0 hj, rdRun, if_pos (hs hj)]
    unfold rdAns
    rw [if_neg (by dsimp only; omega)]
  · rw [List.drop_eq_nil_of_le (by omega), rdRun]
    unfold rdAns
    rw [if_pos rfl, if_neg h4]
    omega
theorem rd_fail4 {xs : List Int} {j : Int} {G : GS} {ru : List Int} (h0 : 0 ≤ j) (h1 : j < xs.length) (hs : (rdStep (4, G, ru) (rat xs j)).1 = 5) : rdAns xs (rdRun (xs.drop j.toNat) (4, G, ru) j) = j := by
  rw [drop_at h0 h1, rdRun, if_pos hs]
  unfold rdAns
  rw [if_neg (by dsimp only; omega)]
theorem bad4 {G : GS} {ru : List Int} {c : Int} (h : ¬ isym G.1.length c) : (rdStep (4, G, ru) c).1 = 5 := by
  unfold rdStep grM
  dsimp only
  rw [if_neg (by omega), if_neg (by omega), if_neg (by omega), if_neg (by omega), if_neg (fun z => h ⟨z.1, z.2.1⟩)]
theorem bad3 {G : GS} {ru : List Int} {c : Int} (h : ¬ isym G.1.length c) (h2 : c ≠ 59) : (rdStep (3, G, ru) c).1 = 5 := by
  unfold rdStep rd3 grR
  dsimp only
  rw [if_neg (by omega), if_neg (by omega), if_neg (by omega), if_pos rfl, if_neg h2, if_neg (fun z => h ⟨z.1, z.2.1⟩)]
theorem bad2 {G : GS} {ru : List Int} {c : Int} (h : ¬ isym G.1.length c) : (rdStep (2, G, ru) c).1 = 5 := by
  unfold rdStep grR
  dsimp only
  rw [if_neg (by omega), if_neg (by omega), if_pos rfl, if_neg (fun z => h ⟨z.1, z.2.1⟩)]
theorem bad0 {G : GS} {ru : List Int} {c : Int} (h : ¬ isym G.1.length c) (h2 : syC c ≠ 8 + (G.1.length : Int)) : (rdStep (0, G, ru) c).1 = 5 := by
  unfold rdStep rd0 grM
  dsimp only
  rw [if_pos rfl, if_neg h2, if_neg (fun z => h ⟨z.1, z.2.1⟩)]
theorem bad1 {G : GS} {ru : List Int} {c : Int} (h : c ≠ 61) : (rdStep (1, G, ru) c).1 = 5 := by
  unfold rdStep
  dsimp only
  rw [if_neg (by omega), if_pos rfl, if_neg h]
theorem rn_bad {N : Nat} {xs : List Int} {k : Int} (h0 : 0 ≤ k) (h1 : k + (rn N (xs.drop k.toNat)).length < xs.length) : ¬ isym N (rat xs (k + (rn N (xs.drop k.toNat)).length)) := by
  refine rn_stop N (xs.drop k.toNat) _ ?_
  rw [List.getElem?_drop]
  have hg := List.getElem?_eq_getElem (l := xs) (i := (k + ((rn N (xs.drop k.toNat)).length : Int)).toNat) (by omega)
  rw [rat_in (by omega) hg, ← hg]
  congr 1
  omega
theorem Rf.congr' {f f' : Nat → Int} {j : Nat} {xs : List Int} (h : Rf f (81 * j) xs) (e : ∀ q, 81 * j ≤ q → q ≤ 81 * j + 80 → f' q = f q) : Rf f' (0 + 81 * j) xs := by
  rw [Nat.zero_add]
  exact h.congr e
section MD17
variable {M : PM} {m : Nat}
def syN (N : Nat) (c : Int) : Int := if 0 ≤ syC c ∧ syC c < 8 + (N : Int) then syC c else -6
variable {hl si re : Int} {xs : List Int}
abbrev rrPost (M : PM) (m : Nat) (hl si re : Int) (xs : List Int) (r : Int) (N : Nat) (k0 : Int) (g0 : Nat → Int) : Option Value → PM → Prop := fun v M' => v = some (.int (I (if 0 < (rn N (xs.drop k0.toNat)).length then 1 else 0))) ∧ Fr (fun q => q = m ∨ q = m + 3) M M' ∧ MO M' m hl si re (xs.length : Nat) (k0 + (rn N (xs.drop k0.toNat)).length) ∧ ∃ g, M'[m + 3]? = some (aJ 2188 g) ∧ Rf g (81 * r).toNat (rn N (xs.drop k0.toNat)) ∧ ∀ q : Nat, ((q : Int) < 81 * r ∨ 81 * r + 80 < q) → g q = g0 q
abbrev fltPost (M : PM) (m : Nat) (hl si re : Int) (xs : List Int) (RR : Int × RS) : Option Value → PM → Prop := fun v M' => v = some (.int (I (rdAns xs RR))) ∧ Fr (fun q => q = m ∨ q = m + 3) M M' ∧ (∃ sp, MO M' m hl si re (xs.length : Nat) sp) ∧ (rdAns xs RR = -6 → ∃ g, M'[m + 3]? = some (aJ 2188 g) ∧ Ga g 0 RR.2.2.1)
end MD17
