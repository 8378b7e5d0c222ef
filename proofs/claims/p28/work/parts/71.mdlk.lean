/-! The word that a grammar tells. -/
def telF (X : Nat → List Int) (n : Nat) (s : Int) : List Int := if s = 8 + (n : Int) then X n else [s]
def tel (X : Nat → List Int) : Nat → List Int → List Int
  | 0, xs => xs
  | n + 1, xs => tel X n (xs.flatMap (telF X n))
theorem tel_nil (X : Nat → List Int) : ∀ n, tel X n [] = []
  | 0 => rfl
  | n + 1 => by rw [tel, List.flatMap_nil, tel_nil X n]
theorem tel_app (X : Nat → List Int) : ∀ (n : Nat) (xs ys : List Int), tel X n (xs ++ ys) = tel X n xs ++ tel X n ys
  | 0, xs, ys => rfl
  | n + 1, xs, ys => by rw [tel, tel, tel, List.flatMap_append, tel_app X n]
theorem tel_cons (X : Nat → List Int) (n : Nat) (s : Int) (xs : List Int) : tel X n (s :: xs) = tel X n [s] ++ tel X n xs := by
  rw [← tel_app]; rfl
theorem flat_low {X : Nat → List Int} {n : Nat} : ∀ {xs : List Int}, (∀ s ∈ xs, s < 8 + (n : Int)) → xs.flatMap (telF X n) = xs
  | [], _ => rfl
  | s :: r, h => by
    have h1 := h s List.mem_cons_self
    rw [List.flatMap_cons, flat_low (fun x hx => h x (List.mem_cons_of_mem _ hx))]
    unfold telF
    rw [if_neg (by omega)]
    rfl
theorem tel_low {X : Nat → List Int} {k : Nat} {xs : List Int} (h : ∀ s ∈ xs, s < 8 + (k : Int)) : ∀ n, k ≤ n → tel X n xs = tel X k xs
  | 0, hk => by
    have : k = 0 := by omega
    subst this; rfl
  | n + 1, hk => by
    by_cases he : k = n + 1
    · subst he; rfl
    · rw [tel, flat_low (fun s hs => by have := h s hs; omega), tel_low h n (by omega)]
theorem tel_letter {X : Nat → List Int} {s : Int} (h : s < 8) (n : Nat) : tel X n [s] = [s] := by
  rw [tel_low (k := 0) (fun x hx => by rw [List.mem_singleton.mp hx]; omega) n (by omega), tel]
theorem tel_rule {X : Nat → List Int} {j n : Nat} (h : j < n) : tel X n [8 + (j : Int)] = tel X j (X j) := by
  rw [tel_low (k := j + 1) (fun x hx => by rw [List.mem_singleton.mp hx]; omega) n (by omega), tel]
  congr 1
  show telF X j (8 + (j : Int)) ++ [] = X j
  unfold telF
  rw [if_pos rfl, List.append_nil]
def wordG (G : GS) : List Int := tel (xof G.1) G.1.length G.2
def OKG (G : GS) : Prop := WFG G ∧ wlG G ≤ 9999 ∧ ∀ j, j < G.1.length → ltG G j ≤ 9999
theorem OKG.lt {G : GS} (h : OKG G) {j : Nat} (hj : j < G.1.length) : ltG G j = sumL (lyG G) (xof G.1 j) := by
  have h1 := ltG_fix h.1 hj
  have h2 := h.2.2 j hj
  omega
theorem OKG.wl {G : GS} (h : OKG G) : wlG G = sumL (lyG G) G.2 := by
  have h1 : wlG G = min (sumL (lyG G) G.2) 10000 := rfl
  have h2 := h.2.1
  omega
theorem tel_len {G : GS} (h : OKG G) : ∀ (k : Nat), k ≤ G.1.length → ∀ xs : List Int, (∀ s ∈ xs, s < 8 + (k : Int)) → ((tel (xof G.1) k xs).length : Int) = sumL (lyG G) xs
  | 0, _, xs, hx => by
    rw [tel]
    induction xs with
    | nil => rfl
    | cons x r ih =>
      have h1 := hx x List.mem_cons_self
      rw [List.length_cons, sumL, lyG_letter (by omega), ← ih (fun s hs => hx s (List.mem_cons_of_mem _ hs))]
      omega
  | k + 1, hk, xs, hx => by
    rw [tel, tel_len h k (by omega)]
    · induction xs with
      | nil => rfl
      | cons x r ih =>
        rw [List.flatMap_cons, sumL_app, sumL, ih (fun s hs => hx s (List.mem_cons_of_mem _ hs))]
        congr 1
        unfold telF
        split
        · rename_i he
          subst he
          rw [lyG_rule (by omega) (by omega), show (8 + (k : Int) - 8).toNat = k by omega, h.lt (by omega)]
        · simp [sumL]
    · intro s hs
      obtain ⟨x, hx1, hx2⟩ := List.mem_flatMap.mp hs
      unfold telF at hx2
      split at hx2
      · have := h.1.1 k (by omega) s hx2
        omega
      · rw [List.mem_singleton.mp hx2]
        have := hx x hx1
        omega
theorem word_len {G : GS} (h : OKG G) : ((wordG G).length : Int) = wlG G := by
  unfold wordG
  rw [tel_len h _ (Nat.le_refl _) _ (fun s hs => (h.1.2.1 s hs).2), h.wl]
theorem tel_letters {X : Nat → List Int} {N : Nat} (hX : WFX N X) : ∀ (k : Nat), k ≤ N → ∀ xs : List Int, (∀ s ∈ xs, 0 ≤ s ∧ s < 8 + (k : Int)) → ∀ s ∈ tel X k xs, 0 ≤ s ∧ s < 8
  | 0, _, xs, hx => by
    rw [tel]
    intro s hs
    have := hx s hs
    omega
  | k + 1, hk, xs, hx => by
    rw [tel]
    refine tel_letters hX k (by omega) _ (fun s hs => ?_)
    obtain ⟨x, hx1, hx2⟩ := List.mem_flatMap.mp hs
    unfold telF at hx2
    split at hx2
    · exact hX k (by omega) s hx2
    · rw [List.mem_singleton.mp hx2]
      have := hx x hx1
      omega
theorem word_letters {G : GS} (h : WFG G) : ∀ s ∈ wordG G, 0 ≤ s ∧ s < 8 := tel_letters h.1 _ (Nat.le_refl _) _ h.2.1
section MD20
variable {M : PM} {m : Nat} {G : GS}
theorem Ga.rowo {f : Nat → Int} {o : Nat} (h : Ga f o G) {r : Int} (hr : vrG G r) : 0 ≤ r ∧ r ≤ 26 ∧ f ((o : Int) + 81 * r).toNat = ((rwG G r).length : Int) ∧ (rwG G r).length ≤ 80 ∧ ∀ p : Int, 0 ≤ p → p < (rwG G r).length → f ((o : Int) + 81 * r + 1 + p).toNat = rat (rwG G r) p := by
  have h0 : Ga (fun k => f (o + k)) 0 G := h.move (fun k _ => by rw [Nat.zero_add])
  obtain ⟨h1, h2, h3, h4, h5⟩ := h0.row hr
  refine ⟨h1, h2, ?_, h4, fun p p0 p1 => ?_⟩
  · rw [← h3]
    congr 1
    omega
  · rw [← h5 p p0 p1]
    congr 1
    omega
end MD20
