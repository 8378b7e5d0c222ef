/-! The word that a grammar tells. -/
def telF (X : Nat → List Int) (n : Nat) (s : Int) : List Int := if s = 8 + (n : Int) then X n else [s]
def tel (X : Nat → List Int) : Nat → List Int → List Int
  | 0, xs => xs
  | n + 1, xs => tel X n (xs.flatMap (telF X n))
theorem tel_nil (X : Nat → List Int) : ∀ n, tel X n [] = []
  | 0 => rfl
  | n + 1 => by rw [tel, List.flatMap_nil, tel_nil X n]
theorem tel_app (X : Nat → List Int) : ∀ (n : Nat) (xs ys : List Int), tel X n (xs ++ ys) = tel X n xs ++ tel X n ys
  | 0, xs, ys => rfl
  | n + 1, xs, ys => by rw [tel, tel, tel, List.flatMap_append, tel_app X n]
theorem tel_cons (X : Nat → List Int) (n : Nat) (s : Int) (xs : List Int) : tel X n (s :: xs) = tel X n [s] ++ tel X n xs := by
  rw [← tel_app]; rfl
theorem flat_low {X : Nat → List Int} {n : Nat} : ∀ {xs : List Int}, (∀ s ∈ xs, s < 8 + (n : Int)) → xs.flatMap (telF X n) = xs
  | [], _ => rfl
  | s :: r, h => by
    have h1 := h s List.mem_cons_self
    rw [List.flatMap_cons, flat_low (fun x hx => h x (List.mem_cons_of_mem _ hx))]
    unfold telF
    rw [if_neg (by omega)]
    rfl
theorem tel_low {X : Nat → List Int} {k : Nat} {xs : List Int} (h : ∀ s ∈ xs, s < 8 + (k : Int)) : ∀ n, k ≤ n → tel X n xs = tel X k xs
  | 0, hk => by
    have : k = 0 := by omega
    subst this; rfl
  | n + 1, hk => by
    by_cases he : k = n + 1
    · subst he; rfl
    · rw [tel, flat_low (fun s hs => by have := h s hs; omega), tel_low h n (by omega)]
theorem tel_letter {X : Nat → List Int} {s : Int} (h : s < 8) (n : Nat) : tel X n [s] = [s] := by
  rw [tel_low (k := 0) (fun x hx => by rw [List.mem_singleton.mp hx]; omega) n (by omega), tel]
theorem tel_rule {X : Nat → List Int} {j n : Nat} (h : j < n) : tel X n [8 + (j : Int)] = tel X j (X j) := by
  rw [tel_low (k := j + 1) (fun x hx => by rw [List.mem_singleton.mp hx]; omega) n (by omega), tel]
  congr 1
  show telF X j (8 + (j : Int)) ++ [] = X j
  unfold telF
  rw [if_pos rfl, List.append_nil]
def wordG (G : GS) : List Int := tel (xof G.1) G.1.length G.2
def OKG (G : GS) : Prop := WFG G ∧ wlG G ≤ 9999 ∧ ∀ j, j < G.1.length → ltG G j ≤ 9999
theorem OKG.lt {G : GS} (h : OKG G) {j : Nat} (hj : j < G.1.length) : ltG G j = sumL (lyG G) (xof G.1 j) := by
  have h1 := ltG_fix h.1 hj
  have h2 := h.2.2 j hj
  omega
theorem OKG.wl {G : GS} (h : OKG G) : wlG G = sumL (lyG G) G.2 := by
  have h1 : wlG G = min (sumL (lyG G) G.2) 10000 := rfl
  have h2 := h.2.1
  omega
theorem tel_len {G : GS} (h : OKG G) : ∀ (k : Nat), k ≤ G.1.length → ∀ xs : List Int, (∀ s ∈ xs, s < 8 + (k : Int)) → ((tel (xof G.1) k xs).length : Int) = sumL (lyG G) xs
  | 0, _, xs, hx => by
    rw [tel]
    induction xs with
    | nil => rfl
    | cons x r ih =>
      have h1 := hx x List.mem_cons_self
      rw [List.length_cons, sumL, lyG_letter (by omega), ← ih (fun s hs => hx s (List.mem_cons_of_mem _ hs))]
      omega
  | k + 1, hk, xs, hx => by
    rw [tel, tel_len h k (by omega)]
    · induction xs with
      | nil => rfl
      | cons x r ih =>
        rw [List.flatMap_cons, sumL_app, sumL, ih (fun s hs => hx s (List.mem_cons_of_mem _ hs))]
        congr 1
        unfold telF
        split
        · rename_i he
          subst he
          rw [lyG_rule (by omega) (by omega), show (8 + (k : Int) - 8).toNat = k by omega, h.lt (by omega)]
        · simp [sumL]
    · intro s hs
      obtain ⟨x, hx1, hx2⟩ := List.mem_flatMap.mp hs
      unfold telF at hx2
      split at hx2
      · have := h.1.1 k (by omega) s hx2
        omega
      · rw [List.mem_singleton.mp hx2]
        have := hx x hx1
        omega
theorem word_len {G : GS} (h : OKG G) : ((wordG G).length : Int) = wlG G := by
  unfold wordG
  rw [tel_len h _ (Nat.le_refl _) _ (fun s hs => (h.1.2.1 s hs).2), h.wl]
theorem tel_letters {X : Nat → List Int} {N : Nat} (hX : WFX N X) : ∀ (k : Nat), k ≤ N → ∀ xs : List Int, (∀ s ∈ xs, 0 ≤ s ∧ s < 8 + (k : Int)) → ∀ s ∈ tel X k xs, 0 ≤ s ∧ s < 8
  | 0, _, xs, hx => by
    rw [tel]
    intro s hs
    have := hx s hs
    omega
  | k + 1, hk, xs, hx => by
    rw [tel]
    refine tel_letters hX k (by omega) _ (fun s hs => ?_)
    obtain ⟨x, hx1, hx2⟩ := List.mem_flatMap.mp hs
    unfold telF at hx2
    split at hx2
    · exact hX k (by omega) s hx2
    · rw [List.mem_singleton.mp hx2]
      have := hx x hx1
      omega
theorem word_letters {G : GS} (h : WFG G) : ∀ s ∈ wordG G, 0 ≤ s ∧ s < 8 := tel_letters h.1 _ (Nat.le_refl _) _ h.2.1
section MD20
variable {M : PM} {m : Nat} {G : GS}
theorem Ga.rowo {f : Nat → Int} {o : Nat} (h : Ga f o G) {r : Int} (hr : vrG G r) : 0 ≤ r ∧ r ≤ 26 ∧ f ((o : Int) + 81 * r).toNat = ((rwG G r).length : Int) ∧ (rwG G r).length ≤ 80 ∧ ∀ p : Int, 0 ≤ p → p < (rwG G r).length → f ((o : Int) + 81 * r + 1 + p).toNat = rat (rwG G r) p := by
  have h0 : Ga (fun k => f (o + k)) 0 G := h.move (fun k _ => by rw [Nat.zero_add])
  obtain ⟨h1, h2, h3, h4, h5⟩ := h0.row hr
  refine ⟨h1, h2, ?_, h4, fun p p0 p1 => ?_⟩
  · rw [← h3]
    congr 1
    omega
  · rw [← h5 p p0 p1]
    congr 1
    omega
theorem lp_tw {a b c d e : Int} {af ai o sz : Nat} {f : Nat → Int} (hO : MO M m a b c d e) (hW : WFG G) (hN : G.1.length ≤ 26) (hF : M[af]? = some (aJ sz f)) (hG : Ga f o G) (ho : o + 2188 ≤ sz) (hsz : sz ≤ 5000) (hai : ai = m + 9 ∨ ai = m + 10) (haf : af = m + 1 ∨ af = m + 5) {Q : Option Value → PM → Prop} (k : Nat) : ∀ (len : Nat) (r p lv : Int) (acc : List Int) (ri pi w : Nat → Int) (M1 : PM), k ≤ G.1.length → (rwG G r).length - p.toNat ≤ len → vrG G r → 0 ≤ p → p ≤ (rwG G r).length → (∀ s ∈ rwG G r, 0 ≤ s ∧ s < 8 + (k : Int)) → 0 ≤ lv → lv + k ≤ 27 → acc.length + (tel (xof G.1) k ((rwG G r).drop p.toNat)).length ≤ 9999 → Fr (fun q => q = m + 11 ∨ q = m + 12 ∨ q = ai) M M1 → M1[m + 11]? = some (aJ 28 ri) → M1[m + 12]? = some (aJ 28 pi) → M1[ai]? = some (aJ 9999 w) → ri lv.toNat = r → pi lv.toNat = p → Lw w 0 acc →
    (∀ (M2 : PM) (ri2 pi2 w2 : Nat → Int), Fr (fun q => q = m + 11 ∨ q = m + 12 ∨ q = ai) M M2 → M2[m + 11]? = some (aJ 28 ri2) → (∀ i : Nat, (i : Int) ≤ lv → ri2 i = ri i) → M2[m + 12]? = some (aJ 28 pi2) → (∀ i : Nat, (i : Int) < lv → pi2 i = pi i) → pi2 lv.toNat = (rwG G r).length → M2[ai]? = some (aJ 9999 w2) → Lw w2 0 (acc ++ tel (xof G.1) k ((rwG G r).drop p.toNat)) → Wp k_X10_tellsWord (21, [(0, .ref m), (1, .ref af), (2, .int (I o)), (3, .ref ai), (4, .int (I ((acc ++ tel (xof G.1) k ((rwG G r).drop p.toNat)).length : Nat))), (5, .int (I lv))], [], M2) Q) →
    Wp k_X10_tellsWord (21, [(0, .ref m), (1, .ref af), (2, .int (I o)), (3, .ref ai), (4, .int (I (acc.length : Nat))), (5, .int (I lv))], [], M1) Q := by
  induction k using Nat.strongRecOn with
  | ind k ihk =>
    intro len
    induction len with
    | zero =>
      intro r p lv acc ri pi w M1 i0 i1 i2 i3 i4 i5 i6 i7 i8 i9 j1 j2 j3 j4 j5 j6 hk
      have hd : (rwG G r).drop p.toNat = [] := List.drop_eq_nil_of_le (by omega)
      rw [hd, tel_nil, List.append_nil] at hk
      exact hk M1 ri pi w i9 j1 (fun _ _ => rfl) j2 (fun _ _ => rfl) (by rw [j5]; omega) j3 j6
    | succ len ih =>
      intro r p lv acc ri pi w M1 i0 i1 i2 i3 i4 i5 i6 i7 i8 i9 j1 j2 j3 j4 j5 j6 hk
      by_cases hp : p < (rwG G r).length
      · have hO1 : MO M1 m a b c d e := i9.at (by omega) hO
        have hF1 := i9.at (by omega) hF
        obtain ⟨g1, g2, g3, g4, g5⟩ := hG.rowo i2
        have hs := i5 _ (rat_mem i3 hp)
        have hdr := drop_at (xs := rwG G r) i3 hp
        rw [hdr, tel_cons] at hk i8
        have g5 := g5 p i3 hp
        generalize rat (rwG G r) p = s at *
        have hil := c_Md_isLetter (M := M1) (s := s) ⟨by omega, by omega⟩
        repeat (refine wf rfl ?_; first | refine wq_iadd ?_ | refine wq_isub ?_ | refine wq_imul ?_ | refine wq_iinc rfl ?_ | refine wq_goto ?_ | refine wq_k rfl ?_ | refine wq_b rfl rfl ?_ | refine wq_getf (by assumption) rfl ?_ | refine wq_alen (by assumption) rfl ?_)
        refine wf rfl (wq_iflt ⟨by omega, by omega⟩ (fun c9 => by exfalso; omega) (fun _ => ?_))
        repeat (refine wf rfl ?_; first | refine wq_iadd ?_ | refine wq_isub ?_ | refine wq_imul ?_ | refine wq_iinc rfl ?_ | refine wq_goto ?_ | refine wq_k rfl ?_ | refine wq_b rfl rfl ?_ | refine wq_getf (by assumption) rfl ?_ | refine wq_alen (by assumption) rfl ?_)
        refine wf rfl (wq_iald j1 ⟨by omega, by omega⟩ (by omega) (by omega) ?_)
        rw [j4]
        repeat (refine wf rfl ?_; first | refine wq_iadd ?_ | refine wq_isub ?_ | refine wq_imul ?_ | refine wq_iinc rfl ?_ | refine wq_goto ?_ | refine wq_k rfl ?_ | refine wq_b rfl rfl ?_ | refine wq_getf (by assumption) rfl ?_ | refine wq_alen (by assumption) rfl ?_)
        refine wf rfl (wq_iald j2 ⟨by omega, by omega⟩ (by omega) (by omega) ?_)
        rw [j5]
        repeat (refine wf rfl ?_; first | refine wq_iadd ?_ | refine wq_isub ?_ | refine wq_imul ?_ | refine wq_iinc rfl ?_ | refine wq_goto ?_ | refine wq_k rfl ?_ | refine wq_b rfl rfl ?_ | refine wq_getf (by assumption) rfl ?_ | refine wq_alen (by assumption) rfl ?_)
        refine wf rfl (wq_iald hF1 ⟨by omega, by omega⟩ (by omega) (by omega) ?_)
        rw [g3]
        refine wf rfl (wq_ne ⟨by omega, by omega⟩ ⟨by omega, by omega⟩ (fun _ => ?_) (fun c9 => by exfalso; omega))
        repeat (refine wf rfl ?_; first | refine wq_iadd ?_ | refine wq_isub ?_ | refine wq_imul ?_ | refine wq_iinc rfl ?_ | refine wq_goto ?_ | refine wq_k rfl ?_ | refine wq_b rfl rfl ?_ | refine wq_getf (by assumption) rfl ?_ | refine wq_alen (by assumption) rfl ?_)
        refine wf rfl (wq_iald j2 ⟨by omega, by omega⟩ (by omega) (by omega) ?_)
        rw [j5]
        repeat (refine wf rfl ?_; first | refine wq_iadd ?_ | refine wq_isub ?_ | refine wq_imul ?_ | refine wq_iinc rfl ?_ | refine wq_goto ?_ | refine wq_k rfl ?_ | refine wq_b rfl rfl ?_ | refine wq_getf (by assumption) rfl ?_ | refine wq_alen (by assumption) rfl ?_)
        refine wf rfl (wq_iald hF1 ⟨by omega, by omega⟩ (by omega) (by omega) ?_)
        rw [g5]
        repeat (refine wf rfl ?_; first | refine wq_iadd ?_ | refine wq_isub ?_ | refine wq_imul ?_ | refine wq_iinc rfl ?_ | refine wq_goto ?_ | refine wq_k rfl ?_ | refine wq_b rfl rfl ?_ | refine wq_getf (by assumption) rfl ?_ | refine wq_alen (by assumption) rfl ?_)
        refine wf rfl (wq_iald j2 ⟨by omega, by omega⟩ (by omega) (by omega) ?_)
        rw [j5]
        repeat (refine wf rfl ?_; first | refine wq_iadd ?_ | refine wq_isub ?_ | refine wq_imul ?_ | refine wq_iinc rfl ?_ | refine wq_goto ?_ | refine wq_k rfl ?_ | refine wq_b rfl rfl ?_ | refine wq_getf (by assumption) rfl ?_ | refine wq_alen (by assumption) rfl ?_)
        refine wf rfl (wq_iast j2 rfl ⟨by omega, by omega⟩ (by omega) (by omega) (fun M2 e2 f2 => ?_))
        repeat (refine wf rfl ?_; first | refine wq_iadd ?_ | refine wq_isub ?_ | refine wq_imul ?_ | refine wq_iinc rfl ?_ | refine wq_goto ?_ | refine wq_k rfl ?_ | refine wq_b rfl rfl ?_ | refine wq_getf (by assumption) rfl ?_ | refine wq_alen (by assumption) rfl ?_)
        refine wf rfl (wq_cs rfl rfl ((c_Md_isLetter (M := M2) (s := s) ⟨by omega, by omega⟩).mono ?_))
        rintro v M2 ⟨rfl, rfl⟩
        have i92 := i9.tr (f2.mono (fun q hq => Or.inr (Or.inl hq)))
        have hO2 : MO M2 m a b c d e := f2.at (by omega) hO1
        by_cases hq : s < 8
        · rw [if_pos hq]
          rw [tel_letter hq] at hk i8
          rw [List.length_append, List.length_singleton] at i8
          refine wf rfl (wq_ifeq ⟨by omega, by omega⟩ (fun c9 => by exfalso; omega) (fun _ => ?_))
          repeat (refine wf rfl ?_; first | refine wq_iadd ?_ | refine wq_isub ?_ | refine wq_imul ?_ | refine wq_iinc rfl ?_ | refine wq_goto ?_ | refine wq_k rfl ?_ | refine wq_b rfl rfl ?_ | refine wq_getf (by assumption) rfl ?_ | refine wq_alen (by assumption) rfl ?_)
          refine wf rfl (wq_iast (f2.at (by omega) j3) (by rcases hai with rfl | rfl <;> rfl) ⟨by omega, by omega⟩ (by omega) (by omega) (fun M3 e3 f3 => ?_))
          have hst := fun (_ : True) => ih r (p + 1) lv (acc ++ [s]) ri (upz pi lv.toNat (p + 1)) (upz w ((acc.length : Int)).toNat s) M3 i0 (by omega) i2 (by omega) (by omega) i5 i6 i7 (by rw [List.length_append, List.length_singleton]; omega) (i92.tr (f3.mono (fun q hq => Or.inr (Or.inr hq)))) (f3.at (by omega) (f2.at (by omega) j1)) (f3.at (by omega) e2) e3 j4 (upz_at _ _ _) (j6.snoc (by omega)) (fun M4 ri2 pi2 w2 q1 q2 q3 q4 q5 q6 q7 q8 => by
            rw [List.append_assoc] at q8 ⊢
            exact hk M4 ri2 pi2 w2 q1 q2 q3 q4 (fun i hi => by rw [q5 i hi, upz_ne _ _ (by omega)]) q6 q7 q8)
          rw [show (((acc ++ [s]).length : Nat) : Int) = (acc.length : Int) + 1 by rw [List.length_append]; rfl] at hst
          repeat' (first | (refine Wp.sub (hst  ?_) ⟨rfl, rfl, rfl, rfl, rfl, rfl, trivial⟩ rfl) | (refine wf rfl ?_; first | refine wq_iadd ?_ | refine wq_isub ?_ | refine wq_imul ?_ | refine wq_iinc rfl ?_ | refine wq_goto ?_ | refine wq_k rfl ?_ | refine wq_b rfl rfl ?_ | refine wq_getf (by assumption) rfl ?_ | refine wq_alen (by assumption) rfl ?_ | fail | (refine wq_eq ⟨by omega, by omega⟩ ⟨by omega, by omega⟩ (fun _ => ?_) (fun _ => ?_) <;> try (exfalso; omega)) | (refine wq_ne ⟨by omega, by omega⟩ ⟨by omega, by omega⟩ (fun _ => ?_) (fun _ => ?_) <;> try (exfalso; omega)) | (refine wq_lt ⟨by omega, by omega⟩ ⟨by omega, by omega⟩ (fun _ => ?_) (fun _ => ?_) <;> try (exfalso; omega)) | (refine wq_ge ⟨by omega, by omega⟩ ⟨by omega, by omega⟩ (fun _ => ?_) (fun _ => ?_) <;> try (exfalso; omega)) | (refine wq_gt ⟨by omega, by omega⟩ ⟨by omega, by omega⟩ (fun _ => ?_) (fun _ => ?_) <;> try (exfalso; omega)) | (refine wq_le ⟨by omega, by omega⟩ ⟨by omega, by omega⟩ (fun _ => ?_) (fun _ => ?_) <;> try (exfalso; omega)) | (refine wq_ifeq ⟨by omega, by omega⟩ (fun _ => ?_) (fun _ => ?_) <;> try (exfalso; omega)) | (refine wq_ifne ⟨by omega, by omega⟩ (fun _ => ?_) (fun _ => ?_) <;> try (exfalso; omega)) | (refine wq_iflt ⟨by omega, by omega⟩ (fun _ => ?_) (fun _ => ?_) <;> try (exfalso; omega)) | (refine wq_ifge ⟨by omega, by omega⟩ (fun _ => ?_) (fun _ => ?_) <;> try (exfalso; omega)) | (refine wq_ifgt ⟨by omega, by omega⟩ (fun _ => ?_) (fun _ => ?_) <;> try (exfalso; omega)) | (refine wq_ifle ⟨by omega, by omega⟩ (fun _ => ?_) (fun _ => ?_) <;> try (exfalso; omega)) | refine wq_r rfl rfl rfl rfl rfl rfl ?_))
          trivial
        · rw [if_neg hq]
          have hj : (s - 8).toNat < k := by omega
          have es : s = 8 + (((s - 8).toNat : Nat) : Int) := by omega
          have et : tel (xof G.1) k [s] = tel (xof G.1) (s - 8).toNat (xof G.1 (s - 8).toNat) := by
            have := tel_rule (X := xof G.1) hj
            rw [← es] at this
            exact this
          rw [et] at hk i8
          rw [List.length_append] at i8
          have vr : vrG G (s - 8) := Or.inr ⟨by omega, by omega⟩
          have er : rwG G (s - 8) = xof G.1 (s - 8).toNat := if_neg (by omega)
          refine wf rfl (wq_ifeq ⟨by omega, by omega⟩ (fun _ => ?_) (fun c9 => absurd rfl c9))
          repeat (refine wf rfl ?_; first | refine wq_iadd ?_ | refine wq_isub ?_ | refine wq_imul ?_ | refine wq_iinc rfl ?_ | refine wq_goto ?_ | refine wq_k rfl ?_ | refine wq_b rfl rfl ?_ | refine wq_getf (by assumption) rfl ?_ | refine wq_alen (by assumption) rfl ?_)
          refine wf rfl (wq_cs rfl rfl ((c_Md_ruleOf (M := M2)).mono ?_))
          rintro v M2 ⟨rfl, rfl⟩
          refine wf rfl (wq_iast (f2.at (by omega) j1) rfl ⟨by omega, by omega⟩ (by omega) (by omega) (fun M3 e3 f3 => ?_))
          have hO3 : MO M3 m a b c d e := f3.at (by omega) hO2
          repeat (refine wf rfl ?_; first | refine wq_iadd ?_ | refine wq_isub ?_ | refine wq_imul ?_ | refine wq_iinc rfl ?_ | refine wq_goto ?_ | refine wq_k rfl ?_ | refine wq_b rfl rfl ?_ | refine wq_getf (by assumption) rfl ?_ | refine wq_alen (by assumption) rfl ?_)
          refine wf rfl (wq_iast (f3.at (by omega) e2) rfl ⟨by omega, by omega⟩ (by omega) (by omega) (fun M4 e4 f4 => ?_))
          have i94 := (i92.tr (f3.mono (fun q hq => Or.inl hq))).tr (f4.mono (fun q hq => Or.inr (Or.inl hq)))
          have hst := fun (_ : True) => ihk (s - 8).toNat hj (rwG G (s - 8)).length (s - 8) 0 (lv + 1) acc (upz ri (lv + 1).toNat (s - 8)) (upz (upz pi lv.toNat (p + 1)) (lv + 1).toNat 0) w M4 (by omega) (by simp) vr (by omega) (by omega) (by
            rw [er]
            intro x hx
            exact hW.1 (s - 8).toNat (by omega) x hx) (by omega) (by omega) (by rw [er]; simp; omega) i94 (f4.at (by omega) e3) e4 (f4.at (by omega) (f3.at (by omega) (f2.at (by omega) j3))) (upz_at _ _ _) (upz_at _ _ _) j6 (fun M5 ri2 pi2 w2 q1 q2 q3 q4 q5 q6 q7 q8 => by
            rw [er, show (0 : Int).toNat = 0 from rfl, List.drop_zero] at q8 ⊢
            rw [er] at q6
            have hO5 : MO M5 m a b c d e := q1.at (by omega) hO
            have hF5 := q1.at (by omega) hF
            obtain ⟨y1, y2, y3, y4, -⟩ := hG.rowo vr
            rw [er] at y3 y4
            have er1 : ri2 (lv + 1).toNat = s - 8 := by rw [q3 _ (by omega)]; exact upz_at _ _ _
            have nx := fun (_ : True) => ih r (p + 1) lv (acc ++ tel (xof G.1) (s - 8).toNat (xof G.1 (s - 8).toNat)) ri2 pi2 w2 M5 i0 (by omega) i2 (by omega) (by omega) i5 i6 i7 (by rw [List.length_append]; omega) q1 q2 q4 q7 (by rw [q3 _ (by omega), upz_ne _ _ (by omega)]; exact j4) (by rw [q5 _ (by omega), upz_ne _ _ (by omega), upz_at]) q8 (fun M6 ri3 pi3 w3 u1 u2 u3 u4 u5 u6 u7 u8 => by
              rw [List.append_assoc] at u8 ⊢
              exact hk M6 ri3 pi3 w3 u1 u2 (fun i hi => by rw [u3 i hi, q3 i (by omega), upz_ne _ _ (by omega)]) u4 (fun i hi => by rw [u5 i hi, q5 i (by omega), upz_ne _ _ (by omega), upz_ne _ _ (by omega)]) u6 u7 u8)
            repeat (refine wf rfl ?_; first | refine wq_iadd ?_ | refine wq_isub ?_ | refine wq_imul ?_ | refine wq_iinc rfl ?_ | refine wq_goto ?_ | refine wq_k rfl ?_ | refine wq_b rfl rfl ?_ | refine wq_getf (by assumption) rfl ?_ | refine wq_alen (by assumption) rfl ?_)
            refine wf rfl (wq_iflt ⟨by omega, by omega⟩ (fun c9 => by exfalso; omega) (fun _ => ?_))
            repeat (refine wf rfl ?_; first | refine wq_iadd ?_ | refine wq_isub ?_ | refine wq_imul ?_ | refine wq_iinc rfl ?_ | refine wq_goto ?_ | refine wq_k rfl ?_ | refine wq_b rfl rfl ?_ | refine wq_getf (by assumption) rfl ?_ | refine wq_alen (by assumption) rfl ?_)
            refine wf rfl (wq_iald q2 ⟨by omega, by omega⟩ (by omega) (by omega) ?_)
            rw [er1]
            repeat (refine wf rfl ?_; first | refine wq_iadd ?_ | refine wq_isub ?_ | refine wq_imul ?_ | refine wq_iinc rfl ?_ | refine wq_goto ?_ | refine wq_k rfl ?_ | refine wq_b rfl rfl ?_ | refine wq_getf (by assumption) rfl ?_ | refine wq_alen (by assumption) rfl ?_)
            refine wf rfl (wq_iald q4 ⟨by omega, by omega⟩ (by omega) (by omega) ?_)
            rw [q6]
            repeat (refine wf rfl ?_; first | refine wq_iadd ?_ | refine wq_isub ?_ | refine wq_imul ?_ | refine wq_iinc rfl ?_ | refine wq_goto ?_ | refine wq_k rfl ?_ | refine wq_b rfl rfl ?_ | refine wq_getf (by assumption) rfl ?_ | refine wq_alen (by assumption) rfl ?_)
            refine wf rfl (wq_iald hF5 ⟨by omega, by omega⟩ (by omega) (by omega) ?_)
            rw [y3]
            refine wf rfl (wq_ne ⟨by omega, by omega⟩ ⟨by omega, by omega⟩ (fun c9 => absurd rfl c9) (fun _ => ?_))
            rw [show lv = lv + 1 + -1 by omega] at nx
            repeat' (first | (refine Wp.sub (nx  ?_) ⟨rfl, rfl, rfl, rfl, rfl, rfl, trivial⟩ rfl) | (refine wf rfl ?_; first | refine wq_iadd ?_ | refine wq_isub ?_ | refine wq_imul ?_ | refine wq_iinc rfl ?_ | refine wq_goto ?_ | refine wq_k rfl ?_ | refine wq_b rfl rfl ?_ | refine wq_getf (by assumption) rfl ?_ | refine wq_alen (by assumption) rfl ?_ | fail | (refine wq_eq ⟨by omega, by omega⟩ ⟨by omega, by omega⟩ (fun _ => ?_) (fun _ => ?_) <;> try (exfalso; omega)) | (refine wq_ne ⟨by omega, by omega⟩ ⟨by omega, by omega⟩ (fun _ => ?_) (fun _ => ?_) <;> try (exfalso; omega)) | (refine wq_lt ⟨by omega, by omega⟩ ⟨by omega, by omega⟩ (fun _ => ?_) (fun _ => ?_) <;> try (exfalso; omega)) | (refine wq_ge ⟨by omega, by omega⟩ ⟨by omega, by omega⟩ (fun _ => ?_) (fun _ => ?_) <;> try (exfalso; omega)) | (refine wq_gt ⟨by omega, by omega⟩ ⟨by omega, by omega⟩ (fun _ => ?_) (fun _ => ?_) <;> try (exfalso; omega)) | (refine wq_le ⟨by omega, by omega⟩ ⟨by omega, by omega⟩ (fun _ => ?_) (fun _ => ?_) <;> try (exfalso; omega)) | (refine wq_ifeq ⟨by omega, by omega⟩ (fun _ => ?_) (fun _ => ?_) <;> try (exfalso; omega)) | (refine wq_ifne ⟨by omega, by omega⟩ (fun _ => ?_) (fun _ => ?_) <;> try (exfalso; omega)) | (refine wq_iflt ⟨by omega, by omega⟩ (fun _ => ?_) (fun _ => ?_) <;> try (exfalso; omega)) | (refine wq_ifge ⟨by omega, by omega⟩ (fun _ => ?_) (fun _ => ?_) <;> try (exfalso; omega)) | (refine wq_ifgt ⟨by omega, by omega⟩ (fun _ => ?_) (fun _ => ?_) <;> try (exfalso; omega)) | (refine wq_ifle ⟨by omega, by omega⟩ (fun _ => ?_) (fun _ => ?_) <;> try (exfalso; omega)) | refine wq_r rfl rfl rfl rfl rfl rfl ?_))
            trivial)
          repeat' (first | (refine Wp.sub (hst  ?_) ⟨rfl, rfl, rfl, rfl, rfl, rfl, trivial⟩ rfl) | (refine wf rfl ?_; first | refine wq_iadd ?_ | refine wq_isub ?_ | refine wq_imul ?_ | refine wq_iinc rfl ?_ | refine wq_goto ?_ | refine wq_k rfl ?_ | refine wq_b rfl rfl ?_ | refine wq_getf (by assumption) rfl ?_ | refine wq_alen (by assumption) rfl ?_ | fail | (refine wq_eq ⟨by omega, by omega⟩ ⟨by omega, by omega⟩ (fun _ => ?_) (fun _ => ?_) <;> try (exfalso; omega)) | (refine wq_ne ⟨by omega, by omega⟩ ⟨by omega, by omega⟩ (fun _ => ?_) (fun _ => ?_) <;> try (exfalso; omega)) | (refine wq_lt ⟨by omega, by omega⟩ ⟨by omega, by omega⟩ (fun _ => ?_) (fun _ => ?_) <;> try (exfalso; omega)) | (refine wq_ge ⟨by omega, by omega⟩ ⟨by omega, by omega⟩ (fun _ => ?_) (fun _ => ?_) <;> try (exfalso; omega)) | (refine wq_gt ⟨by omega, by omega⟩ ⟨by omega, by omega⟩ (fun _ => ?_) (fun _ => ?_) <;> try (exfalso; omega)) | (refine wq_le ⟨by omega, by omega⟩ ⟨by omega, by omega⟩ (fun _ => ?_) (fun _ => ?_) <;> try (exfalso; omega)) | (refine wq_ifeq ⟨by omega, by omega⟩ (fun _ => ?_) (fun _ => ?_) <;> try (exfalso; omega)) | (refine wq_ifne ⟨by omega, by omega⟩ (fun _ => ?_) (fun _ => ?_) <;> try (exfalso; omega)) | (refine wq_iflt ⟨by omega, by omega⟩ (fun _ => ?_) (fun _ => ?_) <;> try (exfalso; omega)) | (refine wq_ifge ⟨by omega, by omega⟩ (fun _ => ?_) (fun _ => ?_) <;> try (exfalso; omega)) | (refine wq_ifgt ⟨by omega, by omega⟩ (fun _ => ?_) (fun _ => ?_) <;> try (exfalso; omega)) | (refine wq_ifle ⟨by omega, by omega⟩ (fun _ => ?_) (fun _ => ?_) <;> try (exfalso; omega)) | refine wq_r rfl rfl rfl rfl rfl rfl ?_))
          trivial
      · have hd : (rwG G r).drop p.toNat = [] := List.drop_eq_nil_of_le (by omega)
        rw [hd, tel_nil, List.append_nil] at hk
        exact hk M1 ri pi w i9 j1 (fun _ _ => rfl) j2 (fun _ _ => rfl) (by rw [j5]; omega) j3 j6
theorem c_Md_tellsWord {a b c d e : Int} {af ai o sz : Nat} {f ri pi w : Nat → Int} (hO : MO M m a b c d e) (hK : OKG G) (hN : G.1.length ≤ 26) (hF : M[af]? = some (aJ sz f)) (hG : Ga f o G) (ho : o + 2188 ≤ sz) (hsz : sz ≤ 5000) (hai : ai = m + 9 ∨ ai = m + 10) (haf : af = m + 1 ∨ af = m + 5) (h1 : M[m + 11]? = some (aJ 28 ri)) (h2 : M[m + 12]? = some (aJ 28 pi)) (h3 : M[ai]? = some (aJ 9999 w)) : Wm 138 [.ref m, .ref af, .int (I o), .ref ai] M (fun v M' => v = some (.int (I ((wordG G).length : Nat))) ∧ Fr (fun q => q = m + 11 ∨ q = m + 12 ∨ q = ai) M M' ∧ ∃ w, M'[ai]? = some (aJ 9999 w) ∧ Lw w 0 (wordG G)) := by
  have hlen := word_len hK
  have hwl := hK.2.1
  have erw : rwG G 26 = G.2 := rwM G
  obtain ⟨-, -, g3, g4, -⟩ := hG.rowo (vrM G)
  rw [erw] at g3 g4
  refine wm_in (lv := _) rfl rfl rfl ?_
  repeat (refine wf rfl ?_; first | refine wq_iadd ?_ | refine wq_isub ?_ | refine wq_imul ?_ | refine wq_iinc rfl ?_ | refine wq_goto ?_ | refine wq_k rfl ?_ | refine wq_b rfl rfl ?_ | refine wq_getf (by assumption) rfl ?_ | refine wq_alen (by assumption) rfl ?_)
  refine wf rfl (wq_iast h1 rfl ⟨by omega, by omega⟩ (by omega) (by omega) (fun M1 e1 f1 => ?_))
  have hO1 : MO M1 m a b c d e := f1.at (by omega) hO
  repeat (refine wf rfl ?_; first | refine wq_iadd ?_ | refine wq_isub ?_ | refine wq_imul ?_ | refine wq_iinc rfl ?_ | refine wq_goto ?_ | refine wq_k rfl ?_ | refine wq_b rfl rfl ?_ | refine wq_getf (by assumption) rfl ?_ | refine wq_alen (by assumption) rfl ?_)
  refine wf rfl (wq_iast (f1.at (by omega) h2) rfl ⟨by omega, by omega⟩ (by omega) (by omega) (fun M2 e2 f2 => ?_))
  have ff : Fr (fun q => q = m + 11 ∨ q = m + 12 ∨ q = ai) M M2 := (f1.mono (fun q hq => Or.inl hq)).tr (f2.mono (fun q hq => Or.inr (Or.inl hq)))
  have hst := fun (_ : True) => lp_tw (Q := fun v M' => v = some (.int (I ((wordG G).length : Nat))) ∧ Fr (fun q => q = m + 11 ∨ q = m + 12 ∨ q = ai) M M' ∧ ∃ w, M'[ai]? = some (aJ 9999 w) ∧ Lw w 0 (wordG G)) hO hK.1 hN hF hG ho hsz hai haf G.1.length G.2.length 26 0 0 [] (upz ri (0 : Int).toNat 26) (upz pi (0 : Int).toNat 0) w M2 (Nat.le_refl _) (by rw [erw]; simp) (vrM G) (by omega) (by omega) (by rw [erw]; exact hK.1.2.1) (by omega) (by omega) (by
      rw [erw, show (0 : Int).toNat = 0 from rfl, List.drop_zero]
      show 0 + (wordG G).length ≤ 9999
      omega) ff (f2.at (by omega) e1) e2 (f2.at (by omega) (f1.at (by omega) h3)) (upz_at _ _ _) (upz_at _ _ _) (Lw.nil _ _) (fun M3 ri2 pi2 w2 q1 q2 q3 q4 q5 q6 q7 q8 => by
    rw [erw] at q6
    have eW : [] ++ tel (xof G.1) G.1.length ((rwG G 26).drop (0 : Int).toNat) = wordG G := by
      rw [erw, show (0 : Int).toNat = 0 from rfl, List.drop_zero, List.nil_append]
      rfl
    rw [eW] at q8 ⊢
    have er1 : ri2 (0 : Int).toNat = 26 := by rw [q3 _ (by omega)]; exact upz_at _ _ _
    have hO3 : MO M3 m a b c d e := q1.at (by omega) hO
    repeat (refine wf rfl ?_; first | refine wq_iadd ?_ | refine wq_isub ?_ | refine wq_imul ?_ | refine wq_iinc rfl ?_ | refine wq_goto ?_ | refine wq_k rfl ?_ | refine wq_b rfl rfl ?_ | refine wq_getf (by assumption) rfl ?_ | refine wq_alen (by assumption) rfl ?_)
    refine wf rfl (wq_iflt ⟨by omega, by omega⟩ (fun c9 => by exfalso; omega) (fun _ => ?_))
    repeat (refine wf rfl ?_; first | refine wq_iadd ?_ | refine wq_isub ?_ | refine wq_imul ?_ | refine wq_iinc rfl ?_ | refine wq_goto ?_ | refine wq_k rfl ?_ | refine wq_b rfl rfl ?_ | refine wq_getf (by assumption) rfl ?_ | refine wq_alen (by assumption) rfl ?_)
    refine wf rfl (wq_iald q2 ⟨by omega, by omega⟩ (by omega) (by omega) ?_)
    rw [er1]
    repeat (refine wf rfl ?_; first | refine wq_iadd ?_ | refine wq_isub ?_ | refine wq_imul ?_ | refine wq_iinc rfl ?_ | refine wq_goto ?_ | refine wq_k rfl ?_ | refine wq_b rfl rfl ?_ | refine wq_getf (by assumption) rfl ?_ | refine wq_alen (by assumption) rfl ?_)
    refine wf rfl (wq_iald q4 ⟨by omega, by omega⟩ (by omega) (by omega) ?_)
    rw [q6]
    repeat (refine wf rfl ?_; first | refine wq_iadd ?_ | refine wq_isub ?_ | refine wq_imul ?_ | refine wq_iinc rfl ?_ | refine wq_goto ?_ | refine wq_k rfl ?_ | refine wq_b rfl rfl ?_ | refine wq_getf (by assumption) rfl ?_ | refine wq_alen (by assumption) rfl ?_)
    refine wf rfl (wq_iald (q1.at (by omega) hF) ⟨by omega, by omega⟩ (by omega) (by omega) ?_)
    rw [g3]
    refine wf rfl (wq_ne ⟨by omega, by omega⟩ ⟨by omega, by omega⟩ (fun c9 => absurd rfl c9) (fun _ => ?_))
    repeat' (refine wf rfl ?_; first | refine wq_iadd ?_ | refine wq_isub ?_ | refine wq_imul ?_ | refine wq_iinc rfl ?_ | refine wq_goto ?_ | refine wq_k rfl ?_ | refine wq_b rfl rfl ?_ | refine wq_getf (by assumption) rfl ?_ | refine wq_alen (by assumption) rfl ?_ | (refine wq_eq ⟨by omega, by omega⟩ ⟨by omega, by omega⟩ (fun _ => ?_) (fun _ => ?_) <;> try (exfalso; omega)) | (refine wq_ne ⟨by omega, by omega⟩ ⟨by omega, by omega⟩ (fun _ => ?_) (fun _ => ?_) <;> try (exfalso; omega)) | (refine wq_lt ⟨by omega, by omega⟩ ⟨by omega, by omega⟩ (fun _ => ?_) (fun _ => ?_) <;> try (exfalso; omega)) | (refine wq_ge ⟨by omega, by omega⟩ ⟨by omega, by omega⟩ (fun _ => ?_) (fun _ => ?_) <;> try (exfalso; omega)) | (refine wq_gt ⟨by omega, by omega⟩ ⟨by omega, by omega⟩ (fun _ => ?_) (fun _ => ?_) <;> try (exfalso; omega)) | (refine wq_le ⟨by omega, by omega⟩ ⟨by omega, by omega⟩ (fun _ => ?_) (fun _ => ?_) <;> try (exfalso; omega)) | (refine wq_ifeq ⟨by omega, by omega⟩ (fun _ => ?_) (fun _ => ?_) <;> try (exfalso; omega)) | (refine wq_ifne ⟨by omega, by omega⟩ (fun _ => ?_) (fun _ => ?_) <;> try (exfalso; omega)) | (refine wq_iflt ⟨by omega, by omega⟩ (fun _ => ?_) (fun _ => ?_) <;> try (exfalso; omega)) | (refine wq_ifge ⟨by omega, by omega⟩ (fun _ => ?_) (fun _ => ?_) <;> try (exfalso; omega)) | (refine wq_ifgt ⟨by omega, by omega⟩ (fun _ => ?_) (fun _ => ?_) <;> try (exfalso; omega)) | (refine wq_ifle ⟨by omega, by omega⟩ (fun _ => ?_) (fun _ => ?_) <;> try (exfalso; omega)) | refine wq_r rfl rfl rfl rfl rfl rfl ?_)
    exact ⟨rfl, q1, w2, q7, q8⟩)
  repeat' (first | (refine Wp.sub (hst  ?_) ⟨rfl, rfl, rfl, rfl, rfl, rfl, trivial⟩ rfl) | (refine wf rfl ?_; first | refine wq_iadd ?_ | refine wq_isub ?_ | refine wq_imul ?_ | refine wq_iinc rfl ?_ | refine wq_goto ?_ | refine wq_k rfl ?_ | refine wq_b rfl rfl ?_ | refine wq_getf (by assumption) rfl ?_ | refine wq_alen (by assumption) rfl ?_ | fail | (refine wq_eq ⟨by omega, by omega⟩ ⟨by omega, by omega⟩ (fun _ => ?_) (fun _ => ?_) <;> try (exfalso; omega)) | (refine wq_ne ⟨by omega, by omega⟩ ⟨by omega, by omega⟩ (fun _ => ?_) (fun _ => ?_) <;> try (exfalso; omega)) | (refine wq_lt ⟨by omega, by omega⟩ ⟨by omega, by omega⟩ (fun _ => ?_) (fun _ => ?_) <;> try (exfalso; omega)) | (refine wq_ge ⟨by omega, by omega⟩ ⟨by omega, by omega⟩ (fun _ => ?_) (fun _ => ?_) <;> try (exfalso; omega)) | (refine wq_gt ⟨by omega, by omega⟩ ⟨by omega, by omega⟩ (fun _ => ?_) (fun _ => ?_) <;> try (exfalso; omega)) | (refine wq_le ⟨by omega, by omega⟩ ⟨by omega, by omega⟩ (fun _ => ?_) (fun _ => ?_) <;> try (exfalso; omega)) | (refine wq_ifeq ⟨by omega, by omega⟩ (fun _ => ?_) (fun _ => ?_) <;> try (exfalso; omega)) | (refine wq_ifne ⟨by omega, by omega⟩ (fun _ => ?_) (fun _ => ?_) <;> try (exfalso; omega)) | (refine wq_iflt ⟨by omega, by omega⟩ (fun _ => ?_) (fun _ => ?_) <;> try (exfalso; omega)) | (refine wq_ifge ⟨by omega, by omega⟩ (fun _ => ?_) (fun _ => ?_) <;> try (exfalso; omega)) | (refine wq_ifgt ⟨by omega, by omega⟩ (fun _ => ?_) (fun _ => ?_) <;> try (exfalso; omega)) | (refine wq_ifle ⟨by omega, by omega⟩ (fun _ => ?_) (fun _ => ?_) <;> try (exfalso; omega)) | refine wq_r rfl rfl rfl rfl rfl rfl ?_))
  trivial
end MD20
