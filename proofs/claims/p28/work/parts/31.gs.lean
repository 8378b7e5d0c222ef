/-! Grammars as lists: the rules' rows, the main row. -/
abbrev GS : Type := List (List Int) × List Int
def xof (R : List (List Int)) (k : Nat) : List Int := R.getD k []
def usT (G : GS) (j : Nat) : Int := usS (xof G.1) j G.1.length + (cntE (8 + (j : Int)) G.2 : Int)
def fitB (s : Int) (fl xs : List Int) : Bool := decide ((xs.length : Int) + (cntE s xs : Int) * ((fl.length : Int) - 1) ≤ 80)
def canB (G : GS) (r : Nat) : Bool := (List.range G.1.length).all (fun k => decide (k ≤ r) || fitB (8 + (r : Int)) (xof G.1 r) (xof G.1 k)) && fitB (8 + (r : Int)) (xof G.1 r) G.2
def seldB (G : GS) (r : Nat) : Bool := decide (usT G r < 2) && canB G r
def nextP (G : GS) : Option Nat := (List.range G.1.length).find? (seldB G)
def unrG (G : GS) (r : Nat) : GS := (G.1.take r ++ (G.1.drop (r + 1)).map (unr (8 + (r : Int)) (xof G.1 r)), unr (8 + (r : Int)) (xof G.1 r) G.2)
def prune : Nat → GS → GS × Nat
  | 0, G => (G, 0)
  | n + 1, G => match nextP G with
    | none => (G, 0)
    | some r => ((prune n (unrG G r)).1, (prune n (unrG G r)).2 + 1)
def WFG (G : GS) : Prop := WFX G.1.length (xof G.1) ∧ WFm G.1.length G.2 ∧ ∀ k, k < G.1.length → 1 ≤ (xof G.1 k).length
theorem canB_iff {G : GS} {r : Nat} : canB G r = true ↔ canU G.1.length (xof G.1) G.2 r := by
  unfold canB canU fitB fitU
  simp only [Bool.and_eq_true, List.all_eq_true, List.mem_range, Bool.or_eq_true, decide_eq_true_eq]
  constructor
  · rintro ⟨h1, h2⟩
    exact ⟨fun k q1 q2 => (h1 k q2).resolve_left (by omega), h2⟩
  · rintro ⟨h1, h2⟩
    refine ⟨fun k q => ?_, h2⟩
    by_cases hk : k ≤ r
    · exact Or.inl hk
    · exact Or.inr (h1 k (by omega) q)
theorem usS_congr {X X' : Nat → List Int} (j : Nat) : ∀ {k : Nat}, (∀ i, i < k → X i = X' i) → usS X j k = usS X' j k
  | 0, _ => rfl
  | k + 1, h => by rw [usS, usS, usS_congr j (fun i hi => h i (by omega)), h k (by omega)]
theorem usS_bd {X : Nat → List Int} (j : Nat) : ∀ {k : Nat}, (∀ i, i < k → (X i).length ≤ 80) → 0 ≤ usS X j k ∧ usS X j k ≤ 80 * (k : Int)
  | 0, _ => by simp [usS]
  | k + 1, h => by
    have ih := usS_bd (X := X) j (k := k) (fun i hi => h i (by omega))
    have h1 := h k (by omega)
    have h2 := cntE_le (8 + (j : Int)) (X k)
    rw [usS]
    omega
theorem canU_congr {N : Nat} {X X' : Nat → List Int} {mn : List Int} {r : Nat} (hr : r < N) (h : ∀ k, k < N → X k = X' k) : canU N X mn r ↔ canU N X' mn r := by
  unfold canU
  rw [h r hr]
  constructor
  · rintro ⟨h1, h2⟩
    exact ⟨fun k q1 q2 => by rw [← h k q2]; exact h1 k q1 q2, h2⟩
  · rintro ⟨h1, h2⟩
    exact ⟨fun k q1 q2 => by rw [h k q2]; exact h1 k q1 q2, h2⟩
theorem unrG_len {G : GS} {r : Nat} (hr : r < G.1.length) : (unrG G r).1.length = G.1.length - 1 := by
  unfold unrG
  rw [List.length_append, List.length_take, List.length_map, List.length_drop]
  omega
theorem xof_unr {G : GS} {r j : Nat} (hr : r < G.1.length) (hj : j + 1 < G.1.length) : xof (unrG G r).1 j = if j < r then xof G.1 j else unr (8 + (r : Int)) (xof G.1 r) (xof G.1 (j + 1)) := by
  unfold unrG
  dsimp only
  show (G.1.take r ++ (G.1.drop (r + 1)).map (unr (8 + (r : Int)) (xof G.1 r))).getD j [] = if j < r then G.1.getD j [] else unr (8 + (r : Int)) (G.1.getD r []) (G.1.getD (j + 1) [])
  rw [List.getD_eq_getElem?_getD]
  by_cases h : j < r
  · rw [if_pos h, List.getElem?_append_left (by rw [List.length_take]; omega), List.getElem?_take_of_lt h, ← List.getD_eq_getElem?_getD]
  · rw [if_neg h, List.getElem?_append_right (by rw [List.length_take]; omega), List.length_take, List.getElem?_map, List.getElem?_drop, show r + 1 + (j - min r G.1.length) = j + 1 by omega, List.getElem?_eq_getElem hj, List.getD_eq_getElem?_getD, List.getD_eq_getElem?_getD, List.getElem?_eq_getElem hj, List.getElem?_eq_getElem hr]
    have e : xof G.1 r = G.1[r] := by
      unfold xof
      rw [List.getD_eq_getElem?_getD, List.getElem?_eq_getElem hr]
      rfl
    rw [e]
    rfl
/-- a measured grammar of the lists G -/
def GM (M : PM) (g : Nat) (G : GS) : Prop := ∃ p X lt dp us W, Gm M g G.1.length p X G.2 lt dp us W ∧ Ms G.1.length X G.2 lt dp us W ∧ (∀ k, k < G.1.length → X k = xof G.1 k) ∧ WFG G
theorem GM.fr {P : Nat → Prop} {M M' : PM} {g : Nat} {G : GS} (h : GM M g G) (f : Fr P M M') (hP : ∀ q, inG g q → ¬ P q) : GM M' g G := by
  obtain ⟨p, X, lt, dp, us, W, h1, h2, h3, h4⟩ := h
  exact ⟨p, X, lt, dp, us, W, h1.fr f (fun q q1 q2 => hP q ⟨q1, q2⟩), h2, h3, h4⟩
section GR9
variable {M : PM} {g N : Nat} {p : Nat → Nat} {X : Nat → List Int} {mn : List Int} {lt dp us : Nat → Int} {W : Int}
theorem lp_lowest (h : Gm M g N p X mn lt dp us W) (hX : WFX N X) (hm : WFm N mn) (hb : ∀ j, j < N → 0 ≤ us j ∧ us j ≤ 100000) (n : Nat) : ∀ (k : Int), (0 ≤ k ∧ k ≤ N ∧ N - k < n ∧ ∀ j, j < k.toNat → ¬ (us j < 2 ∧ canU N X mn j)) →
    Wp k_X0_lowestSeldomUsed (2, [(0, .ref g), (1, .int (I k))], [], M) (fun v M' => (((∀ j, j < N → ¬ (us j < 2 ∧ canU N X mn j)) ∧ v = some (.int (I (-6)))) ∨ ∃ r, r < N ∧ us r < 2 ∧ canU N X mn r ∧ (∀ j, j < r → ¬ (us j < 2 ∧ canU N X mn j)) ∧ v = some (.int (I (r : Nat)))) ∧ M' = M) := by
  have hN := h.le
  have hg1 := h.obj
  induction n with
  | zero => intro k hi; exfalso; omega
  | succ n ih =>
    intro k hi
    obtain ⟨i1, i2, i3, i4⟩ := hi
    have ekk : ((k.toNat : Nat) : Int) = k := by omega
    by_cases hk : k < N
    · have hbd := hb k.toNat (by omega)
      have hrr := c_Gr_usesOf (k := k) ⟨by omega, by omega⟩ h
      rw [if_pos (by omega)] at hrr
      have hcu := c_Gr_canUnroll h hX hm (r := k.toNat) (by omega)
      rw [ekk] at hcu
      have nx : ¬ (us k.toNat < 2 ∧ canU N X mn k.toNat) → (0 ≤ k + 1 ∧ k + 1 ≤ N ∧ N - (k + 1) < n ∧ ∀ j, j < (k + 1).toNat → ¬ (us j < 2 ∧ canU N X mn j)) := by
        intro hc
        refine ⟨by omega, by omega, by omega, fun j hj => ?_⟩
        by_cases he : j = k.toNat
        · subst he; exact hc
        · exact i4 j (by omega)
      repeat (refine wf rfl ?_; first | refine wq_iadd ?_ | refine wq_isub ?_ | refine wq_imul ?_ | refine wq_iinc rfl ?_ | refine wq_goto ?_ | refine wq_k rfl ?_ | refine wq_b rfl rfl ?_ | refine wq_getf (by assumption) rfl ?_ | refine wq_alen (by assumption) rfl ?_)
      refine wf rfl (wq_ge ⟨by omega, by omega⟩ ⟨by omega, by omega⟩ (fun c1 => by exfalso; omega) (fun c1 => ?_))
      repeat (refine wf rfl ?_; first | refine wq_iadd ?_ | refine wq_isub ?_ | refine wq_imul ?_ | refine wq_iinc rfl ?_ | refine wq_goto ?_ | refine wq_k rfl ?_ | refine wq_b rfl rfl ?_ | refine wq_getf (by assumption) rfl ?_ | refine wq_alen (by assumption) rfl ?_)
      refine wf rfl (wq_cv rfl rfl rfl hg1 (hrr.mono ?_))
      rintro v M ⟨rfl, rfl⟩
      repeat (refine wf rfl ?_; first | refine wq_iadd ?_ | refine wq_isub ?_ | refine wq_imul ?_ | refine wq_iinc rfl ?_ | refine wq_goto ?_ | refine wq_k rfl ?_ | refine wq_b rfl rfl ?_ | refine wq_getf (by assumption) rfl ?_ | refine wq_alen (by assumption) rfl ?_)
      refine wf rfl (wq_ge ⟨by omega, by omega⟩ ⟨by omega, by omega⟩ (fun c2 => ?_) (fun c2 => ?_))
      · repeat' (first | (refine Wp.sub (ih _ ?_) ⟨rfl, rfl, trivial⟩ rfl) | (refine wf rfl ?_; first | refine wq_iadd ?_ | refine wq_isub ?_ | refine wq_imul ?_ | refine wq_iinc rfl ?_ | refine wq_goto ?_ | refine wq_k rfl ?_ | refine wq_b rfl rfl ?_ | refine wq_getf (by assumption) rfl ?_ | refine wq_alen (by assumption) rfl ?_ | fail | (refine wq_eq ⟨by omega, by omega⟩ ⟨by omega, by omega⟩ (fun _ => ?_) (fun _ => ?_) <;> try (exfalso; omega)) | (refine wq_ne ⟨by omega, by omega⟩ ⟨by omega, by omega⟩ (fun _ => ?_) (fun _ => ?_) <;> try (exfalso; omega)) | (refine wq_lt ⟨by omega, by omega⟩ ⟨by omega, by omega⟩ (fun _ => ?_) (fun _ => ?_) <;> try (exfalso; omega)) | (refine wq_ge ⟨by omega, by omega⟩ ⟨by omega, by omega⟩ (fun _ => ?_) (fun _ => ?_) <;> try (exfalso; omega)) | (refine wq_gt ⟨by omega, by omega⟩ ⟨by omega, by omega⟩ (fun _ => ?_) (fun _ => ?_) <;> try (exfalso; omega)) | (refine wq_le ⟨by omega, by omega⟩ ⟨by omega, by omega⟩ (fun _ => ?_) (fun _ => ?_) <;> try (exfalso; omega)) | (refine wq_ifeq ⟨by omega, by omega⟩ (fun _ => ?_) (fun _ => ?_) <;> try (exfalso; omega)) | (refine wq_ifne ⟨by omega, by omega⟩ (fun _ => ?_) (fun _ => ?_) <;> try (exfalso; omega)) | (refine wq_iflt ⟨by omega, by omega⟩ (fun _ => ?_) (fun _ => ?_) <;> try (exfalso; omega)) | (refine wq_ifge ⟨by omega, by omega⟩ (fun _ => ?_) (fun _ => ?_) <;> try (exfalso; omega)) | (refine wq_ifgt ⟨by omega, by omega⟩ (fun _ => ?_) (fun _ => ?_) <;> try (exfalso; omega)) | (refine wq_ifle ⟨by omega, by omega⟩ (fun _ => ?_) (fun _ => ?_) <;> try (exfalso; omega)) | refine wq_r rfl rfl rfl rfl rfl rfl ?_))
        exact nx (fun z => by omega)
      · repeat (refine wf rfl ?_; first | refine wq_iadd ?_ | refine wq_isub ?_ | refine wq_imul ?_ | refine wq_iinc rfl ?_ | refine wq_goto ?_ | refine wq_k rfl ?_ | refine wq_b rfl rfl ?_ | refine wq_getf (by assumption) rfl ?_ | refine wq_alen (by assumption) rfl ?_)
        refine wf rfl (wq_cv rfl rfl rfl hg1 (hcu.mono ?_))
        rintro v M ⟨⟨hc, rfl⟩ | ⟨hc, rfl⟩, rfl⟩
        · refine wf rfl (wq_ifeq ⟨by omega, by omega⟩ (fun c3 => by exfalso; omega) (fun c3 => ?_))
          repeat' (refine wf rfl ?_; first | refine wq_iadd ?_ | refine wq_isub ?_ | refine wq_imul ?_ | refine wq_iinc rfl ?_ | refine wq_goto ?_ | refine wq_k rfl ?_ | refine wq_b rfl rfl ?_ | refine wq_getf (by assumption) rfl ?_ | refine wq_alen (by assumption) rfl ?_ | (refine wq_eq ⟨by omega, by omega⟩ ⟨by omega, by omega⟩ (fun _ => ?_) (fun _ => ?_) <;> try (exfalso; omega)) | (refine wq_ne ⟨by omega, by omega⟩ ⟨by omega, by omega⟩ (fun _ => ?_) (fun _ => ?_) <;> try (exfalso; omega)) | (refine wq_lt ⟨by omega, by omega⟩ ⟨by omega, by omega⟩ (fun _ => ?_) (fun _ => ?_) <;> try (exfalso; omega)) | (refine wq_ge ⟨by omega, by omega⟩ ⟨by omega, by omega⟩ (fun _ => ?_) (fun _ => ?_) <;> try (exfalso; omega)) | (refine wq_gt ⟨by omega, by omega⟩ ⟨by omega, by omega⟩ (fun _ => ?_) (fun _ => ?_) <;> try (exfalso; omega)) | (refine wq_le ⟨by omega, by omega⟩ ⟨by omega, by omega⟩ (fun _ => ?_) (fun _ => ?_) <;> try (exfalso; omega)) | (refine wq_ifeq ⟨by omega, by omega⟩ (fun _ => ?_) (fun _ => ?_) <;> try (exfalso; omega)) | (refine wq_ifne ⟨by omega, by omega⟩ (fun _ => ?_) (fun _ => ?_) <;> try (exfalso; omega)) | (refine wq_iflt ⟨by omega, by omega⟩ (fun _ => ?_) (fun _ => ?_) <;> try (exfalso; omega)) | (refine wq_ifge ⟨by omega, by omega⟩ (fun _ => ?_) (fun _ => ?_) <;> try (exfalso; omega)) | (refine wq_ifgt ⟨by omega, by omega⟩ (fun _ => ?_) (fun _ => ?_) <;> try (exfalso; omega)) | (refine wq_ifle ⟨by omega, by omega⟩ (fun _ => ?_) (fun _ => ?_) <;> try (exfalso; omega)) | refine wq_r rfl rfl rfl rfl rfl rfl ?_)
          exact ⟨Or.inr ⟨k.toNat, by omega, by omega, hc, i4, by rw [ekk]⟩, rfl⟩
        · refine wf rfl (wq_ifeq ⟨by omega, by omega⟩ (fun c3 => ?_) (fun c3 => absurd rfl c3))
          repeat' (first | (refine Wp.sub (ih _ ?_) ⟨rfl, rfl, trivial⟩ rfl) | (refine wf rfl ?_; first | refine wq_iadd ?_ | refine wq_isub ?_ | refine wq_imul ?_ | refine wq_iinc rfl ?_ | refine wq_goto ?_ | refine wq_k rfl ?_ | refine wq_b rfl rfl ?_ | refine wq_getf (by assumption) rfl ?_ | refine wq_alen (by assumption) rfl ?_ | fail | (refine wq_eq ⟨by omega, by omega⟩ ⟨by omega, by omega⟩ (fun _ => ?_) (fun _ => ?_) <;> try (exfalso; omega)) | (refine wq_ne ⟨by omega, by omega⟩ ⟨by omega, by omega⟩ (fun _ => ?_) (fun _ => ?_) <;> try (exfalso; omega)) | (refine wq_lt ⟨by omega, by omega⟩ ⟨by omega, by omega⟩ (fun _ => ?_) (fun _ => ?_) <;> try (exfalso; omega)) | (refine wq_ge ⟨by omega, by omega⟩ ⟨by omega, by omega⟩ (fun _ => ?_) (fun _ => ?_) <;> try (exfalso; omega)) | (refine wq_gt ⟨by omega, by omega⟩ ⟨by omega, by omega⟩ (fun _ => ?_) (fun _ => ?_) <;> try (exfalso; omega)) | (refine wq_le ⟨by omega, by omega⟩ ⟨by omega, by omega⟩ (fun _ => ?_) (fun _ => ?_) <;> try (exfalso; omega)) | (refine wq_ifeq ⟨by omega, by omega⟩ (fun _ => ?_) (fun _ => ?_) <;> try (exfalso; omega)) | (refine wq_ifne ⟨by omega, by omega⟩ (fun _ => ?_) (fun _ => ?_) <;> try (exfalso; omega)) | (refine wq_iflt ⟨by omega, by omega⟩ (fun _ => ?_) (fun _ => ?_) <;> try (exfalso; omega)) | (refine wq_ifge ⟨by omega, by omega⟩ (fun _ => ?_) (fun _ => ?_) <;> try (exfalso; omega)) | (refine wq_ifgt ⟨by omega, by omega⟩ (fun _ => ?_) (fun _ => ?_) <;> try (exfalso; omega)) | (refine wq_ifle ⟨by omega, by omega⟩ (fun _ => ?_) (fun _ => ?_) <;> try (exfalso; omega)) | refine wq_r rfl rfl rfl rfl rfl rfl ?_))
          exact nx (fun z => hc z.2)
    · repeat' (refine wf rfl ?_; first | refine wq_iadd ?_ | refine wq_isub ?_ | refine wq_imul ?_ | refine wq_iinc rfl ?_ | refine wq_goto ?_ | refine wq_k rfl ?_ | refine wq_b rfl rfl ?_ | refine wq_getf (by assumption) rfl ?_ | refine wq_alen (by assumption) rfl ?_ | (refine wq_eq ⟨by omega, by omega⟩ ⟨by omega, by omega⟩ (fun _ => ?_) (fun _ => ?_) <;> try (exfalso; omega)) | (refine wq_ne ⟨by omega, by omega⟩ ⟨by omega, by omega⟩ (fun _ => ?_) (fun _ => ?_) <;> try (exfalso; omega)) | (refine wq_lt ⟨by omega, by omega⟩ ⟨by omega, by omega⟩ (fun _ => ?_) (fun _ => ?_) <;> try (exfalso; omega)) | (refine wq_ge ⟨by omega, by omega⟩ ⟨by omega, by omega⟩ (fun _ => ?_) (fun _ => ?_) <;> try (exfalso; omega)) | (refine wq_gt ⟨by omega, by omega⟩ ⟨by omega, by omega⟩ (fun _ => ?_) (fun _ => ?_) <;> try (exfalso; omega)) | (refine wq_le ⟨by omega, by omega⟩ ⟨by omega, by omega⟩ (fun _ => ?_) (fun _ => ?_) <;> try (exfalso; omega)) | (refine wq_ifeq ⟨by omega, by omega⟩ (fun _ => ?_) (fun _ => ?_) <;> try (exfalso; omega)) | (refine wq_ifne ⟨by omega, by omega⟩ (fun _ => ?_) (fun _ => ?_) <;> try (exfalso; omega)) | (refine wq_iflt ⟨by omega, by omega⟩ (fun _ => ?_) (fun _ => ?_) <;> try (exfalso; omega)) | (refine wq_ifge ⟨by omega, by omega⟩ (fun _ => ?_) (fun _ => ?_) <;> try (exfalso; omega)) | (refine wq_ifgt ⟨by omega, by omega⟩ (fun _ => ?_) (fun _ => ?_) <;> try (exfalso; omega)) | (refine wq_ifle ⟨by omega, by omega⟩ (fun _ => ?_) (fun _ => ?_) <;> try (exfalso; omega)) | refine wq_r rfl rfl rfl rfl rfl rfl ?_)
      exact ⟨Or.inl ⟨fun j hj => i4 j (by omega), rfl⟩, rfl⟩
theorem c_Gr_lowestSeldomUsed (h : Gm M g N p X mn lt dp us W) (hX : WFX N X) (hm : WFm N mn) (hb : ∀ j, j < N → 0 ≤ us j ∧ us j ≤ 100000) : Wm 36 [.ref g] M (fun v M' => (((∀ j, j < N → ¬ (us j < 2 ∧ canU N X mn j)) ∧ v = some (.int (I (-6)))) ∨ ∃ r, r < N ∧ us r < 2 ∧ canU N X mn r ∧ (∀ j, j < r → ¬ (us j < 2 ∧ canU N X mn j)) ∧ v = some (.int (I (r : Nat)))) ∧ M' = M) := by
  have hN := h.le
  refine wm_in (lv := _) rfl rfl rfl ?_
  repeat' (first | (refine Wp.sub (lp_lowest h hX hm hb 100 _ ?_) ⟨rfl, rfl, trivial⟩ rfl) | (refine wf rfl ?_; first | refine wq_iadd ?_ | refine wq_isub ?_ | refine wq_imul ?_ | refine wq_iinc rfl ?_ | refine wq_goto ?_ | refine wq_k rfl ?_ | refine wq_b rfl rfl ?_ | refine wq_getf (by assumption) rfl ?_ | refine wq_alen (by assumption) rfl ?_ | fail | (refine wq_eq ⟨by omega, by omega⟩ ⟨by omega, by omega⟩ (fun _ => ?_) (fun _ => ?_) <;> try (exfalso; omega)) | (refine wq_ne ⟨by omega, by omega⟩ ⟨by omega, by omega⟩ (fun _ => ?_) (fun _ => ?_) <;> try (exfalso; omega)) | (refine wq_lt ⟨by omega, by omega⟩ ⟨by omega, by omega⟩ (fun _ => ?_) (fun _ => ?_) <;> try (exfalso; omega)) | (refine wq_ge ⟨by omega, by omega⟩ ⟨by omega, by omega⟩ (fun _ => ?_) (fun _ => ?_) <;> try (exfalso; omega)) | (refine wq_gt ⟨by omega, by omega⟩ ⟨by omega, by omega⟩ (fun _ => ?_) (fun _ => ?_) <;> try (exfalso; omega)) | (refine wq_le ⟨by omega, by omega⟩ ⟨by omega, by omega⟩ (fun _ => ?_) (fun _ => ?_) <;> try (exfalso; omega)) | (refine wq_ifeq ⟨by omega, by omega⟩ (fun _ => ?_) (fun _ => ?_) <;> try (exfalso; omega)) | (refine wq_ifne ⟨by omega, by omega⟩ (fun _ => ?_) (fun _ => ?_) <;> try (exfalso; omega)) | (refine wq_iflt ⟨by omega, by omega⟩ (fun _ => ?_) (fun _ => ?_) <;> try (exfalso; omega)) | (refine wq_ifge ⟨by omega, by omega⟩ (fun _ => ?_) (fun _ => ?_) <;> try (exfalso; omega)) | (refine wq_ifgt ⟨by omega, by omega⟩ (fun _ => ?_) (fun _ => ?_) <;> try (exfalso; omega)) | (refine wq_ifle ⟨by omega, by omega⟩ (fun _ => ?_) (fun _ => ?_) <;> try (exfalso; omega)) | refine wq_r rfl rfl rfl rfl rfl rfl ?_))
  exact ⟨by omega, by omega, by omega, fun j hj => by simp at hj⟩
/-- the lowest rule that is pruned next -/
def ofNext : Option Nat → Int
  | none => -6
  | some r => r
theorem c_GM_lowest {G : GS} (h : GM M g G) : Wm 36 [.ref g] M (fun v M' => v = some (.int (I (ofNext (nextP G)))) ∧ M' = M) := by
  obtain ⟨p, X, lt, dp, us, W, h1, h2, h3, w1, w2, w3⟩ := h
  have hX : WFX G.1.length X := fun k hk s hs => w1 k hk s (by rw [← h3 k hk]; exact hs)
  have hus : ∀ j, j < G.1.length → us j = usT G j := fun j hj => by rw [h2.2.1 j hj, usS_congr j h3]; rfl
  have hN := h1.le
  have hml := h1.main.len
  have hub : ∀ j, j < G.1.length → 0 ≤ us j ∧ us j ≤ 100000 := by
    intro j hj
    rw [h2.2.1 j hj]
    have q1 := usS_bd (X := X) j (k := G.1.length) (fun i hi => (h1.row (k := i) (by omega)).len)
    have q2 := cntE_le (8 + (j : Int)) G.2
    omega
  have hs : ∀ j, j < G.1.length → ((us j < 2 ∧ canU G.1.length X G.2 j) ↔ seldB G j = true) := by
    intro j hj
    unfold seldB
    rw [Bool.and_eq_true, decide_eq_true_eq, canB_iff, hus j hj, canU_congr hj h3]
  refine (c_Gr_lowestSeldomUsed h1 hX w2 hub).mono ?_
  rintro v M' ⟨⟨hq, rfl⟩ | ⟨r, hr, q1, q2, q3, rfl⟩, rfl⟩
  · refine ⟨?_, rfl⟩
    have : nextP G = none := by
      unfold nextP
      rw [List.find?_eq_none]
      intro j hj
      rw [List.mem_range] at hj
      exact fun z => hq j hj ((hs j hj).mpr z)
    rw [this]
    rfl
  · refine ⟨?_, rfl⟩
    have : nextP G = some r := by
      unfold nextP
      rw [List.find?_range_eq_some]
      refine ⟨(hs r hr).mp ⟨q1, q2⟩, List.mem_range.mpr hr, fun j hj => ?_⟩
      cases hb : seldB G j with
      | false => rfl
      | true => exact absurd ((hs j (by omega)).mpr hb) (q3 j hj)
    rw [this]
    rfl
end GR9
