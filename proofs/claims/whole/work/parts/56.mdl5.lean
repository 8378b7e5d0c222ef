/-! The Model unrolls. -/
def setG (G : GS) (r : Int) (xs : List Int) : GS := if r = 26 then (G.1, xs) else (G.1.set r.toNat xs, G.2)
theorem unr1_lt {s x : Int} {fl : List Int} (h : s < x) : unr1 s fl x = [x - 1] := by
  unfold unr1
  rw [if_neg (by omega), if_pos h]
theorem unr1_gt {s x : Int} {fl : List Int} (h : x < s) : unr1 s fl x = [x] := by
  unfold unr1
  rw [if_neg (by omega), if_neg (by omega)]
theorem unr1_eq {s : Int} {fl : List Int} : unr1 s fl s = fl := if_pos rfl
section MD5
variable {M : PM} {m : Nat} {G : GS} {hl si re pl sp : Int} {f : Nat → Int}
theorem lp_uicopy {r u z : Int} {la : Nat → Int} (hO : MO M m hl si re pl sp) (hL : M[m + 13]? = some (aJ 80 la)) (hr : 0 ≤ r ∧ r ≤ 26) (hz : 0 ≤ z ∧ z ≤ 80) {f0 : Nat → Int} (n : Nat) : ∀ (p : Int) (M1 : PM), (0 ≤ p ∧ p ≤ z ∧ z - p < n ∧ Fr (fun q => q = m + 1) M M1 ∧ ∃ g, M1[m + 1]? = some (aJ 2188 g) ∧ (∀ i : Int, 0 ≤ i → i < p → g (81 * r + 1 + i).toNat = la i.toNat) ∧ (∀ q : Nat, ((q : Int) ≤ 81 * r ∨ 81 * r + 80 < q) → g q = f0 q)) →
    Wp k_X10_unrollsIn (125, [(0, .ref m), (1, .int (I r)), (2, .int (I u)), (3, .int (I z)), (4, .int (I p))], [], M1) (fun v M' => v = none ∧ Fr (fun q => q = m + 1) M M' ∧ ∃ g, M'[m + 1]? = some (aJ 2188 g) ∧ (∀ i : Int, 0 ≤ i → i < z → g (81 * r + 1 + i).toNat = la i.toNat) ∧ ∀ q : Nat, ((q : Int) ≤ 81 * r ∨ 81 * r + 80 < q) → g q = f0 q) := by
  induction n with
  | zero => intro p M1 hi; exfalso; omega
  | succ n ih =>
    rintro p M1 ⟨i1, i2, i3, i4, g, j1, j2, j3⟩
    have hO1 : MO M1 m hl si re pl sp := i4.at (by omega) hO
    have hL1 := i4.at (by omega) hL
    by_cases hp : p < z
    · repeat (refine wf rfl ?_; first | refine wq_iadd ?_ | refine wq_isub ?_ | refine wq_imul ?_ | refine wq_iinc rfl ?_ | refine wq_goto ?_ | refine wq_k rfl ?_ | refine wq_b rfl rfl ?_ | refine wq_getf (by assumption) rfl ?_ | refine wq_alen (by assumption) rfl ?_)
      refine wf rfl (wq_ge ⟨by omega, by omega⟩ ⟨by omega, by omega⟩ (fun c1 => by exfalso; omega) (fun c1 => ?_))
      repeat (refine wf rfl ?_; first | refine wq_iadd ?_ | refine wq_isub ?_ | refine wq_imul ?_ | refine wq_iinc rfl ?_ | refine wq_goto ?_ | refine wq_k rfl ?_ | refine wq_b rfl rfl ?_ | refine wq_getf (by assumption) rfl ?_ | refine wq_alen (by assumption) rfl ?_)
      refine wf rfl (wq_iald hL1 ⟨by omega, by omega⟩ (by omega) (by omega) ?_)
      refine wf rfl (wq_iast j1 rfl ⟨by omega, by omega⟩ (by omega) (by omega) (fun M2 e2 f2 => ?_))
      repeat' (first | (refine Wp.sub (ih _ _ ?_) ⟨rfl, rfl, rfl, rfl, rfl, trivial⟩ rfl) | (refine wf rfl ?_; first | refine wq_iadd ?_ | refine wq_isub ?_ | refine wq_imul ?_ | refine wq_iinc rfl ?_ | refine wq_goto ?_ | refine wq_k rfl ?_ | refine wq_b rfl rfl ?_ | refine wq_getf (by assumption) rfl ?_ | refine wq_alen (by assumption) rfl ?_ | fail | (refine wq_eq ⟨by omega, by omega⟩ ⟨by omega, by omega⟩ (fun _ => ?_) (fun _ => ?_) <;> try (exfalso; omega)) | (refine wq_ne ⟨by omega, by omega⟩ ⟨by omega, by omega⟩ (fun _ => ?_) (fun _ => ?_) <;> try (exfalso; omega)) | (refine wq_lt ⟨by omega, by omega⟩ ⟨by omega, by omega⟩ (fun _ => ?_) (fun _ => ?_) <;> try (exfalso; omega)) | (refine wq_ge ⟨by omega, by omega⟩ ⟨by omega, by omega⟩ (fun _ => ?_) (fun _ => ?_) <;> try (exfalso; omega)) | (refine wq_gt ⟨by omega, by omega⟩ ⟨by omega, by omega⟩ (fun _ => ?_) (fun _ => ?_) <;> try (exfalso; omega)) | (refine wq_le ⟨by omega, by omega⟩ ⟨by omega, by omega⟩ (fun _ => ?_) (fun _ => ?_) <;> try (exfalso; omega)) | (refine wq_ifeq ⟨by omega, by omega⟩ (fun _ => ?_) (fun _ => ?_) <;> try (exfalso; omega)) | (refine wq_ifne ⟨by omega, by omega⟩ (fun _ => ?_) (fun _ => ?_) <;> try (exfalso; omega)) | (refine wq_iflt ⟨by omega, by omega⟩ (fun _ => ?_) (fun _ => ?_) <;> try (exfalso; omega)) | (refine wq_ifge ⟨by omega, by omega⟩ (fun _ => ?_) (fun _ => ?_) <;> try (exfalso; omega)) | (refine wq_ifgt ⟨by omega, by omega⟩ (fun _ => ?_) (fun _ => ?_) <;> try (exfalso; omega)) | (refine wq_ifle ⟨by omega, by omega⟩ (fun _ => ?_) (fun _ => ?_) <;> try (exfalso; omega)) | refine wq_r rfl rfl rfl rfl rfl rfl ?_))
      refine ⟨by omega, by omega, by omega, i4.tr f2, _, e2, fun i w1 w2 => ?_, fun q hq => ?_⟩
      · by_cases he : i = p
        · subst he; rw [upz_at]
        · rw [upz_ne _ _ (by omega)]; exact j2 i w1 (by omega)
      · rw [upz_ne _ _ (by omega)]; exact j3 q hq
    · repeat' (refine wf rfl ?_; first | refine wq_iadd ?_ | refine wq_isub ?_ | refine wq_imul ?_ | refine wq_iinc rfl ?_ | refine wq_goto ?_ | refine wq_k rfl ?_ | refine wq_b rfl rfl ?_ | refine wq_getf (by assumption) rfl ?_ | refine wq_alen (by assumption) rfl ?_ | (refine wq_eq ⟨by omega, by omega⟩ ⟨by omega, by omega⟩ (fun _ => ?_) (fun _ => ?_) <;> try (exfalso; omega)) | (refine wq_ne ⟨by omega, by omega⟩ ⟨by omega, by omega⟩ (fun _ => ?_) (fun _ => ?_) <;> try (exfalso; omega)) | (refine wq_lt ⟨by omega, by omega⟩ ⟨by omega, by omega⟩ (fun _ => ?_) (fun _ => ?_) <;> try (exfalso; omega)) | (refine wq_ge ⟨by omega, by omega⟩ ⟨by omega, by omega⟩ (fun _ => ?_) (fun _ => ?_) <;> try (exfalso; omega)) | (refine wq_gt ⟨by omega, by omega⟩ ⟨by omega, by omega⟩ (fun _ => ?_) (fun _ => ?_) <;> try (exfalso; omega)) | (refine wq_le ⟨by omega, by omega⟩ ⟨by omega, by omega⟩ (fun _ => ?_) (fun _ => ?_) <;> try (exfalso; omega)) | (refine wq_ifeq ⟨by omega, by omega⟩ (fun _ => ?_) (fun _ => ?_) <;> try (exfalso; omega)) | (refine wq_ifne ⟨by omega, by omega⟩ (fun _ => ?_) (fun _ => ?_) <;> try (exfalso; omega)) | (refine wq_iflt ⟨by omega, by omega⟩ (fun _ => ?_) (fun _ => ?_) <;> try (exfalso; omega)) | (refine wq_ifge ⟨by omega, by omega⟩ (fun _ => ?_) (fun _ => ?_) <;> try (exfalso; omega)) | (refine wq_ifgt ⟨by omega, by omega⟩ (fun _ => ?_) (fun _ => ?_) <;> try (exfalso; omega)) | (refine wq_ifle ⟨by omega, by omega⟩ (fun _ => ?_) (fun _ => ?_) <;> try (exfalso; omega)) | refine wq_r rfl rfl rfl rfl rfl rfl ?_)
      exact ⟨rfl, i4, g, j1, fun i w1 w2 => j2 i w1 (by omega), j3⟩
abbrev uiPost (M : PM) (m : Nat) (r : Int) (f : Nat → Int) (ys : List Int) : Option Value → PM → Prop := fun v M' => v = none ∧ Fr (fun q => q = m + 1 ∨ q = m + 13) M M' ∧ (∃ la, M'[m + 13]? = some (aJ 80 la)) ∧ ∃ g, M'[m + 1]? = some (aJ 2188 g) ∧ Rf g (81 * r).toNat ys ∧ ∀ q : Nat, ((q : Int) < 81 * r ∨ 81 * r + 80 < q) → g q = f q
theorem lp_uiI {r u p x : Int} {ys u1 rs : List Int} (h : Mr M m G) (hu : vrG G u) (hy : ys.length ≤ 80) (hx : 0 ≤ x ∧ x < 34) (hu0 : u ≤ 25) (h1 : u1 = unr1 (8 + u) (rwG G u) x) {Q : Option Value → PM → Prop}
    (hk : ∀ (acc : List Int) (M1 : PM), Fr (fun q => q = m + 13) M M1 → (∃ la, M1[m + 13]? = some (aJ 80 la) ∧ Lw la 0 acc) → acc ++ rs = ys → Wp k_X10_unrollsIn (5, [(0, .ref m), (1, .int (I r)), (2, .int (I u)), (3, .int (I (acc.length : Int))), (4, .int (I (p + 1)))], [], M1) Q) (n : Nat) : ∀ (k : Int) (acc : List Int) (M1 : PM), (0 ≤ k ∧ k ≤ u1.length ∧ u1.length - k < n ∧ Fr (fun q => q = m + 13) M M1 ∧ (∃ la, M1[m + 13]? = some (aJ 80 la) ∧ Lw la 0 acc) ∧ acc ++ (u1.drop k.toNat ++ rs) = ys) →
    Wp k_X10_unrollsIn (47, [(0, .ref m), (1, .int (I r)), (2, .int (I u)), (3, .int (I (acc.length : Int))), (4, .int (I p)), (5, .int (I x)), (6, .int (I (u1.length : Int))), (7, .int (I k))], [], M1) Q := by
  have hru := h.rl hu
  obtain ⟨⟨a', b', c', d', e', hO⟩, -⟩ := id h
  have hul : u1.length ≤ 80 := by
    rw [h1]
    unfold unr1
    split
    · omega
    · split <;> simp
  induction n with
  | zero => intro k acc M1 hi; exfalso; omega
  | succ n ih =>
    rintro k acc M1 ⟨i1, i2, i3, i4, ⟨la, j1, j2⟩, j3⟩
    have hM1 := h.fr i4 (by omega) (by omega)
    have hO1 : MO M1 m a' b' c' d' e' := i4.at (by omega) hO
    by_cases hp : k < u1.length
    · have hlen : acc.length + 1 ≤ 80 := by
        have : (acc ++ (u1.drop k.toNat ++ rs)).length ≤ 80 := by rw [j3]; exact hy
        rw [List.length_append, List.length_append, List.length_drop] at this
        omega
      have ek : ((k.toNat : Nat) : Int) = k := by omega
      have hd := drop1 (xs := u1) (p := k.toNat) (by omega)
      rw [ek] at hd
      -- what is laid
      have st : ∀ M2 : PM, M2[m + 13]? = some (aJ 80 (upz la ((acc.length : Int)).toNat (rat u1 k))) → Fr (fun q => q = m + 13) M1 M2 → (0 ≤ k + 1 ∧ k + 1 ≤ u1.length ∧ u1.length - (k + 1) < n ∧ Fr (fun q => q = m + 13) M M2 ∧ (∃ la, M2[m + 13]? = some (aJ 80 la) ∧ Lw la 0 (acc ++ [rat u1 k])) ∧ (acc ++ [rat u1 k]) ++ (u1.drop (k + 1).toNat ++ rs) = ys) := by
        intro M2 e2 f2
        refine ⟨by omega, by omega, by omega, i4.tr f2, ⟨_, e2, j2.snoc (by omega)⟩, ?_⟩
        rw [hd] at j3
        rw [show (k + 1).toNat = k.toNat + 1 by omega, List.append_assoc]
        exact j3
      have el : ((acc ++ [rat u1 k]).length : Int) = (acc.length : Int) + 1 := by
        rw [List.length_append]
        rfl
      have stp := fun (M2 : PM) (e2 : M2[m + 13]? = some (aJ 80 (upz la ((acc.length : Int)).toNat (rat u1 k)))) (f2 : Fr (fun q => q = m + 13) M1 M2) (_ : True) => ih _ _ _ (st M2 e2 f2)
      rw [el] at stp
      repeat (refine wf rfl ?_; first | refine wq_iadd ?_ | refine wq_isub ?_ | refine wq_imul ?_ | refine wq_iinc rfl ?_ | refine wq_goto ?_ | refine wq_k rfl ?_ | refine wq_b rfl rfl ?_ | refine wq_getf (by assumption) rfl ?_ | refine wq_alen (by assumption) rfl ?_)
      refine wf rfl (wq_ge ⟨by omega, by omega⟩ ⟨by omega, by omega⟩ (fun c1 => by exfalso; omega) (fun c1 => ?_))
      rcases Int.lt_trichotomy x (8 + u) with hc | hc | hc
      · have eu : u1 = [x] := by rw [h1, unr1_gt hc]
        have e0 : rat u1 k = x := by
          have : k = 0 := by rw [eu] at hp; simp at hp; omega
          rw [eu, this]
          rfl
        rw [e0] at stp
        repeat (refine wf rfl ?_; first | refine wq_iadd ?_ | refine wq_isub ?_ | refine wq_imul ?_ | refine wq_iinc rfl ?_ | refine wq_goto ?_ | refine wq_k rfl ?_ | refine wq_b rfl rfl ?_ | refine wq_getf (by assumption) rfl ?_ | refine wq_alen (by assumption) rfl ?_)
        refine wf rfl (wq_ne ⟨by omega, by omega⟩ ⟨by omega, by omega⟩ (fun c2 => ?_) (fun c2 => by exfalso; omega))
        repeat (refine wf rfl ?_; first | refine wq_iadd ?_ | refine wq_isub ?_ | refine wq_imul ?_ | refine wq_iinc rfl ?_ | refine wq_goto ?_ | refine wq_k rfl ?_ | refine wq_b rfl rfl ?_ | refine wq_getf (by assumption) rfl ?_ | refine wq_alen (by assumption) rfl ?_)
        refine wf rfl (wq_le ⟨by omega, by omega⟩ ⟨by omega, by omega⟩ (fun c2 => ?_) (fun c2 => by exfalso; omega))
        repeat (refine wf rfl ?_; first | refine wq_iadd ?_ | refine wq_isub ?_ | refine wq_imul ?_ | refine wq_iinc rfl ?_ | refine wq_goto ?_ | refine wq_k rfl ?_ | refine wq_b rfl rfl ?_ | refine wq_getf (by assumption) rfl ?_ | refine wq_alen (by assumption) rfl ?_)
        refine wf rfl (wq_iast j1 rfl ⟨by omega, by omega⟩ (by omega) (by omega) (fun M2 e2 f2 => ?_))
        have hst := stp M2 e2 f2
        repeat' (first | (refine Wp.sub (hst  ?_) ⟨rfl, rfl, rfl, rfl, rfl, rfl, rfl, rfl, trivial⟩ rfl) | (refine wf rfl ?_; first | refine wq_iadd ?_ | refine wq_isub ?_ | refine wq_imul ?_ | refine wq_iinc rfl ?_ | refine wq_goto ?_ | refine wq_k rfl ?_ | refine wq_b rfl rfl ?_ | refine wq_getf (by assumption) rfl ?_ | refine wq_alen (by assumption) rfl ?_ | fail | (refine wq_eq ⟨by omega, by omega⟩ ⟨by omega, by omega⟩ (fun _ => ?_) (fun _ => ?_) <;> try (exfalso; omega)) | (refine wq_ne ⟨by omega, by omega⟩ ⟨by omega, by omega⟩ (fun _ => ?_) (fun _ => ?_) <;> try (exfalso; omega)) | (refine wq_lt ⟨by omega, by omega⟩ ⟨by omega, by omega⟩ (fun _ => ?_) (fun _ => ?_) <;> try (exfalso; omega)) | (refine wq_ge ⟨by omega, by omega⟩ ⟨by omega, by omega⟩ (fun _ => ?_) (fun _ => ?_) <;> try (exfalso; omega)) | (refine wq_gt ⟨by omega, by omega⟩ ⟨by omega, by omega⟩ (fun _ => ?_) (fun _ => ?_) <;> try (exfalso; omega)) | (refine wq_le ⟨by omega, by omega⟩ ⟨by omega, by omega⟩ (fun _ => ?_) (fun _ => ?_) <;> try (exfalso; omega)) | (refine wq_ifeq ⟨by omega, by omega⟩ (fun _ => ?_) (fun _ => ?_) <;> try (exfalso; omega)) | (refine wq_ifne ⟨by omega, by omega⟩ (fun _ => ?_) (fun _ => ?_) <;> try (exfalso; omega)) | (refine wq_iflt ⟨by omega, by omega⟩ (fun _ => ?_) (fun _ => ?_) <;> try (exfalso; omega)) | (refine wq_ifge ⟨by omega, by omega⟩ (fun _ => ?_) (fun _ => ?_) <;> try (exfalso; omega)) | (refine wq_ifgt ⟨by omega, by omega⟩ (fun _ => ?_) (fun _ => ?_) <;> try (exfalso; omega)) | (refine wq_ifle ⟨by omega, by omega⟩ (fun _ => ?_) (fun _ => ?_) <;> try (exfalso; omega)) | refine wq_r rfl rfl rfl rfl rfl rfl ?_))
        trivial
      · have eu : u1 = rwG G u := by rw [h1, hc, unr1_eq]
        have hat := c_Md_at (p := k) hM1 hu i1 (by rw [← eu]; exact hp)
        rw [← eu] at hat
        repeat (refine wf rfl ?_; first | refine wq_iadd ?_ | refine wq_isub ?_ | refine wq_imul ?_ | refine wq_iinc rfl ?_ | refine wq_goto ?_ | refine wq_k rfl ?_ | refine wq_b rfl rfl ?_ | refine wq_getf (by assumption) rfl ?_ | refine wq_alen (by assumption) rfl ?_)
        refine wf rfl (wq_ne ⟨by omega, by omega⟩ ⟨by omega, by omega⟩ (fun c2 => by exfalso; omega) (fun c2 => ?_))
        repeat (refine wf rfl ?_; first | refine wq_iadd ?_ | refine wq_isub ?_ | refine wq_imul ?_ | refine wq_iinc rfl ?_ | refine wq_goto ?_ | refine wq_k rfl ?_ | refine wq_b rfl rfl ?_ | refine wq_getf (by assumption) rfl ?_ | refine wq_alen (by assumption) rfl ?_)
        refine wf rfl (wq_cv rfl rfl rfl hO1 (hat.mono ?_))
        rintro v M1 ⟨rfl, rfl⟩
        repeat (refine wf rfl ?_; first | refine wq_iadd ?_ | refine wq_isub ?_ | refine wq_imul ?_ | refine wq_iinc rfl ?_ | refine wq_goto ?_ | refine wq_k rfl ?_ | refine wq_b rfl rfl ?_ | refine wq_getf (by assumption) rfl ?_ | refine wq_alen (by assumption) rfl ?_)
        refine wf rfl (wq_iast j1 rfl ⟨by omega, by omega⟩ (by omega) (by omega) (fun M2 e2 f2 => ?_))
        have hst := stp M2 e2 f2
        repeat' (first | (refine Wp.sub (hst  ?_) ⟨rfl, rfl, rfl, rfl, rfl, rfl, rfl, rfl, trivial⟩ rfl) | (refine wf rfl ?_; first | refine wq_iadd ?_ | refine wq_isub ?_ | refine wq_imul ?_ | refine wq_iinc rfl ?_ | refine wq_goto ?_ | refine wq_k rfl ?_ | refine wq_b rfl rfl ?_ | refine wq_getf (by assumption) rfl ?_ | refine wq_alen (by assumption) rfl ?_ | fail | (refine wq_eq ⟨by omega, by omega⟩ ⟨by omega, by omega⟩ (fun _ => ?_) (fun _ => ?_) <;> try (exfalso; omega)) | (refine wq_ne ⟨by omega, by omega⟩ ⟨by omega, by omega⟩ (fun _ => ?_) (fun _ => ?_) <;> try (exfalso; omega)) | (refine wq_lt ⟨by omega, by omega⟩ ⟨by omega, by omega⟩ (fun _ => ?_) (fun _ => ?_) <;> try (exfalso; omega)) | (refine wq_ge ⟨by omega, by omega⟩ ⟨by omega, by omega⟩ (fun _ => ?_) (fun _ => ?_) <;> try (exfalso; omega)) | (refine wq_gt ⟨by omega, by omega⟩ ⟨by omega, by omega⟩ (fun _ => ?_) (fun _ => ?_) <;> try (exfalso; omega)) | (refine wq_le ⟨by omega, by omega⟩ ⟨by omega, by omega⟩ (fun _ => ?_) (fun _ => ?_) <;> try (exfalso; omega)) | (refine wq_ifeq ⟨by omega, by omega⟩ (fun _ => ?_) (fun _ => ?_) <;> try (exfalso; omega)) | (refine wq_ifne ⟨by omega, by omega⟩ (fun _ => ?_) (fun _ => ?_) <;> try (exfalso; omega)) | (refine wq_iflt ⟨by omega, by omega⟩ (fun _ => ?_) (fun _ => ?_) <;> try (exfalso; omega)) | (refine wq_ifge ⟨by omega, by omega⟩ (fun _ => ?_) (fun _ => ?_) <;> try (exfalso; omega)) | (refine wq_ifgt ⟨by omega, by omega⟩ (fun _ => ?_) (fun _ => ?_) <;> try (exfalso; omega)) | (refine wq_ifle ⟨by omega, by omega⟩ (fun _ => ?_) (fun _ => ?_) <;> try (exfalso; omega)) | refine wq_r rfl rfl rfl rfl rfl rfl ?_))
        trivial
      · have eu : u1 = [x - 1] := by rw [h1, unr1_lt hc]
        have e0 : rat u1 k = x - 1 := by
          have : k = 0 := by rw [eu] at hp; simp at hp; omega
          rw [eu, this]
          rfl
        rw [e0] at stp
        repeat (refine wf rfl ?_; first | refine wq_iadd ?_ | refine wq_isub ?_ | refine wq_imul ?_ | refine wq_iinc rfl ?_ | refine wq_goto ?_ | refine wq_k rfl ?_ | refine wq_b rfl rfl ?_ | refine wq_getf (by assumption) rfl ?_ | refine wq_alen (by assumption) rfl ?_)
        refine wf rfl (wq_ne ⟨by omega, by omega⟩ ⟨by omega, by omega⟩ (fun c2 => ?_) (fun c2 => by exfalso; omega))
        repeat (refine wf rfl ?_; first | refine wq_iadd ?_ | refine wq_isub ?_ | refine wq_imul ?_ | refine wq_iinc rfl ?_ | refine wq_goto ?_ | refine wq_k rfl ?_ | refine wq_b rfl rfl ?_ | refine wq_getf (by assumption) rfl ?_ | refine wq_alen (by assumption) rfl ?_)
        refine wf rfl (wq_le ⟨by omega, by omega⟩ ⟨by omega, by omega⟩ (fun c2 => by exfalso; omega) (fun c2 => ?_))
        repeat (refine wf rfl ?_; first | refine wq_iadd ?_ | refine wq_isub ?_ | refine wq_imul ?_ | refine wq_iinc rfl ?_ | refine wq_goto ?_ | refine wq_k rfl ?_ | refine wq_b rfl rfl ?_ | refine wq_getf (by assumption) rfl ?_ | refine wq_alen (by assumption) rfl ?_)
        refine wf rfl (wq_iast j1 rfl ⟨by omega, by omega⟩ (by omega) (by omega) (fun M2 e2 f2 => ?_))
        have hst := stp M2 e2 f2
        repeat' (first | (refine Wp.sub (hst  ?_) ⟨rfl, rfl, rfl, rfl, rfl, rfl, rfl, rfl, trivial⟩ rfl) | (refine wf rfl ?_; first | refine wq_iadd ?_ | refine wq_isub ?_ | refine wq_imul ?_ | refine wq_iinc rfl ?_ | refine wq_goto ?_ | refine wq_k rfl ?_ | refine wq_b rfl rfl ?_ | refine wq_getf (by assumption) rfl ?_ | refine wq_alen (by assumption) rfl ?_ | fail | (refine wq_eq ⟨by omega, by omega⟩ ⟨by omega, by omega⟩ (fun _ => ?_) (fun _ => ?_) <;> try (exfalso; omega)) | (refine wq_ne ⟨by omega, by omega⟩ ⟨by omega, by omega⟩ (fun _ => ?_) (fun _ => ?_) <;> try (exfalso; omega)) | (refine wq_lt ⟨by omega, by omega⟩ ⟨by omega, by omega⟩ (fun _ => ?_) (fun _ => ?_) <;> try (exfalso; omega)) | (refine wq_ge ⟨by omega, by omega⟩ ⟨by omega, by omega⟩ (fun _ => ?_) (fun _ => ?_) <;> try (exfalso; omega)) | (refine wq_gt ⟨by omega, by omega⟩ ⟨by omega, by omega⟩ (fun _ => ?_) (fun _ => ?_) <;> try (exfalso; omega)) | (refine wq_le ⟨by omega, by omega⟩ ⟨by omega, by omega⟩ (fun _ => ?_) (fun _ => ?_) <;> try (exfalso; omega)) | (refine wq_ifeq ⟨by omega, by omega⟩ (fun _ => ?_) (fun _ => ?_) <;> try (exfalso; omega)) | (refine wq_ifne ⟨by omega, by omega⟩ (fun _ => ?_) (fun _ => ?_) <;> try (exfalso; omega)) | (refine wq_iflt ⟨by omega, by omega⟩ (fun _ => ?_) (fun _ => ?_) <;> try (exfalso; omega)) | (refine wq_ifge ⟨by omega, by omega⟩ (fun _ => ?_) (fun _ => ?_) <;> try (exfalso; omega)) | (refine wq_ifgt ⟨by omega, by omega⟩ (fun _ => ?_) (fun _ => ?_) <;> try (exfalso; omega)) | (refine wq_ifle ⟨by omega, by omega⟩ (fun _ => ?_) (fun _ => ?_) <;> try (exfalso; omega)) | refine wq_r rfl rfl rfl rfl rfl rfl ?_))
        trivial
    · rw [List.drop_eq_nil_of_le (by omega), List.nil_append] at j3
      have hst := fun (_ : True) => hk acc M1 i4 ⟨la, j1, j2⟩ j3
      repeat' (first | (refine Wp.sub (hst  ?_) ⟨rfl, rfl, rfl, rfl, rfl, trivial⟩ rfl) | (refine wf rfl ?_; first | refine wq_iadd ?_ | refine wq_isub ?_ | refine wq_imul ?_ | refine wq_iinc rfl ?_ | refine wq_goto ?_ | refine wq_k rfl ?_ | refine wq_b rfl rfl ?_ | refine wq_getf (by assumption) rfl ?_ | refine wq_alen (by assumption) rfl ?_ | fail | (refine wq_eq ⟨by omega, by omega⟩ ⟨by omega, by omega⟩ (fun _ => ?_) (fun _ => ?_) <;> try (exfalso; omega)) | (refine wq_ne ⟨by omega, by omega⟩ ⟨by omega, by omega⟩ (fun _ => ?_) (fun _ => ?_) <;> try (exfalso; omega)) | (refine wq_lt ⟨by omega, by omega⟩ ⟨by omega, by omega⟩ (fun _ => ?_) (fun _ => ?_) <;> try (exfalso; omega)) | (refine wq_ge ⟨by omega, by omega⟩ ⟨by omega, by omega⟩ (fun _ => ?_) (fun _ => ?_) <;> try (exfalso; omega)) | (refine wq_gt ⟨by omega, by omega⟩ ⟨by omega, by omega⟩ (fun _ => ?_) (fun _ => ?_) <;> try (exfalso; omega)) | (refine wq_le ⟨by omega, by omega⟩ ⟨by omega, by omega⟩ (fun _ => ?_) (fun _ => ?_) <;> try (exfalso; omega)) | (refine wq_ifeq ⟨by omega, by omega⟩ (fun _ => ?_) (fun _ => ?_) <;> try (exfalso; omega)) | (refine wq_ifne ⟨by omega, by omega⟩ (fun _ => ?_) (fun _ => ?_) <;> try (exfalso; omega)) | (refine wq_iflt ⟨by omega, by omega⟩ (fun _ => ?_) (fun _ => ?_) <;> try (exfalso; omega)) | (refine wq_ifge ⟨by omega, by omega⟩ (fun _ => ?_) (fun _ => ?_) <;> try (exfalso; omega)) | (refine wq_ifgt ⟨by omega, by omega⟩ (fun _ => ?_) (fun _ => ?_) <;> try (exfalso; omega)) | (refine wq_ifle ⟨by omega, by omega⟩ (fun _ => ?_) (fun _ => ?_) <;> try (exfalso; omega)) | refine wq_r rfl rfl rfl rfl rfl rfl ?_))
      trivial
theorem lp_ui {r u : Int} {f : Nat → Int} (h : Mr M m G) (hA : M[m + 1]? = some (aJ 2188 f)) (hr : vrG G r) (hu : vrG G u) (hu0 : u ≤ 25) (hb : SB (rwG G r)) (hy : (unr (8 + u) (rwG G u) (rwG G r)).length ≤ 80) (n : Nat) : ∀ (p : Int) (acc : List Int) (M1 : PM), (0 ≤ p ∧ p ≤ (rwG G r).length ∧ (rwG G r).length - p < n ∧ Fr (fun q => q = m + 13) M M1 ∧ (∃ la, M1[m + 13]? = some (aJ 80 la) ∧ Lw la 0 acc) ∧ acc ++ unr (8 + u) (rwG G u) ((rwG G r).drop p.toNat) = unr (8 + u) (rwG G u) (rwG G r)) →
    Wp k_X10_unrollsIn (5, [(0, .ref m), (1, .int (I r)), (2, .int (I u)), (3, .int (I (acc.length : Int))), (4, .int (I p))], [], M1) (uiPost M m r f (unr (8 + u) (rwG G u) (rwG G r))) := by
  have hrr := h.rl hr
  have hru := h.rl hu
  obtain ⟨⟨a', b', c', d', e', hO⟩, -⟩ := id h
  induction n with
  | zero => intro p acc M1 hi; exfalso; omega
  | succ n ih =>
    rintro p acc M1 ⟨i1, i2, i3, i4, ⟨la, j1, j2⟩, j3⟩
    have hM1 := h.fr i4 (by omega) (by omega)
    have hA1 := i4.at (by omega) hA
    have hO1 : MO M1 m a' b' c' d' e' := i4.at (by omega) hO
    have hrl := c_Md_rowLong hM1 hr
    repeat (refine wf rfl ?_; first | refine wq_iadd ?_ | refine wq_isub ?_ | refine wq_imul ?_ | refine wq_iinc rfl ?_ | refine wq_goto ?_ | refine wq_k rfl ?_ | refine wq_b rfl rfl ?_ | refine wq_getf (by assumption) rfl ?_ | refine wq_alen (by assumption) rfl ?_)
    refine wf rfl (wq_cv rfl rfl rfl hO1 (hrl.mono ?_))
    rintro v M1 ⟨rfl, rfl⟩
    refine wf rfl (wq_ge ⟨by omega, by omega⟩ ⟨by omega, by omega⟩ (fun c1 => ?_) (fun c1 => ?_))
    · have e0 : unr (8 + u) (rwG G u) ([] : List Int) = [] := rfl
      rw [List.drop_eq_nil_of_le (by omega), e0, List.append_nil] at j3
      subst j3
      repeat (refine wf rfl ?_; first | refine wq_iadd ?_ | refine wq_isub ?_ | refine wq_imul ?_ | refine wq_iinc rfl ?_ | refine wq_goto ?_ | refine wq_k rfl ?_ | refine wq_b rfl rfl ?_ | refine wq_getf (by assumption) rfl ?_ | refine wq_alen (by assumption) rfl ?_)
      refine wf rfl (wq_iast hA1 rfl ⟨by omega, by omega⟩ (by omega) (by omega) (fun M2 e2 f2 => ?_))
      have hO2 : MO M2 m a' b' c' d' e' := f2.at (by omega) hO1
      have hL2 := f2.at (by omega) j1
      have hst := fun (_ : True) => lp_uicopy (r := r) (u := u) (z := ((unr (8 + u) (rwG G u) (rwG G r)).length : Int)) (f0 := upz f (81 * r).toNat ((unr (8 + u) (rwG G u) (rwG G r)).length : Int)) hO2 hL2 ⟨hrr.1, hrr.2.1⟩ (by omega) 100 0 M2 ⟨by omega, by omega, by omega, Fr.rf, _, e2, fun i w1 w2 => by omega, fun q _ => rfl⟩
      refine Wp.mono (Q := fun v M' => v = none ∧ Fr (fun q => q = m + 1) M2 M' ∧ ∃ g, M'[m + 1]? = some (aJ 2188 g) ∧ (∀ i : Int, 0 ≤ i → i < ((unr (8 + u) (rwG G u) (rwG G r)).length : Int) → g (81 * r + 1 + i).toNat = la i.toNat) ∧ ∀ q : Nat, ((q : Int) ≤ 81 * r ∨ 81 * r + 80 < q) → g q = upz f (81 * r).toNat ((unr (8 + u) (rwG G u) (rwG G r)).length : Int) q) ?_ ?_
      · repeat' (first | (refine Wp.sub (hst  ?_) ⟨rfl, rfl, rfl, rfl, rfl, trivial⟩ rfl) | (refine wf rfl ?_; first | refine wq_iadd ?_ | refine wq_isub ?_ | refine wq_imul ?_ | refine wq_iinc rfl ?_ | refine wq_goto ?_ | refine wq_k rfl ?_ | refine wq_b rfl rfl ?_ | refine wq_getf (by assumption) rfl ?_ | refine wq_alen (by assumption) rfl ?_ | fail | (refine wq_eq ⟨by omega, by omega⟩ ⟨by omega, by omega⟩ (fun _ => ?_) (fun _ => ?_) <;> try (exfalso; omega)) | (refine wq_ne ⟨by omega, by omega⟩ ⟨by omega, by omega⟩ (fun _ => ?_) (fun _ => ?_) <;> try (exfalso; omega)) | (refine wq_lt ⟨by omega, by omega⟩ ⟨by omega, by omega⟩ (fun _ => ?_) (fun _ => ?_) <;> try (exfalso; omega)) | (refine wq_ge ⟨by omega, by omega⟩ ⟨by omega, by omega⟩ (fun _ => ?_) (fun _ => ?_) <;> try (exfalso; omega)) | (refine wq_gt ⟨by omega, by omega⟩ ⟨by omega, by omega⟩ (fun _ => ?_) (fun _ => ?_) <;> try (exfalso; omega)) | (refine wq_le ⟨by omega, by omega⟩ ⟨by omega, by omega⟩ (fun _ => ?_) (fun _ => ?_) <;> try (exfalso; omega)) | (refine wq_ifeq ⟨by omega, by omega⟩ (fun _ => ?_) (fun _ => ?_) <;> try (exfalso; omega)) | (refine wq_ifne ⟨by omega, by omega⟩ (fun _ => ?_) (fun _ => ?_) <;> try (exfalso; omega)) | (refine wq_iflt ⟨by omega, by omega⟩ (fun _ => ?_) (fun _ => ?_) <;> try (exfalso; omega)) | (refine wq_ifge ⟨by omega, by omega⟩ (fun _ => ?_) (fun _ => ?_) <;> try (exfalso; omega)) | (refine wq_ifgt ⟨by omega, by omega⟩ (fun _ => ?_) (fun _ => ?_) <;> try (exfalso; omega)) | (refine wq_ifle ⟨by omega, by omega⟩ (fun _ => ?_) (fun _ => ?_) <;> try (exfalso; omega)) | refine wq_r rfl rfl rfl rfl rfl rfl ?_))
        trivial
      · rintro v M3 ⟨rfl, f3, g, e3, h5, h6⟩
        refine ⟨rfl, ((i4.mono (fun q hq => Or.inr hq)).tr (f2.mono (fun q hq => Or.inl hq))).tr (f3.mono (fun q hq => Or.inl hq)), ⟨la, f3.at (by omega) hL2⟩, g, e3, ?_, fun q hq => ?_⟩
        · refine ⟨?_, hy, fun k hk => ?_⟩
          · rw [h6 _ (by omega), upz_at]
          · rw [j2 k hk, show (81 * r).toNat + 1 + k = (81 * r + 1 + (k : Int)).toNat by omega, h5 (k : Int) (by omega) (by omega)]
            congr 2
            omega
        · rw [h6 q (by omega), upz_ne _ _ (by omega)]
    · have hat := c_Md_at (p := p) hM1 hr i1 c1
      have hx := rat_in_bd hb (p := p) i1 c1
      have hrlu := c_Md_rowLong hM1 hu
      have ek : ((p.toNat : Nat) : Int) = p := by omega
      have hd := unr_drop (sym := 8 + u) (fl := rwG G u) (xs := rwG G r) (p := p.toNat) (by omega)
      rw [ek] at hd
      rw [hd] at j3
      have hin := lp_uiI (r := r) (u := u) (p := p) (x := rat (rwG G r) p) (ys := unr (8 + u) (rwG G u) (rwG G r)) (rs := unr (8 + u) (rwG G u) ((rwG G r).drop (p.toNat + 1))) hM1 hu hy hx hu0 rfl (Q := uiPost M m r f (unr (8 + u) (rwG G u) (rwG G r))) (fun acc' M2 f2 hla hac => ih (p + 1) acc' M2 ⟨by omega, by omega, by omega, i4.tr f2, hla, by rw [show (p + 1).toNat = p.toNat + 1 by omega]; exact hac⟩) 100 0 acc M1
      have hlu : (unr1 (8 + u) (rwG G u) (rat (rwG G r) p)).length ≤ 80 := by
        have : (acc ++ (unr1 (8 + u) (rwG G u) (rat (rwG G r) p) ++ unr (8 + u) (rwG G u) ((rwG G r).drop (p.toNat + 1)))).length ≤ 80 := by rw [j3]; exact hy
        rw [List.length_append, List.length_append] at this
        omega
      have hst := fun (_ : True) => hin ⟨by omega, by omega, by omega, Fr.rf, ⟨la, j1, j2⟩, j3⟩
      repeat (refine wf rfl ?_; first | refine wq_iadd ?_ | refine wq_isub ?_ | refine wq_imul ?_ | refine wq_iinc rfl ?_ | refine wq_goto ?_ | refine wq_k rfl ?_ | refine wq_b rfl rfl ?_ | refine wq_getf (by assumption) rfl ?_ | refine wq_alen (by assumption) rfl ?_)
      refine wf rfl (wq_cv rfl rfl rfl hO1 (hat.mono ?_))
      rintro v M1 ⟨rfl, rfl⟩
      repeat (refine wf rfl ?_; first | refine wq_iadd ?_ | refine wq_isub ?_ | refine wq_imul ?_ | refine wq_iinc rfl ?_ | refine wq_goto ?_ | refine wq_k rfl ?_ | refine wq_b rfl rfl ?_ | refine wq_getf (by assumption) rfl ?_ | refine wq_alen (by assumption) rfl ?_)
      by_cases hc : rat (rwG G r) p = 8 + u
      · have el : (unr1 (8 + u) (rwG G u) (rat (rwG G r) p)).length = (rwG G u).length := by rw [hc, unr1_eq]
        rw [el] at hst
        refine wf rfl (wq_ne ⟨by omega, by omega⟩ ⟨by omega, by omega⟩ (fun c2 => by exfalso; omega) (fun c2 => ?_))
        repeat (refine wf rfl ?_; first | refine wq_iadd ?_ | refine wq_isub ?_ | refine wq_imul ?_ | refine wq_iinc rfl ?_ | refine wq_goto ?_ | refine wq_k rfl ?_ | refine wq_b rfl rfl ?_ | refine wq_getf (by assumption) rfl ?_ | refine wq_alen (by assumption) rfl ?_)
        refine wf rfl (wq_cv rfl rfl rfl hO1 (hrlu.mono ?_))
        rintro v M1 ⟨rfl, rfl⟩
        repeat' (first | (refine Wp.sub (hst  ?_) ⟨rfl, rfl, rfl, rfl, rfl, rfl, rfl, rfl, trivial⟩ rfl) | (refine wf rfl ?_; first | refine wq_iadd ?_ | refine wq_isub ?_ | refine wq_imul ?_ | refine wq_iinc rfl ?_ | refine wq_goto ?_ | refine wq_k rfl ?_ | refine wq_b rfl rfl ?_ | refine wq_getf (by assumption) rfl ?_ | refine wq_alen (by assumption) rfl ?_ | fail | (refine wq_eq ⟨by omega, by omega⟩ ⟨by omega, by omega⟩ (fun _ => ?_) (fun _ => ?_) <;> try (exfalso; omega)) | (refine wq_ne ⟨by omega, by omega⟩ ⟨by omega, by omega⟩ (fun _ => ?_) (fun _ => ?_) <;> try (exfalso; omega)) | (refine wq_lt ⟨by omega, by omega⟩ ⟨by omega, by omega⟩ (fun _ => ?_) (fun _ => ?_) <;> try (exfalso; omega)) | (refine wq_ge ⟨by omega, by omega⟩ ⟨by omega, by omega⟩ (fun _ => ?_) (fun _ => ?_) <;> try (exfalso; omega)) | (refine wq_gt ⟨by omega, by omega⟩ ⟨by omega, by omega⟩ (fun _ => ?_) (fun _ => ?_) <;> try (exfalso; omega)) | (refine wq_le ⟨by omega, by omega⟩ ⟨by omega, by omega⟩ (fun _ => ?_) (fun _ => ?_) <;> try (exfalso; omega)) | (refine wq_ifeq ⟨by omega, by omega⟩ (fun _ => ?_) (fun _ => ?_) <;> try (exfalso; omega)) | (refine wq_ifne ⟨by omega, by omega⟩ (fun _ => ?_) (fun _ => ?_) <;> try (exfalso; omega)) | (refine wq_iflt ⟨by omega, by omega⟩ (fun _ => ?_) (fun _ => ?_) <;> try (exfalso; omega)) | (refine wq_ifge ⟨by omega, by omega⟩ (fun _ => ?_) (fun _ => ?_) <;> try (exfalso; omega)) | (refine wq_ifgt ⟨by omega, by omega⟩ (fun _ => ?_) (fun _ => ?_) <;> try (exfalso; omega)) | (refine wq_ifle ⟨by omega, by omega⟩ (fun _ => ?_) (fun _ => ?_) <;> try (exfalso; omega)) | refine wq_r rfl rfl rfl rfl rfl rfl ?_))
        trivial
      · have el : (unr1 (8 + u) (rwG G u) (rat (rwG G r) p)).length = 1 := by
          rcases Int.lt_or_le (rat (rwG G r) p) (8 + u) with w | w
          · rw [unr1_gt w]; rfl
          · rw [unr1_lt (by omega)]; rfl
        rw [el] at hst
        refine wf rfl (wq_ne ⟨by omega, by omega⟩ ⟨by omega, by omega⟩ (fun c2 => ?_) (fun c2 => by exfalso; omega))
        repeat' (first | (refine Wp.sub (hst  ?_) ⟨rfl, rfl, rfl, rfl, rfl, rfl, rfl, rfl, trivial⟩ rfl) | (refine wf rfl ?_; first | refine wq_iadd ?_ | refine wq_isub ?_ | refine wq_imul ?_ | refine wq_iinc rfl ?_ | refine wq_goto ?_ | refine wq_k rfl ?_ | refine wq_b rfl rfl ?_ | refine wq_getf (by assumption) rfl ?_ | refine wq_alen (by assumption) rfl ?_ | fail | (refine wq_eq ⟨by omega, by omega⟩ ⟨by omega, by omega⟩ (fun _ => ?_) (fun _ => ?_) <;> try (exfalso; omega)) | (refine wq_ne ⟨by omega, by omega⟩ ⟨by omega, by omega⟩ (fun _ => ?_) (fun _ => ?_) <;> try (exfalso; omega)) | (refine wq_lt ⟨by omega, by omega⟩ ⟨by omega, by omega⟩ (fun _ => ?_) (fun _ => ?_) <;> try (exfalso; omega)) | (refine wq_ge ⟨by omega, by omega⟩ ⟨by omega, by omega⟩ (fun _ => ?_) (fun _ => ?_) <;> try (exfalso; omega)) | (refine wq_gt ⟨by omega, by omega⟩ ⟨by omega, by omega⟩ (fun _ => ?_) (fun _ => ?_) <;> try (exfalso; omega)) | (refine wq_le ⟨by omega, by omega⟩ ⟨by omega, by omega⟩ (fun _ => ?_) (fun _ => ?_) <;> try (exfalso; omega)) | (refine wq_ifeq ⟨by omega, by omega⟩ (fun _ => ?_) (fun _ => ?_) <;> try (exfalso; omega)) | (refine wq_ifne ⟨by omega, by omega⟩ (fun _ => ?_) (fun _ => ?_) <;> try (exfalso; omega)) | (refine wq_iflt ⟨by omega, by omega⟩ (fun _ => ?_) (fun _ => ?_) <;> try (exfalso; omega)) | (refine wq_ifge ⟨by omega, by omega⟩ (fun _ => ?_) (fun _ => ?_) <;> try (exfalso; omega)) | (refine wq_ifgt ⟨by omega, by omega⟩ (fun _ => ?_) (fun _ => ?_) <;> try (exfalso; omega)) | (refine wq_ifle ⟨by omega, by omega⟩ (fun _ => ?_) (fun _ => ?_) <;> try (exfalso; omega)) | refine wq_r rfl rfl rfl rfl rfl rfl ?_))
        trivial
theorem c_Md_unrollsIn {r u : Int} {f la : Nat → Int} (h : Mr M m G) (hA : M[m + 1]? = some (aJ 2188 f)) (hL : M[m + 13]? = some (aJ 80 la)) (hr : vrG G r) (hu : vrG G u) (hu0 : u ≤ 25) (hb : SB (rwG G r)) (hy : (unr (8 + u) (rwG G u) (rwG G r)).length ≤ 80) : Wm 145 [.ref m, .int (I r), .int (I u)] M (uiPost M m r f (unr (8 + u) (rwG G u) (rwG G r))) := by
  have hrr := h.rl hr
  have hst := fun (_ : True) => lp_ui (f := f) h hA hr hu hu0 hb hy 100 0 [] M ⟨by omega, by omega, by omega, Fr.rf, ⟨la, hL, Lw.nil _ _⟩, by simp⟩
  refine wm_in (lv := _) rfl rfl rfl ?_
  repeat' (first | (refine Wp.sub (hst  ?_) ⟨rfl, rfl, rfl, rfl, rfl, trivial⟩ rfl) | (refine wf rfl ?_; first | refine wq_iadd ?_ | refine wq_isub ?_ | refine wq_imul ?_ | refine wq_iinc rfl ?_ | refine wq_goto ?_ | refine wq_k rfl ?_ | refine wq_b rfl rfl ?_ | refine wq_getf (by assumption) rfl ?_ | refine wq_alen (by assumption) rfl ?_ | fail | (refine wq_eq ⟨by omega, by omega⟩ ⟨by omega, by omega⟩ (fun _ => ?_) (fun _ => ?_) <;> try (exfalso; omega)) | (refine wq_ne ⟨by omega, by omega⟩ ⟨by omega, by omega⟩ (fun _ => ?_) (fun _ => ?_) <;> try (exfalso; omega)) | (refine wq_lt ⟨by omega, by omega⟩ ⟨by omega, by omega⟩ (fun _ => ?_) (fun _ => ?_) <;> try (exfalso; omega)) | (refine wq_ge ⟨by omega, by omega⟩ ⟨by omega, by omega⟩ (fun _ => ?_) (fun _ => ?_) <;> try (exfalso; omega)) | (refine wq_gt ⟨by omega, by omega⟩ ⟨by omega, by omega⟩ (fun _ => ?_) (fun _ => ?_) <;> try (exfalso; omega)) | (refine wq_le ⟨by omega, by omega⟩ ⟨by omega, by omega⟩ (fun _ => ?_) (fun _ => ?_) <;> try (exfalso; omega)) | (refine wq_ifeq ⟨by omega, by omega⟩ (fun _ => ?_) (fun _ => ?_) <;> try (exfalso; omega)) | (refine wq_ifne ⟨by omega, by omega⟩ (fun _ => ?_) (fun _ => ?_) <;> try (exfalso; omega)) | (refine wq_iflt ⟨by omega, by omega⟩ (fun _ => ?_) (fun _ => ?_) <;> try (exfalso; omega)) | (refine wq_ifge ⟨by omega, by omega⟩ (fun _ => ?_) (fun _ => ?_) <;> try (exfalso; omega)) | (refine wq_ifgt ⟨by omega, by omega⟩ (fun _ => ?_) (fun _ => ?_) <;> try (exfalso; omega)) | (refine wq_ifle ⟨by omega, by omega⟩ (fun _ => ?_) (fun _ => ?_) <;> try (exfalso; omega)) | refine wq_r rfl rfl rfl rfl rfl rfl ?_))
  trivial
end MD5
