/-! The law's areAlike. -/
theorem sym_bd {G : GS} (hW : WFG G) (hN : G.1.length ≤ 26) (r p : Int) : -1 ≤ spSymbol r p G ∧ spSymbol r p G < 34 := by
  unfold spSymbol
  split
  · omega
  · split
    · rename_i hp
      unfold spRow at hp ⊢
      by_cases hr : 0 ≤ r ∧ r < G.1.length
      · rw [if_pos hr] at hp ⊢
        have := hW.1 r.toNat (by omega) _ (rat_mem hp.1 hp.2)
        omega
      · rw [if_neg hr] at hp ⊢
        have := hW.2.1 _ (rat_mem hp.1 hp.2)
        omega
    · omega
theorem best01_bd {G : GS} (hW : WFG G) (hN : G.1.length ≤ 26) {t : Int} (h : t = 0 ∨ t = 1) : -6 ≤ spBest t G ∧ spBest t G < 34 := by
  by_cases hl : G.2.length < 2
  · have e : spBest t G = -6 := by
      unfold spBest
      rw [if_pos (by omega), if_pos hl]
    omega
  · obtain ⟨p0, p1, p2, p3, p4⟩ := best_pair hW (by omega)
    rcases h with rfl | rfl <;> omega
section ALK
variable {L z : Nat} {f : Nat → Int} {S : ST}
abbrev AQ (L z : Nat) (f : Nat → Int) (S : ST) : Option Value → PM → Prop := fun v M' => v = some (.int (I 1)) ∧ TX M' L z f S (fl_S S)
set_option maxRecDepth 20000 in
/-- letters by place -/
theorem la_let (hK : OKS S) (n : Nat) : ∀ (k : Int) (M : PM), (TX M L z f S (fl_S S) ∧ 0 ≤ k ∧ k ≤ 20000 ∧ wlG S.1 - k < n) →
    Wp k_L_areAlike (335, [(0, .ref 1), (1, .ref 613), (2, .int (I 1)), (3, .int (I (wlG S.1))), (4, .int (I k))], [], M) (AQ L z f S) := by
  have hwl := hK.wl
  induction n with
  | zero =>
    rintro k M ⟨h, i0, i1, i2⟩
    repeat (refine wf rfl ?_; first | refine wq_iadd ?_ | refine wq_isub ?_ | refine wq_imul ?_ | refine wq_iinc rfl ?_ | refine wq_goto ?_ | refine wq_k rfl ?_ | refine wq_b rfl rfl ?_ | refine wq_getf (by assumption) rfl ?_ | refine wq_alen (by assumption) rfl ?_)
    refine wf rfl (wq_ge ⟨by omega, by omega⟩ ⟨by omega, by omega⟩ (fun _ => ?_) (fun c9 => by exfalso; omega))
    repeat' (refine wf rfl ?_; first | refine wq_iadd ?_ | refine wq_isub ?_ | refine wq_imul ?_ | refine wq_iinc rfl ?_ | refine wq_goto ?_ | refine wq_k rfl ?_ | refine wq_b rfl rfl ?_ | refine wq_getf (by assumption) rfl ?_ | refine wq_alen (by assumption) rfl ?_ | (refine wq_eq ⟨by omega, by omega⟩ ⟨by omega, by omega⟩ (fun _ => ?_) (fun _ => ?_) <;> try (exfalso; omega)) | (refine wq_ne ⟨by omega, by omega⟩ ⟨by omega, by omega⟩ (fun _ => ?_) (fun _ => ?_) <;> try (exfalso; omega)) | (refine wq_lt ⟨by omega, by omega⟩ ⟨by omega, by omega⟩ (fun _ => ?_) (fun _ => ?_) <;> try (exfalso; omega)) | (refine wq_ge ⟨by omega, by omega⟩ ⟨by omega, by omega⟩ (fun _ => ?_) (fun _ => ?_) <;> try (exfalso; omega)) | (refine wq_gt ⟨by omega, by omega⟩ ⟨by omega, by omega⟩ (fun _ => ?_) (fun _ => ?_) <;> try (exfalso; omega)) | (refine wq_le ⟨by omega, by omega⟩ ⟨by omega, by omega⟩ (fun _ => ?_) (fun _ => ?_) <;> try (exfalso; omega)) | (refine wq_ifeq ⟨by omega, by omega⟩ (fun _ => ?_) (fun _ => ?_) <;> try (exfalso; omega)) | (refine wq_ifne ⟨by omega, by omega⟩ (fun _ => ?_) (fun _ => ?_) <;> try (exfalso; omega)) | (refine wq_iflt ⟨by omega, by omega⟩ (fun _ => ?_) (fun _ => ?_) <;> try (exfalso; omega)) | (refine wq_ifge ⟨by omega, by omega⟩ (fun _ => ?_) (fun _ => ?_) <;> try (exfalso; omega)) | (refine wq_ifgt ⟨by omega, by omega⟩ (fun _ => ?_) (fun _ => ?_) <;> try (exfalso; omega)) | (refine wq_ifle ⟨by omega, by omega⟩ (fun _ => ?_) (fun _ => ?_) <;> try (exfalso; omega)) | refine wq_r rfl rfl rfl rfl rfl rfl ?_)
    exact ⟨rfl, h⟩
  | succ n ih =>
    rintro k M ⟨h, i0, i1, i2⟩
    by_cases hk : k < wlG S.1
    · have hlb := letter_bd hK.1 k
      obtain ⟨fs, ho⟩ := h.o
      repeat (refine wf rfl ?_; first | refine wq_iadd ?_ | refine wq_isub ?_ | refine wq_imul ?_ | refine wq_iinc rfl ?_ | refine wq_goto ?_ | refine wq_k rfl ?_ | refine wq_b rfl rfl ?_ | refine wq_getf (by assumption) rfl ?_ | refine wq_alen (by assumption) rfl ?_)
      refine wf rfl (wq_ge ⟨by omega, by omega⟩ ⟨by omega, by omega⟩ (fun c9 => by exfalso; omega) (fun _ => ?_))
      repeat (refine wf rfl ?_; first | refine wq_iadd ?_ | refine wq_isub ?_ | refine wq_imul ?_ | refine wq_iinc rfl ?_ | refine wq_goto ?_ | refine wq_k rfl ?_ | refine wq_b rfl rfl ?_ | refine wq_getf (by assumption) rfl ?_ | refine wq_alen (by assumption) rfl ?_)
      refine wf rfl (wq_ifeq ⟨by omega, by omega⟩ (fun c9 => by exfalso; omega) (fun _ => ?_))
      repeat (refine wf rfl ?_; first | refine wq_iadd ?_ | refine wq_isub ?_ | refine wq_imul ?_ | refine wq_iinc rfl ?_ | refine wq_goto ?_ | refine wq_k rfl ?_ | refine wq_b rfl rfl ?_ | refine wq_getf (by assumption) rfl ?_ | refine wq_alen (by assumption) rfl ?_)
      refine wf rfl (wq_cv rfl rfl rfl ho ((o_letter (t := k) ⟨by omega, by omega⟩ h).mono ?_))
      rintro v M1 ⟨rfl, h1⟩
      refine wf rfl (wq_cs rfl rfl ((c_there (M := M1) (s := spLetter k S.1) ⟨by omega, by omega⟩).mono ?_))
      rintro v M1 ⟨rfl, rfl⟩
      obtain ⟨fs1, ho1⟩ := h1.p
      repeat (refine wf rfl ?_; first | refine wq_iadd ?_ | refine wq_isub ?_ | refine wq_imul ?_ | refine wq_iinc rfl ?_ | refine wq_goto ?_ | refine wq_k rfl ?_ | refine wq_b rfl rfl ?_ | refine wq_getf (by assumption) rfl ?_ | refine wq_alen (by assumption) rfl ?_)
      refine wf rfl (wq_cv rfl rfl rfl ho1 ((q_letter (t := k) ⟨by omega, by omega⟩ h1).mono ?_))
      rintro v M2 ⟨rfl, h2⟩
      refine wf rfl (wq_neS ?_)
      obtain ⟨fs2, ho2⟩ := h2.o
      repeat (refine wf rfl ?_; first | refine wq_iadd ?_ | refine wq_isub ?_ | refine wq_imul ?_ | refine wq_iinc rfl ?_ | refine wq_goto ?_ | refine wq_k rfl ?_ | refine wq_b rfl rfl ?_ | refine wq_getf (by assumption) rfl ?_ | refine wq_alen (by assumption) rfl ?_)
      refine wf rfl (wq_cv rfl rfl rfl ho2 ((o_opens (t := k) ⟨by omega, by omega⟩ h2).mono ?_))
      rintro v M3 ⟨rfl, h3⟩
      obtain ⟨fs3, ho3⟩ := h3.p
      repeat (refine wf rfl ?_; first | refine wq_iadd ?_ | refine wq_isub ?_ | refine wq_imul ?_ | refine wq_iinc rfl ?_ | refine wq_goto ?_ | refine wq_k rfl ?_ | refine wq_b rfl rfl ?_ | refine wq_getf (by assumption) rfl ?_ | refine wq_alen (by assumption) rfl ?_)
      refine wf rfl (wq_cv rfl rfl rfl ho3 ((q_opens (t := k) ⟨by omega, by omega⟩ h3).mono ?_))
      rintro v M4 ⟨rfl, h4⟩
      refine wf rfl (wq_neS ?_)
      have hq : 0 ≤ wlG S.1 / 300 ∧ wlG S.1 / 300 ≤ 34 := by omega
      have hx := fun (_ : True) => ih (k + (1 + wlG S.1 / 300)) M4 ⟨h4, by omega, by omega, by omega⟩
      repeat' (first | (refine Wp.sub (hx  ?_) ⟨rfl, rfl, rfl, rfl, rfl, trivial⟩ rfl) | (refine wf rfl ?_; first | refine wq_idiv (by omega) ⟨by omega, by omega⟩ (by omega) ⟨by omega, by omega⟩ ?_ | refine wq_iadd ?_ | refine wq_isub ?_ | refine wq_imul ?_ | refine wq_iinc rfl ?_ | refine wq_goto ?_ | refine wq_k rfl ?_ | refine wq_b rfl rfl ?_ | refine wq_getf (by assumption) rfl ?_ | refine wq_alen (by assumption) rfl ?_ | (refine wq_eq ⟨by omega, by omega⟩ ⟨by omega, by omega⟩ (fun _ => ?_) (fun _ => ?_) <;> try (exfalso; omega)) | (refine wq_ne ⟨by omega, by omega⟩ ⟨by omega, by omega⟩ (fun _ => ?_) (fun _ => ?_) <;> try (exfalso; omega)) | (refine wq_lt ⟨by omega, by omega⟩ ⟨by omega, by omega⟩ (fun _ => ?_) (fun _ => ?_) <;> try (exfalso; omega)) | (refine wq_ge ⟨by omega, by omega⟩ ⟨by omega, by omega⟩ (fun _ => ?_) (fun _ => ?_) <;> try (exfalso; omega)) | (refine wq_gt ⟨by omega, by omega⟩ ⟨by omega, by omega⟩ (fun _ => ?_) (fun _ => ?_) <;> try (exfalso; omega)) | (refine wq_le ⟨by omega, by omega⟩ ⟨by omega, by omega⟩ (fun _ => ?_) (fun _ => ?_) <;> try (exfalso; omega)) | (refine wq_ifeq ⟨by omega, by omega⟩ (fun _ => ?_) (fun _ => ?_) <;> try (exfalso; omega)) | (refine wq_ifne ⟨by omega, by omega⟩ (fun _ => ?_) (fun _ => ?_) <;> try (exfalso; omega)) | (refine wq_iflt ⟨by omega, by omega⟩ (fun _ => ?_) (fun _ => ?_) <;> try (exfalso; omega)) | (refine wq_ifge ⟨by omega, by omega⟩ (fun _ => ?_) (fun _ => ?_) <;> try (exfalso; omega)) | (refine wq_ifgt ⟨by omega, by omega⟩ (fun _ => ?_) (fun _ => ?_) <;> try (exfalso; omega)) | (refine wq_ifle ⟨by omega, by omega⟩ (fun _ => ?_) (fun _ => ?_) <;> try (exfalso; omega)) | refine wq_r rfl rfl rfl rfl rfl rfl ?_))
      trivial
    · repeat (refine wf rfl ?_; first | refine wq_iadd ?_ | refine wq_isub ?_ | refine wq_imul ?_ | refine wq_iinc rfl ?_ | refine wq_goto ?_ | refine wq_k rfl ?_ | refine wq_b rfl rfl ?_ | refine wq_getf (by assumption) rfl ?_ | refine wq_alen (by assumption) rfl ?_)
      refine wf rfl (wq_ge ⟨by omega, by omega⟩ ⟨by omega, by omega⟩ (fun _ => ?_) (fun c9 => by exfalso; omega))
      repeat' (refine wf rfl ?_; first | refine wq_iadd ?_ | refine wq_isub ?_ | refine wq_imul ?_ | refine wq_iinc rfl ?_ | refine wq_goto ?_ | refine wq_k rfl ?_ | refine wq_b rfl rfl ?_ | refine wq_getf (by assumption) rfl ?_ | refine wq_alen (by assumption) rfl ?_ | (refine wq_eq ⟨by omega, by omega⟩ ⟨by omega, by omega⟩ (fun _ => ?_) (fun _ => ?_) <;> try (exfalso; omega)) | (refine wq_ne ⟨by omega, by omega⟩ ⟨by omega, by omega⟩ (fun _ => ?_) (fun _ => ?_) <;> try (exfalso; omega)) | (refine wq_lt ⟨by omega, by omega⟩ ⟨by omega, by omega⟩ (fun _ => ?_) (fun _ => ?_) <;> try (exfalso; omega)) | (refine wq_ge ⟨by omega, by omega⟩ ⟨by omega, by omega⟩ (fun _ => ?_) (fun _ => ?_) <;> try (exfalso; omega)) | (refine wq_gt ⟨by omega, by omega⟩ ⟨by omega, by omega⟩ (fun _ => ?_) (fun _ => ?_) <;> try (exfalso; omega)) | (refine wq_le ⟨by omega, by omega⟩ ⟨by omega, by omega⟩ (fun _ => ?_) (fun _ => ?_) <;> try (exfalso; omega)) | (refine wq_ifeq ⟨by omega, by omega⟩ (fun _ => ?_) (fun _ => ?_) <;> try (exfalso; omega)) | (refine wq_ifne ⟨by omega, by omega⟩ (fun _ => ?_) (fun _ => ?_) <;> try (exfalso; omega)) | (refine wq_iflt ⟨by omega, by omega⟩ (fun _ => ?_) (fun _ => ?_) <;> try (exfalso; omega)) | (refine wq_ifge ⟨by omega, by omega⟩ (fun _ => ?_) (fun _ => ?_) <;> try (exfalso; omega)) | (refine wq_ifgt ⟨by omega, by omega⟩ (fun _ => ?_) (fun _ => ?_) <;> try (exfalso; omega)) | (refine wq_ifle ⟨by omega, by omega⟩ (fun _ => ?_) (fun _ => ?_) <;> try (exfalso; omega)) | refine wq_r rfl rfl rfl rfl rfl rfl ?_)
      exact ⟨rfl, h⟩
set_option maxRecDepth 20000 in
/-- the main row -/
theorem la_main (hK : OKS S) (n : Nat) : ∀ (k : Int) (M : PM), (TX M L z f S (fl_S S) ∧ 0 ≤ k ∧ k ≤ S.1.2.length ∧ S.1.2.length - k < n) →
    Wp k_L_areAlike (281, [(0, .ref 1), (1, .ref 613), (2, .int (I 1)), (3, .int (I k))], [], M) (AQ L z f S) := by
  induction n with
  | zero =>
    rintro k M ⟨h, i0, i1, i2⟩
    exfalso
    omega
  | succ n ih =>
    rintro k M ⟨h, i0, i1, i2⟩
    have hN := h.2.1.n26
    have h80 := h.2.1.r80.1
    have hsb := sym_bd hK.1.1 hN (-6) k
    obtain ⟨fs, ho⟩ := h.o
    repeat (refine wf rfl ?_; first | refine wq_iadd ?_ | refine wq_isub ?_ | refine wq_imul ?_ | refine wq_iinc rfl ?_ | refine wq_goto ?_ | refine wq_k rfl ?_ | refine wq_b rfl rfl ?_ | refine wq_getf (by assumption) rfl ?_ | refine wq_alen (by assumption) rfl ?_)
    refine wf rfl (wq_cv rfl rfl rfl ho ((o_count (t := 1) ⟨by omega, by omega⟩ h).mono ?_))
    rintro v M1 ⟨rfl, h1⟩
    rw [cnt_1]
    by_cases hk : k < S.1.2.length
    · refine wf rfl (wq_ge ⟨by omega, by omega⟩ ⟨by omega, by omega⟩ (fun c9 => by exfalso; omega) (fun _ => ?_))
      repeat (refine wf rfl ?_; first | refine wq_iadd ?_ | refine wq_isub ?_ | refine wq_imul ?_ | refine wq_iinc rfl ?_ | refine wq_goto ?_ | refine wq_k rfl ?_ | refine wq_b rfl rfl ?_ | refine wq_getf (by assumption) rfl ?_ | refine wq_alen (by assumption) rfl ?_)
      refine wf rfl (wq_ifeq ⟨by omega, by omega⟩ (fun c9 => by exfalso; omega) (fun _ => ?_))
      obtain ⟨fs1, ho1⟩ := h1.o
      repeat (refine wf rfl ?_; first | refine wq_iadd ?_ | refine wq_isub ?_ | refine wq_imul ?_ | refine wq_iinc rfl ?_ | refine wq_goto ?_ | refine wq_k rfl ?_ | refine wq_b rfl rfl ?_ | refine wq_getf (by assumption) rfl ?_ | refine wq_alen (by assumption) rfl ?_)
      refine wf rfl (wq_cv rfl rfl rfl ho1 ((o_symbol (r := -6) (t := k) ⟨by omega, by omega⟩ ⟨by omega, by omega⟩ h1).mono ?_))
      rintro v M2 ⟨rfl, h2⟩
      refine wf rfl (wq_cs rfl rfl ((c_there (M := M2) (s := spSymbol (-6) k S.1) ⟨by omega, by omega⟩).mono ?_))
      rintro v M2 ⟨rfl, rfl⟩
      obtain ⟨fs2, ho2⟩ := h2.p
      repeat (refine wf rfl ?_; first | refine wq_iadd ?_ | refine wq_isub ?_ | refine wq_imul ?_ | refine wq_iinc rfl ?_ | refine wq_goto ?_ | refine wq_k rfl ?_ | refine wq_b rfl rfl ?_ | refine wq_getf (by assumption) rfl ?_ | refine wq_alen (by assumption) rfl ?_)
      refine wf rfl (wq_cv rfl rfl rfl ho2 ((q_symbol (r := -6) (t := k) ⟨by omega, by omega⟩ ⟨by omega, by omega⟩ h2).mono ?_))
      rintro v M3 ⟨rfl, h3⟩
      refine wf rfl (wq_neS ?_)
      have hx := fun (_ : True) => ih (k + 1) M3 ⟨h3, by omega, by omega, by omega⟩
      repeat' (first | (refine Wp.sub (hx  ?_) ⟨rfl, rfl, rfl, rfl, trivial⟩ rfl) | (refine wf rfl ?_; first | refine wq_iadd ?_ | refine wq_isub ?_ | refine wq_imul ?_ | refine wq_iinc rfl ?_ | refine wq_goto ?_ | refine wq_k rfl ?_ | refine wq_b rfl rfl ?_ | refine wq_getf (by assumption) rfl ?_ | refine wq_alen (by assumption) rfl ?_ | fail | (refine wq_eq ⟨by omega, by omega⟩ ⟨by omega, by omega⟩ (fun _ => ?_) (fun _ => ?_) <;> try (exfalso; omega)) | (refine wq_ne ⟨by omega, by omega⟩ ⟨by omega, by omega⟩ (fun _ => ?_) (fun _ => ?_) <;> try (exfalso; omega)) | (refine wq_lt ⟨by omega, by omega⟩ ⟨by omega, by omega⟩ (fun _ => ?_) (fun _ => ?_) <;> try (exfalso; omega)) | (refine wq_ge ⟨by omega, by omega⟩ ⟨by omega, by omega⟩ (fun _ => ?_) (fun _ => ?_) <;> try (exfalso; omega)) | (refine wq_gt ⟨by omega, by omega⟩ ⟨by omega, by omega⟩ (fun _ => ?_) (fun _ => ?_) <;> try (exfalso; omega)) | (refine wq_le ⟨by omega, by omega⟩ ⟨by omega, by omega⟩ (fun _ => ?_) (fun _ => ?_) <;> try (exfalso; omega)) | (refine wq_ifeq ⟨by omega, by omega⟩ (fun _ => ?_) (fun _ => ?_) <;> try (exfalso; omega)) | (refine wq_ifne ⟨by omega, by omega⟩ (fun _ => ?_) (fun _ => ?_) <;> try (exfalso; omega)) | (refine wq_iflt ⟨by omega, by omega⟩ (fun _ => ?_) (fun _ => ?_) <;> try (exfalso; omega)) | (refine wq_ifge ⟨by omega, by omega⟩ (fun _ => ?_) (fun _ => ?_) <;> try (exfalso; omega)) | (refine wq_ifgt ⟨by omega, by omega⟩ (fun _ => ?_) (fun _ => ?_) <;> try (exfalso; omega)) | (refine wq_ifle ⟨by omega, by omega⟩ (fun _ => ?_) (fun _ => ?_) <;> try (exfalso; omega)) | refine wq_r rfl rfl rfl rfl rfl rfl ?_))
      trivial
    · refine wf rfl (wq_ge ⟨by omega, by omega⟩ ⟨by omega, by omega⟩ (fun _ => ?_) (fun c9 => by exfalso; omega))
      obtain ⟨fs1, ho1⟩ := h1.o
      repeat (refine wf rfl ?_; first | refine wq_iadd ?_ | refine wq_isub ?_ | refine wq_imul ?_ | refine wq_iinc rfl ?_ | refine wq_goto ?_ | refine wq_k rfl ?_ | refine wq_b rfl rfl ?_ | refine wq_getf (by assumption) rfl ?_ | refine wq_alen (by assumption) rfl ?_)
      refine wf rfl (wq_cv rfl rfl rfl ho1 ((o_count (t := 0) ⟨by omega, by omega⟩ h1).mono ?_))
      rintro v M2 ⟨rfl, h2⟩
      rw [cnt_0]
      have hwl := hK.wl
      have hx := fun (_ : True) => la_let hK 20000 0 M2 ⟨h2, by omega, by omega, by omega⟩
      repeat' (first | (refine Wp.sub (hx  ?_) ⟨rfl, rfl, rfl, rfl, rfl, trivial⟩ rfl) | (refine wf rfl ?_; first | refine wq_iadd ?_ | refine wq_isub ?_ | refine wq_imul ?_ | refine wq_iinc rfl ?_ | refine wq_goto ?_ | refine wq_k rfl ?_ | refine wq_b rfl rfl ?_ | refine wq_getf (by assumption) rfl ?_ | refine wq_alen (by assumption) rfl ?_ | fail | (refine wq_eq ⟨by omega, by omega⟩ ⟨by omega, by omega⟩ (fun _ => ?_) (fun _ => ?_) <;> try (exfalso; omega)) | (refine wq_ne ⟨by omega, by omega⟩ ⟨by omega, by omega⟩ (fun _ => ?_) (fun _ => ?_) <;> try (exfalso; omega)) | (refine wq_lt ⟨by omega, by omega⟩ ⟨by omega, by omega⟩ (fun _ => ?_) (fun _ => ?_) <;> try (exfalso; omega)) | (refine wq_ge ⟨by omega, by omega⟩ ⟨by omega, by omega⟩ (fun _ => ?_) (fun _ => ?_) <;> try (exfalso; omega)) | (refine wq_gt ⟨by omega, by omega⟩ ⟨by omega, by omega⟩ (fun _ => ?_) (fun _ => ?_) <;> try (exfalso; omega)) | (refine wq_le ⟨by omega, by omega⟩ ⟨by omega, by omega⟩ (fun _ => ?_) (fun _ => ?_) <;> try (exfalso; omega)) | (refine wq_ifeq ⟨by omega, by omega⟩ (fun _ => ?_) (fun _ => ?_) <;> try (exfalso; omega)) | (refine wq_ifne ⟨by omega, by omega⟩ (fun _ => ?_) (fun _ => ?_) <;> try (exfalso; omega)) | (refine wq_iflt ⟨by omega, by omega⟩ (fun _ => ?_) (fun _ => ?_) <;> try (exfalso; omega)) | (refine wq_ifge ⟨by omega, by omega⟩ (fun _ => ?_) (fun _ => ?_) <;> try (exfalso; omega)) | (refine wq_ifgt ⟨by omega, by omega⟩ (fun _ => ?_) (fun _ => ?_) <;> try (exfalso; omega)) | (refine wq_ifle ⟨by omega, by omega⟩ (fun _ => ?_) (fun _ => ?_) <;> try (exfalso; omega)) | refine wq_r rfl rfl rfl rfl rfl rfl ?_))
      trivial
set_option maxRecDepth 20000 in
/-- a rule's symbols -/
theorem la_sym (hK : OKS S) {r : Nat} (hr : r < S.1.1.length) {Q : Option Value → PM → Prop} (hq : ∀ M, TX M L z f S (fl_S S) → Wp k_L_areAlike (273, [(0, .ref 1), (1, .ref 613), (2, .int (I 1)), (3, .int (I (r : Int)))], [], M) Q) (n : Nat) : ∀ (k : Int) (M : PM), (TX M L z f S (fl_S S) ∧ 0 ≤ k ∧ k ≤ (xof S.1.1 r).length ∧ (xof S.1.1 r).length - k < n) →
    Wp k_L_areAlike (226, [(0, .ref 1), (1, .ref 613), (2, .int (I 1)), (3, .int (I (r : Int))), (4, .int (I k))], [], M) Q := by
  induction n with
  | zero =>
    rintro k M ⟨h, i0, i1, i2⟩
    exfalso
    omega
  | succ n ih =>
    rintro k M ⟨h, i0, i1, i2⟩
    have hN := h.2.1.n26
    have h80 := h.2.1.r80.2 r hr
    have hsb := sym_bd hK.1.1 hN (r : Int) k
    have er : ((r : Int)).toNat = r := by omega
    have o0 := orl_0 (G := S.1) (r := (r : Int)) (by omega)
    rw [er] at o0
    obtain ⟨fs, ho⟩ := h.o
    repeat (refine wf rfl ?_; first | refine wq_iadd ?_ | refine wq_isub ?_ | refine wq_imul ?_ | refine wq_iinc rfl ?_ | refine wq_goto ?_ | refine wq_k rfl ?_ | refine wq_b rfl rfl ?_ | refine wq_getf (by assumption) rfl ?_ | refine wq_alen (by assumption) rfl ?_)
    refine wf rfl (wq_cv rfl rfl rfl ho ((o_ofRule (r := (r : Int)) (t := 0) ⟨by omega, by omega⟩ ⟨by omega, by omega⟩ h).mono ?_))
    rintro v M1 ⟨rfl, h1⟩
    rw [o0]
    by_cases hk : k < (xof S.1.1 r).length
    · refine wf rfl (wq_ge ⟨by omega, by omega⟩ ⟨by omega, by omega⟩ (fun c9 => by exfalso; omega) (fun _ => ?_))
      repeat (refine wf rfl ?_; first | refine wq_iadd ?_ | refine wq_isub ?_ | refine wq_imul ?_ | refine wq_iinc rfl ?_ | refine wq_goto ?_ | refine wq_k rfl ?_ | refine wq_b rfl rfl ?_ | refine wq_getf (by assumption) rfl ?_ | refine wq_alen (by assumption) rfl ?_)
      refine wf rfl (wq_ifeq ⟨by omega, by omega⟩ (fun c9 => by exfalso; omega) (fun _ => ?_))
      obtain ⟨fs1, ho1⟩ := h1.o
      repeat (refine wf rfl ?_; first | refine wq_iadd ?_ | refine wq_isub ?_ | refine wq_imul ?_ | refine wq_iinc rfl ?_ | refine wq_goto ?_ | refine wq_k rfl ?_ | refine wq_b rfl rfl ?_ | refine wq_getf (by assumption) rfl ?_ | refine wq_alen (by assumption) rfl ?_)
      refine wf rfl (wq_cv rfl rfl rfl ho1 ((o_symbol (r := (r : Int)) (t := k) ⟨by omega, by omega⟩ ⟨by omega, by omega⟩ h1).mono ?_))
      rintro v M2 ⟨rfl, h2⟩
      refine wf rfl (wq_cs rfl rfl ((c_there (M := M2) (s := spSymbol (r : Int) k S.1) ⟨by omega, by omega⟩).mono ?_))
      rintro v M2 ⟨rfl, rfl⟩
      obtain ⟨fs2, ho2⟩ := h2.p
      repeat (refine wf rfl ?_; first | refine wq_iadd ?_ | refine wq_isub ?_ | refine wq_imul ?_ | refine wq_iinc rfl ?_ | refine wq_goto ?_ | refine wq_k rfl ?_ | refine wq_b rfl rfl ?_ | refine wq_getf (by assumption) rfl ?_ | refine wq_alen (by assumption) rfl ?_)
      refine wf rfl (wq_cv rfl rfl rfl ho2 ((q_symbol (r := (r : Int)) (t := k) ⟨by omega, by omega⟩ ⟨by omega, by omega⟩ h2).mono ?_))
      rintro v M3 ⟨rfl, h3⟩
      refine wf rfl (wq_neS ?_)
      have hx := fun (_ : True) => ih (k + 1) M3 ⟨h3, by omega, by omega, by omega⟩
      repeat' (first | (refine Wp.sub (hx  ?_) ⟨rfl, rfl, rfl, rfl, rfl, trivial⟩ rfl) | (refine wf rfl ?_; first | refine wq_iadd ?_ | refine wq_isub ?_ | refine wq_imul ?_ | refine wq_iinc rfl ?_ | refine wq_goto ?_ | refine wq_k rfl ?_ | refine wq_b rfl rfl ?_ | refine wq_getf (by assumption) rfl ?_ | refine wq_alen (by assumption) rfl ?_ | fail | (refine wq_eq ⟨by omega, by omega⟩ ⟨by omega, by omega⟩ (fun _ => ?_) (fun _ => ?_) <;> try (exfalso; omega)) | (refine wq_ne ⟨by omega, by omega⟩ ⟨by omega, by omega⟩ (fun _ => ?_) (fun _ => ?_) <;> try (exfalso; omega)) | (refine wq_lt ⟨by omega, by omega⟩ ⟨by omega, by omega⟩ (fun _ => ?_) (fun _ => ?_) <;> try (exfalso; omega)) | (refine wq_ge ⟨by omega, by omega⟩ ⟨by omega, by omega⟩ (fun _ => ?_) (fun _ => ?_) <;> try (exfalso; omega)) | (refine wq_gt ⟨by omega, by omega⟩ ⟨by omega, by omega⟩ (fun _ => ?_) (fun _ => ?_) <;> try (exfalso; omega)) | (refine wq_le ⟨by omega, by omega⟩ ⟨by omega, by omega⟩ (fun _ => ?_) (fun _ => ?_) <;> try (exfalso; omega)) | (refine wq_ifeq ⟨by omega, by omega⟩ (fun _ => ?_) (fun _ => ?_) <;> try (exfalso; omega)) | (refine wq_ifne ⟨by omega, by omega⟩ (fun _ => ?_) (fun _ => ?_) <;> try (exfalso; omega)) | (refine wq_iflt ⟨by omega, by omega⟩ (fun _ => ?_) (fun _ => ?_) <;> try (exfalso; omega)) | (refine wq_ifge ⟨by omega, by omega⟩ (fun _ => ?_) (fun _ => ?_) <;> try (exfalso; omega)) | (refine wq_ifgt ⟨by omega, by omega⟩ (fun _ => ?_) (fun _ => ?_) <;> try (exfalso; omega)) | (refine wq_ifle ⟨by omega, by omega⟩ (fun _ => ?_) (fun _ => ?_) <;> try (exfalso; omega)) | refine wq_r rfl rfl rfl rfl rfl rfl ?_))
      trivial
    · have hx := fun (_ : True) => hq M1 h1
      refine wf rfl (wq_ge ⟨by omega, by omega⟩ ⟨by omega, by omega⟩ (fun _ => ?_) (fun c9 => by exfalso; omega))
      repeat' (first | (refine Wp.sub (hx  ?_) ⟨rfl, rfl, rfl, rfl, trivial⟩ rfl) | (refine wf rfl ?_; first | refine wq_iadd ?_ | refine wq_isub ?_ | refine wq_imul ?_ | refine wq_iinc rfl ?_ | refine wq_goto ?_ | refine wq_k rfl ?_ | refine wq_b rfl rfl ?_ | refine wq_getf (by assumption) rfl ?_ | refine wq_alen (by assumption) rfl ?_ | fail | (refine wq_eq ⟨by omega, by omega⟩ ⟨by omega, by omega⟩ (fun _ => ?_) (fun _ => ?_) <;> try (exfalso; omega)) | (refine wq_ne ⟨by omega, by omega⟩ ⟨by omega, by omega⟩ (fun _ => ?_) (fun _ => ?_) <;> try (exfalso; omega)) | (refine wq_lt ⟨by omega, by omega⟩ ⟨by omega, by omega⟩ (fun _ => ?_) (fun _ => ?_) <;> try (exfalso; omega)) | (refine wq_ge ⟨by omega, by omega⟩ ⟨by omega, by omega⟩ (fun _ => ?_) (fun _ => ?_) <;> try (exfalso; omega)) | (refine wq_gt ⟨by omega, by omega⟩ ⟨by omega, by omega⟩ (fun _ => ?_) (fun _ => ?_) <;> try (exfalso; omega)) | (refine wq_le ⟨by omega, by omega⟩ ⟨by omega, by omega⟩ (fun _ => ?_) (fun _ => ?_) <;> try (exfalso; omega)) | (refine wq_ifeq ⟨by omega, by omega⟩ (fun _ => ?_) (fun _ => ?_) <;> try (exfalso; omega)) | (refine wq_ifne ⟨by omega, by omega⟩ (fun _ => ?_) (fun _ => ?_) <;> try (exfalso; omega)) | (refine wq_iflt ⟨by omega, by omega⟩ (fun _ => ?_) (fun _ => ?_) <;> try (exfalso; omega)) | (refine wq_ifge ⟨by omega, by omega⟩ (fun _ => ?_) (fun _ => ?_) <;> try (exfalso; omega)) | (refine wq_ifgt ⟨by omega, by omega⟩ (fun _ => ?_) (fun _ => ?_) <;> try (exfalso; omega)) | (refine wq_ifle ⟨by omega, by omega⟩ (fun _ => ?_) (fun _ => ?_) <;> try (exfalso; omega)) | refine wq_r rfl rfl rfl rfl rfl rfl ?_))
      trivial
set_option maxRecDepth 20000 in
/-- what is told of a rule -/
theorem la_what {r : Nat} (hr : r < 26) {Q : Option Value → PM → Prop} (hq : ∀ M, TX M L z f S (fl_S S) → Wp k_L_areAlike (223, [(0, .ref 1), (1, .ref 613), (2, .int (I 1)), (3, .int (I (r : Int)))], [], M) Q) (n : Nat) : ∀ (k : Int) (M : PM), (TX M L z f S (fl_S S) ∧ 0 ≤ k ∧ k ≤ 4 ∧ 4 - k < n) →
    Wp k_L_areAlike (184, [(0, .ref 1), (1, .ref 613), (2, .int (I 1)), (3, .int (I (r : Int))), (4, .int (I k))], [], M) Q := by
  induction n with
  | zero =>
    rintro k M ⟨h, i0, i1, i2⟩
    exfalso
    omega
  | succ n ih =>
    rintro k M ⟨h, i0, i1, i2⟩
    by_cases hk : k < 4
    · obtain ⟨fs, ho⟩ := h.o
      repeat (refine wf rfl ?_; first | refine wq_iadd ?_ | refine wq_isub ?_ | refine wq_imul ?_ | refine wq_iinc rfl ?_ | refine wq_goto ?_ | refine wq_k rfl ?_ | refine wq_b rfl rfl ?_ | refine wq_getf (by assumption) rfl ?_ | refine wq_alen (by assumption) rfl ?_)
      refine wf rfl (wq_ge ⟨by omega, by omega⟩ ⟨by omega, by omega⟩ (fun c9 => by exfalso; omega) (fun _ => ?_))
      repeat (refine wf rfl ?_; first | refine wq_iadd ?_ | refine wq_isub ?_ | refine wq_imul ?_ | refine wq_iinc rfl ?_ | refine wq_goto ?_ | refine wq_k rfl ?_ | refine wq_b rfl rfl ?_ | refine wq_getf (by assumption) rfl ?_ | refine wq_alen (by assumption) rfl ?_)
      refine wf rfl (wq_ifeq ⟨by omega, by omega⟩ (fun c9 => by exfalso; omega) (fun _ => ?_))
      repeat (refine wf rfl ?_; first | refine wq_iadd ?_ | refine wq_isub ?_ | refine wq_imul ?_ | refine wq_iinc rfl ?_ | refine wq_goto ?_ | refine wq_k rfl ?_ | refine wq_b rfl rfl ?_ | refine wq_getf (by assumption) rfl ?_ | refine wq_alen (by assumption) rfl ?_)
      refine wf rfl (wq_cv rfl rfl rfl ho ((o_ofRule (r := (r : Int)) (t := k) ⟨by omega, by omega⟩ ⟨by omega, by omega⟩ h).mono ?_))
      rintro v M1 ⟨rfl, h1⟩
      obtain ⟨fs1, ho1⟩ := h1.p
      repeat (refine wf rfl ?_; first | refine wq_iadd ?_ | refine wq_isub ?_ | refine wq_imul ?_ | refine wq_iinc rfl ?_ | refine wq_goto ?_ | refine wq_k rfl ?_ | refine wq_b rfl rfl ?_ | refine wq_getf (by assumption) rfl ?_ | refine wq_alen (by assumption) rfl ?_)
      refine wf rfl (wq_cv rfl rfl rfl ho1 ((q_ofRule (r := (r : Int)) (t := k) ⟨by omega, by omega⟩ ⟨by omega, by omega⟩ h1).mono ?_))
      rintro v M2 ⟨rfl, h2⟩
      refine wf rfl (wq_neS ?_)
      have hx := fun (_ : True) => ih (k + 1) M2 ⟨h2, by omega, by omega, by omega⟩
      repeat' (first | (refine Wp.sub (hx  ?_) ⟨rfl, rfl, rfl, rfl, rfl, trivial⟩ rfl) | (refine wf rfl ?_; first | refine wq_iadd ?_ | refine wq_isub ?_ | refine wq_imul ?_ | refine wq_iinc rfl ?_ | refine wq_goto ?_ | refine wq_k rfl ?_ | refine wq_b rfl rfl ?_ | refine wq_getf (by assumption) rfl ?_ | refine wq_alen (by assumption) rfl ?_ | fail | (refine wq_eq ⟨by omega, by omega⟩ ⟨by omega, by omega⟩ (fun _ => ?_) (fun _ => ?_) <;> try (exfalso; omega)) | (refine wq_ne ⟨by omega, by omega⟩ ⟨by omega, by omega⟩ (fun _ => ?_) (fun _ => ?_) <;> try (exfalso; omega)) | (refine wq_lt ⟨by omega, by omega⟩ ⟨by omega, by omega⟩ (fun _ => ?_) (fun _ => ?_) <;> try (exfalso; omega)) | (refine wq_ge ⟨by omega, by omega⟩ ⟨by omega, by omega⟩ (fun _ => ?_) (fun _ => ?_) <;> try (exfalso; omega)) | (refine wq_gt ⟨by omega, by omega⟩ ⟨by omega, by omega⟩ (fun _ => ?_) (fun _ => ?_) <;> try (exfalso; omega)) | (refine wq_le ⟨by omega, by omega⟩ ⟨by omega, by omega⟩ (fun _ => ?_) (fun _ => ?_) <;> try (exfalso; omega)) | (refine wq_ifeq ⟨by omega, by omega⟩ (fun _ => ?_) (fun _ => ?_) <;> try (exfalso; omega)) | (refine wq_ifne ⟨by omega, by omega⟩ (fun _ => ?_) (fun _ => ?_) <;> try (exfalso; omega)) | (refine wq_iflt ⟨by omega, by omega⟩ (fun _ => ?_) (fun _ => ?_) <;> try (exfalso; omega)) | (refine wq_ifge ⟨by omega, by omega⟩ (fun _ => ?_) (fun _ => ?_) <;> try (exfalso; omega)) | (refine wq_ifgt ⟨by omega, by omega⟩ (fun _ => ?_) (fun _ => ?_) <;> try (exfalso; omega)) | (refine wq_ifle ⟨by omega, by omega⟩ (fun _ => ?_) (fun _ => ?_) <;> try (exfalso; omega)) | refine wq_r rfl rfl rfl rfl rfl rfl ?_))
      trivial
    · have hx := fun (_ : True) => hq M h
      repeat (refine wf rfl ?_; first | refine wq_iadd ?_ | refine wq_isub ?_ | refine wq_imul ?_ | refine wq_iinc rfl ?_ | refine wq_goto ?_ | refine wq_k rfl ?_ | refine wq_b rfl rfl ?_ | refine wq_getf (by assumption) rfl ?_ | refine wq_alen (by assumption) rfl ?_)
      refine wf rfl (wq_ge ⟨by omega, by omega⟩ ⟨by omega, by omega⟩ (fun _ => ?_) (fun c9 => by exfalso; omega))
      repeat' (first | (refine Wp.sub (hx  ?_) ⟨rfl, rfl, rfl, rfl, trivial⟩ rfl) | (refine wf rfl ?_; first | refine wq_iadd ?_ | refine wq_isub ?_ | refine wq_imul ?_ | refine wq_iinc rfl ?_ | refine wq_goto ?_ | refine wq_k rfl ?_ | refine wq_b rfl rfl ?_ | refine wq_getf (by assumption) rfl ?_ | refine wq_alen (by assumption) rfl ?_ | fail | (refine wq_eq ⟨by omega, by omega⟩ ⟨by omega, by omega⟩ (fun _ => ?_) (fun _ => ?_) <;> try (exfalso; omega)) | (refine wq_ne ⟨by omega, by omega⟩ ⟨by omega, by omega⟩ (fun _ => ?_) (fun _ => ?_) <;> try (exfalso; omega)) | (refine wq_lt ⟨by omega, by omega⟩ ⟨by omega, by omega⟩ (fun _ => ?_) (fun _ => ?_) <;> try (exfalso; omega)) | (refine wq_ge ⟨by omega, by omega⟩ ⟨by omega, by omega⟩ (fun _ => ?_) (fun _ => ?_) <;> try (exfalso; omega)) | (refine wq_gt ⟨by omega, by omega⟩ ⟨by omega, by omega⟩ (fun _ => ?_) (fun _ => ?_) <;> try (exfalso; omega)) | (refine wq_le ⟨by omega, by omega⟩ ⟨by omega, by omega⟩ (fun _ => ?_) (fun _ => ?_) <;> try (exfalso; omega)) | (refine wq_ifeq ⟨by omega, by omega⟩ (fun _ => ?_) (fun _ => ?_) <;> try (exfalso; omega)) | (refine wq_ifne ⟨by omega, by omega⟩ (fun _ => ?_) (fun _ => ?_) <;> try (exfalso; omega)) | (refine wq_iflt ⟨by omega, by omega⟩ (fun _ => ?_) (fun _ => ?_) <;> try (exfalso; omega)) | (refine wq_ifge ⟨by omega, by omega⟩ (fun _ => ?_) (fun _ => ?_) <;> try (exfalso; omega)) | (refine wq_ifgt ⟨by omega, by omega⟩ (fun _ => ?_) (fun _ => ?_) <;> try (exfalso; omega)) | (refine wq_ifle ⟨by omega, by omega⟩ (fun _ => ?_) (fun _ => ?_) <;> try (exfalso; omega)) | refine wq_r rfl rfl rfl rfl rfl rfl ?_))
      trivial
set_option maxRecDepth 20000 in
/-- the rules -/
theorem la_rules (hK : OKS S) (n : Nat) : ∀ (r : Nat) (M : PM), (TX M L z f S (fl_S S) ∧ r ≤ S.1.1.length ∧ S.1.1.length - r < n) →
    Wp k_L_areAlike (168, [(0, .ref 1), (1, .ref 613), (2, .int (I 1)), (3, .int (I (r : Int)))], [], M) (AQ L z f S) := by
  induction n with
  | zero =>
    rintro r M ⟨h, i1, i2⟩
    exfalso
    omega
  | succ n ih =>
    rintro r M ⟨h, i1, i2⟩
    have hN := h.2.1.n26
    have h80 := h.2.1.r80
    obtain ⟨fs, ho⟩ := h.o
    repeat (refine wf rfl ?_; first | refine wq_iadd ?_ | refine wq_isub ?_ | refine wq_imul ?_ | refine wq_iinc rfl ?_ | refine wq_goto ?_ | refine wq_k rfl ?_ | refine wq_b rfl rfl ?_ | refine wq_getf (by assumption) rfl ?_ | refine wq_alen (by assumption) rfl ?_)
    refine wf rfl (wq_cv rfl rfl rfl ho ((o_count (t := 2) ⟨by omega, by omega⟩ h).mono ?_))
    rintro v M1 ⟨rfl, h1⟩
    rw [cnt_2]
    by_cases hr : r < S.1.1.length
    · have h80r := h80.2 r hr
      refine wf rfl (wq_ge ⟨by omega, by omega⟩ ⟨by omega, by omega⟩ (fun c9 => by exfalso; omega) (fun _ => ?_))
      repeat (refine wf rfl ?_; first | refine wq_iadd ?_ | refine wq_isub ?_ | refine wq_imul ?_ | refine wq_iinc rfl ?_ | refine wq_goto ?_ | refine wq_k rfl ?_ | refine wq_b rfl rfl ?_ | refine wq_getf (by assumption) rfl ?_ | refine wq_alen (by assumption) rfl ?_)
      refine wf rfl (wq_ifeq ⟨by omega, by omega⟩ (fun c9 => by exfalso; omega) (fun _ => ?_))
      have hx := fun (_ : True) => la_what (Q := AQ L z f S) (r := r) (by omega) (fun M2 h2 => by
        have hy := fun (_ : True) => la_sym hK hr (Q := AQ L z f S) (fun M3 h3 => by
          have hw := fun (_ : True) => ih (r + 1) M3 ⟨h3, by omega, by omega⟩
          rw [show (((r + 1 : Nat)) : Int) = (r : Int) + 1 by omega] at hw
          repeat' (first | (refine Wp.sub (hw  ?_) ⟨rfl, rfl, rfl, rfl, trivial⟩ rfl) | (refine wf rfl ?_; first | refine wq_iadd ?_ | refine wq_isub ?_ | refine wq_imul ?_ | refine wq_iinc rfl ?_ | refine wq_goto ?_ | refine wq_k rfl ?_ | refine wq_b rfl rfl ?_ | refine wq_getf (by assumption) rfl ?_ | refine wq_alen (by assumption) rfl ?_ | fail | (refine wq_eq ⟨by omega, by omega⟩ ⟨by omega, by omega⟩ (fun _ => ?_) (fun _ => ?_) <;> try (exfalso; omega)) | (refine wq_ne ⟨by omega, by omega⟩ ⟨by omega, by omega⟩ (fun _ => ?_) (fun _ => ?_) <;> try (exfalso; omega)) | (refine wq_lt ⟨by omega, by omega⟩ ⟨by omega, by omega⟩ (fun _ => ?_) (fun _ => ?_) <;> try (exfalso; omega)) | (refine wq_ge ⟨by omega, by omega⟩ ⟨by omega, by omega⟩ (fun _ => ?_) (fun _ => ?_) <;> try (exfalso; omega)) | (refine wq_gt ⟨by omega, by omega⟩ ⟨by omega, by omega⟩ (fun _ => ?_) (fun _ => ?_) <;> try (exfalso; omega)) | (refine wq_le ⟨by omega, by omega⟩ ⟨by omega, by omega⟩ (fun _ => ?_) (fun _ => ?_) <;> try (exfalso; omega)) | (refine wq_ifeq ⟨by omega, by omega⟩ (fun _ => ?_) (fun _ => ?_) <;> try (exfalso; omega)) | (refine wq_ifne ⟨by omega, by omega⟩ (fun _ => ?_) (fun _ => ?_) <;> try (exfalso; omega)) | (refine wq_iflt ⟨by omega, by omega⟩ (fun _ => ?_) (fun _ => ?_) <;> try (exfalso; omega)) | (refine wq_ifge ⟨by omega, by omega⟩ (fun _ => ?_) (fun _ => ?_) <;> try (exfalso; omega)) | (refine wq_ifgt ⟨by omega, by omega⟩ (fun _ => ?_) (fun _ => ?_) <;> try (exfalso; omega)) | (refine wq_ifle ⟨by omega, by omega⟩ (fun _ => ?_) (fun _ => ?_) <;> try (exfalso; omega)) | refine wq_r rfl rfl rfl rfl rfl rfl ?_))
          trivial) 100 0 M2 ⟨h2, by omega, by omega, by omega⟩
        repeat' (first | (refine Wp.sub (hy  ?_) ⟨rfl, rfl, rfl, rfl, rfl, trivial⟩ rfl) | (refine wf rfl ?_; first | refine wq_iadd ?_ | refine wq_isub ?_ | refine wq_imul ?_ | refine wq_iinc rfl ?_ | refine wq_goto ?_ | refine wq_k rfl ?_ | refine wq_b rfl rfl ?_ | refine wq_getf (by assumption) rfl ?_ | refine wq_alen (by assumption) rfl ?_ | fail | (refine wq_eq ⟨by omega, by omega⟩ ⟨by omega, by omega⟩ (fun _ => ?_) (fun _ => ?_) <;> try (exfalso; omega)) | (refine wq_ne ⟨by omega, by omega⟩ ⟨by omega, by omega⟩ (fun _ => ?_) (fun _ => ?_) <;> try (exfalso; omega)) | (refine wq_lt ⟨by omega, by omega⟩ ⟨by omega, by omega⟩ (fun _ => ?_) (fun _ => ?_) <;> try (exfalso; omega)) | (refine wq_ge ⟨by omega, by omega⟩ ⟨by omega, by omega⟩ (fun _ => ?_) (fun _ => ?_) <;> try (exfalso; omega)) | (refine wq_gt ⟨by omega, by omega⟩ ⟨by omega, by omega⟩ (fun _ => ?_) (fun _ => ?_) <;> try (exfalso; omega)) | (refine wq_le ⟨by omega, by omega⟩ ⟨by omega, by omega⟩ (fun _ => ?_) (fun _ => ?_) <;> try (exfalso; omega)) | (refine wq_ifeq ⟨by omega, by omega⟩ (fun _ => ?_) (fun _ => ?_) <;> try (exfalso; omega)) | (refine wq_ifne ⟨by omega, by omega⟩ (fun _ => ?_) (fun _ => ?_) <;> try (exfalso; omega)) | (refine wq_iflt ⟨by omega, by omega⟩ (fun _ => ?_) (fun _ => ?_) <;> try (exfalso; omega)) | (refine wq_ifge ⟨by omega, by omega⟩ (fun _ => ?_) (fun _ => ?_) <;> try (exfalso; omega)) | (refine wq_ifgt ⟨by omega, by omega⟩ (fun _ => ?_) (fun _ => ?_) <;> try (exfalso; omega)) | (refine wq_ifle ⟨by omega, by omega⟩ (fun _ => ?_) (fun _ => ?_) <;> try (exfalso; omega)) | refine wq_r rfl rfl rfl rfl rfl rfl ?_))
        trivial) 10 0 M1 ⟨h1, by omega, by omega, by omega⟩
      repeat' (first | (refine Wp.sub (hx  ?_) ⟨rfl, rfl, rfl, rfl, rfl, trivial⟩ rfl) | (refine wf rfl ?_; first | refine wq_iadd ?_ | refine wq_isub ?_ | refine wq_imul ?_ | refine wq_iinc rfl ?_ | refine wq_goto ?_ | refine wq_k rfl ?_ | refine wq_b rfl rfl ?_ | refine wq_getf (by assumption) rfl ?_ | refine wq_alen (by assumption) rfl ?_ | fail | (refine wq_eq ⟨by omega, by omega⟩ ⟨by omega, by omega⟩ (fun _ => ?_) (fun _ => ?_) <;> try (exfalso; omega)) | (refine wq_ne ⟨by omega, by omega⟩ ⟨by omega, by omega⟩ (fun _ => ?_) (fun _ => ?_) <;> try (exfalso; omega)) | (refine wq_lt ⟨by omega, by omega⟩ ⟨by omega, by omega⟩ (fun _ => ?_) (fun _ => ?_) <;> try (exfalso; omega)) | (refine wq_ge ⟨by omega, by omega⟩ ⟨by omega, by omega⟩ (fun _ => ?_) (fun _ => ?_) <;> try (exfalso; omega)) | (refine wq_gt ⟨by omega, by omega⟩ ⟨by omega, by omega⟩ (fun _ => ?_) (fun _ => ?_) <;> try (exfalso; omega)) | (refine wq_le ⟨by omega, by omega⟩ ⟨by omega, by omega⟩ (fun _ => ?_) (fun _ => ?_) <;> try (exfalso; omega)) | (refine wq_ifeq ⟨by omega, by omega⟩ (fun _ => ?_) (fun _ => ?_) <;> try (exfalso; omega)) | (refine wq_ifne ⟨by omega, by omega⟩ (fun _ => ?_) (fun _ => ?_) <;> try (exfalso; omega)) | (refine wq_iflt ⟨by omega, by omega⟩ (fun _ => ?_) (fun _ => ?_) <;> try (exfalso; omega)) | (refine wq_ifge ⟨by omega, by omega⟩ (fun _ => ?_) (fun _ => ?_) <;> try (exfalso; omega)) | (refine wq_ifgt ⟨by omega, by omega⟩ (fun _ => ?_) (fun _ => ?_) <;> try (exfalso; omega)) | (refine wq_ifle ⟨by omega, by omega⟩ (fun _ => ?_) (fun _ => ?_) <;> try (exfalso; omega)) | refine wq_r rfl rfl rfl rfl rfl rfl ?_))
      trivial
    · have hx := fun (_ : True) => la_main hK 100 0 M1 ⟨h1, by omega, by omega, by omega⟩
      refine wf rfl (wq_ge ⟨by omega, by omega⟩ ⟨by omega, by omega⟩ (fun _ => ?_) (fun c9 => by exfalso; omega))
      repeat' (first | (refine Wp.sub (hx  ?_) ⟨rfl, rfl, rfl, rfl, trivial⟩ rfl) | (refine wf rfl ?_; first | refine wq_iadd ?_ | refine wq_isub ?_ | refine wq_imul ?_ | refine wq_iinc rfl ?_ | refine wq_goto ?_ | refine wq_k rfl ?_ | refine wq_b rfl rfl ?_ | refine wq_getf (by assumption) rfl ?_ | refine wq_alen (by assumption) rfl ?_ | fail | (refine wq_eq ⟨by omega, by omega⟩ ⟨by omega, by omega⟩ (fun _ => ?_) (fun _ => ?_) <;> try (exfalso; omega)) | (refine wq_ne ⟨by omega, by omega⟩ ⟨by omega, by omega⟩ (fun _ => ?_) (fun _ => ?_) <;> try (exfalso; omega)) | (refine wq_lt ⟨by omega, by omega⟩ ⟨by omega, by omega⟩ (fun _ => ?_) (fun _ => ?_) <;> try (exfalso; omega)) | (refine wq_ge ⟨by omega, by omega⟩ ⟨by omega, by omega⟩ (fun _ => ?_) (fun _ => ?_) <;> try (exfalso; omega)) | (refine wq_gt ⟨by omega, by omega⟩ ⟨by omega, by omega⟩ (fun _ => ?_) (fun _ => ?_) <;> try (exfalso; omega)) | (refine wq_le ⟨by omega, by omega⟩ ⟨by omega, by omega⟩ (fun _ => ?_) (fun _ => ?_) <;> try (exfalso; omega)) | (refine wq_ifeq ⟨by omega, by omega⟩ (fun _ => ?_) (fun _ => ?_) <;> try (exfalso; omega)) | (refine wq_ifne ⟨by omega, by omega⟩ (fun _ => ?_) (fun _ => ?_) <;> try (exfalso; omega)) | (refine wq_iflt ⟨by omega, by omega⟩ (fun _ => ?_) (fun _ => ?_) <;> try (exfalso; omega)) | (refine wq_ifge ⟨by omega, by omega⟩ (fun _ => ?_) (fun _ => ?_) <;> try (exfalso; omega)) | (refine wq_ifgt ⟨by omega, by omega⟩ (fun _ => ?_) (fun _ => ?_) <;> try (exfalso; omega)) | (refine wq_ifle ⟨by omega, by omega⟩ (fun _ => ?_) (fun _ => ?_) <;> try (exfalso; omega)) | refine wq_r rfl rfl rfl rfl rfl rfl ?_))
      trivial
set_option maxRecDepth 20000 in
/-- the best pair -/
theorem la_best (hK : OKS S) (n : Nat) : ∀ (k : Int) (M : PM), (TX M L z f S (fl_S S) ∧ 0 ≤ k ∧ k ≤ 3 ∧ 3 - k < n) →
    Wp k_L_areAlike (108, [(0, .ref 1), (1, .ref 613), (2, .int (I 1)), (3, .int (I k))], [], M) (AQ L z f S) := by
  induction n with
  | zero =>
    rintro k M ⟨h, i0, i1, i2⟩
    exfalso
    omega
  | succ n ih =>
    rintro k M ⟨h, i0, i1, i2⟩
    have hN := h.2.1.n26
    by_cases hk : k < 3
    · obtain ⟨fs, ho⟩ := h.o
      by_cases h2 : k = 2
      · subst h2
        repeat' (refine wf rfl ?_; first | refine wq_iadd ?_ | refine wq_isub ?_ | refine wq_imul ?_ | refine wq_iinc rfl ?_ | refine wq_goto ?_ | refine wq_k rfl ?_ | refine wq_b rfl rfl ?_ | refine wq_getf (by assumption) rfl ?_ | refine wq_alen (by assumption) rfl ?_ | (refine wq_eq ⟨by omega, by omega⟩ ⟨by omega, by omega⟩ (fun _ => ?_) (fun _ => ?_) <;> try (exfalso; omega)) | (refine wq_ne ⟨by omega, by omega⟩ ⟨by omega, by omega⟩ (fun _ => ?_) (fun _ => ?_) <;> try (exfalso; omega)) | (refine wq_lt ⟨by omega, by omega⟩ ⟨by omega, by omega⟩ (fun _ => ?_) (fun _ => ?_) <;> try (exfalso; omega)) | (refine wq_ge ⟨by omega, by omega⟩ ⟨by omega, by omega⟩ (fun _ => ?_) (fun _ => ?_) <;> try (exfalso; omega)) | (refine wq_gt ⟨by omega, by omega⟩ ⟨by omega, by omega⟩ (fun _ => ?_) (fun _ => ?_) <;> try (exfalso; omega)) | (refine wq_le ⟨by omega, by omega⟩ ⟨by omega, by omega⟩ (fun _ => ?_) (fun _ => ?_) <;> try (exfalso; omega)) | (refine wq_ifeq ⟨by omega, by omega⟩ (fun _ => ?_) (fun _ => ?_) <;> try (exfalso; omega)) | (refine wq_ifne ⟨by omega, by omega⟩ (fun _ => ?_) (fun _ => ?_) <;> try (exfalso; omega)) | (refine wq_iflt ⟨by omega, by omega⟩ (fun _ => ?_) (fun _ => ?_) <;> try (exfalso; omega)) | (refine wq_ifge ⟨by omega, by omega⟩ (fun _ => ?_) (fun _ => ?_) <;> try (exfalso; omega)) | (refine wq_ifgt ⟨by omega, by omega⟩ (fun _ => ?_) (fun _ => ?_) <;> try (exfalso; omega)) | (refine wq_ifle ⟨by omega, by omega⟩ (fun _ => ?_) (fun _ => ?_) <;> try (exfalso; omega)) | refine wq_r rfl rfl rfl rfl rfl rfl ?_)
        refine wf rfl (wq_cv rfl rfl rfl ho ((o_best (t := 2) ⟨by omega, by omega⟩ h).mono ?_))
        rintro v M1 ⟨rfl, h1⟩
        obtain ⟨fs1, ho1⟩ := h1.p
        repeat (refine wf rfl ?_; first | refine wq_iadd ?_ | refine wq_isub ?_ | refine wq_imul ?_ | refine wq_iinc rfl ?_ | refine wq_goto ?_ | refine wq_k rfl ?_ | refine wq_b rfl rfl ?_ | refine wq_getf (by assumption) rfl ?_ | refine wq_alen (by assumption) rfl ?_)
        refine wf rfl (wq_cv rfl rfl rfl ho1 ((q_best2 h1).mono ?_))
        rintro v M2 ⟨rfl, h2⟩
        refine wf rfl (wq_neS ?_)
        have hx := fun (_ : True) => ih (2 + 1) M2 ⟨h2, by omega, by omega, by omega⟩
        repeat' (first | (refine Wp.sub (hx  ?_) ⟨rfl, rfl, rfl, rfl, trivial⟩ rfl) | (refine wf rfl ?_; first | refine wq_iadd ?_ | refine wq_isub ?_ | refine wq_imul ?_ | refine wq_iinc rfl ?_ | refine wq_goto ?_ | refine wq_k rfl ?_ | refine wq_b rfl rfl ?_ | refine wq_getf (by assumption) rfl ?_ | refine wq_alen (by assumption) rfl ?_ | fail | (refine wq_eq ⟨by omega, by omega⟩ ⟨by omega, by omega⟩ (fun _ => ?_) (fun _ => ?_) <;> try (exfalso; omega)) | (refine wq_ne ⟨by omega, by omega⟩ ⟨by omega, by omega⟩ (fun _ => ?_) (fun _ => ?_) <;> try (exfalso; omega)) | (refine wq_lt ⟨by omega, by omega⟩ ⟨by omega, by omega⟩ (fun _ => ?_) (fun _ => ?_) <;> try (exfalso; omega)) | (refine wq_ge ⟨by omega, by omega⟩ ⟨by omega, by omega⟩ (fun _ => ?_) (fun _ => ?_) <;> try (exfalso; omega)) | (refine wq_gt ⟨by omega, by omega⟩ ⟨by omega, by omega⟩ (fun _ => ?_) (fun _ => ?_) <;> try (exfalso; omega)) | (refine wq_le ⟨by omega, by omega⟩ ⟨by omega, by omega⟩ (fun _ => ?_) (fun _ => ?_) <;> try (exfalso; omega)) | (refine wq_ifeq ⟨by omega, by omega⟩ (fun _ => ?_) (fun _ => ?_) <;> try (exfalso; omega)) | (refine wq_ifne ⟨by omega, by omega⟩ (fun _ => ?_) (fun _ => ?_) <;> try (exfalso; omega)) | (refine wq_iflt ⟨by omega, by omega⟩ (fun _ => ?_) (fun _ => ?_) <;> try (exfalso; omega)) | (refine wq_ifge ⟨by omega, by omega⟩ (fun _ => ?_) (fun _ => ?_) <;> try (exfalso; omega)) | (refine wq_ifgt ⟨by omega, by omega⟩ (fun _ => ?_) (fun _ => ?_) <;> try (exfalso; omega)) | (refine wq_ifle ⟨by omega, by omega⟩ (fun _ => ?_) (fun _ => ?_) <;> try (exfalso; omega)) | refine wq_r rfl rfl rfl rfl rfl rfl ?_))
        trivial
      · have hbb := best01_bd hK.1.1 hN (t := k) (by omega)
        repeat' (refine wf rfl ?_; first | refine wq_iadd ?_ | refine wq_isub ?_ | refine wq_imul ?_ | refine wq_iinc rfl ?_ | refine wq_goto ?_ | refine wq_k rfl ?_ | refine wq_b rfl rfl ?_ | refine wq_getf (by assumption) rfl ?_ | refine wq_alen (by assumption) rfl ?_ | (refine wq_eq ⟨by omega, by omega⟩ ⟨by omega, by omega⟩ (fun _ => ?_) (fun _ => ?_) <;> try (exfalso; omega)) | (refine wq_ne ⟨by omega, by omega⟩ ⟨by omega, by omega⟩ (fun _ => ?_) (fun _ => ?_) <;> try (exfalso; omega)) | (refine wq_lt ⟨by omega, by omega⟩ ⟨by omega, by omega⟩ (fun _ => ?_) (fun _ => ?_) <;> try (exfalso; omega)) | (refine wq_ge ⟨by omega, by omega⟩ ⟨by omega, by omega⟩ (fun _ => ?_) (fun _ => ?_) <;> try (exfalso; omega)) | (refine wq_gt ⟨by omega, by omega⟩ ⟨by omega, by omega⟩ (fun _ => ?_) (fun _ => ?_) <;> try (exfalso; omega)) | (refine wq_le ⟨by omega, by omega⟩ ⟨by omega, by omega⟩ (fun _ => ?_) (fun _ => ?_) <;> try (exfalso; omega)) | (refine wq_ifeq ⟨by omega, by omega⟩ (fun _ => ?_) (fun _ => ?_) <;> try (exfalso; omega)) | (refine wq_ifne ⟨by omega, by omega⟩ (fun _ => ?_) (fun _ => ?_) <;> try (exfalso; omega)) | (refine wq_iflt ⟨by omega, by omega⟩ (fun _ => ?_) (fun _ => ?_) <;> try (exfalso; omega)) | (refine wq_ifge ⟨by omega, by omega⟩ (fun _ => ?_) (fun _ => ?_) <;> try (exfalso; omega)) | (refine wq_ifgt ⟨by omega, by omega⟩ (fun _ => ?_) (fun _ => ?_) <;> try (exfalso; omega)) | (refine wq_ifle ⟨by omega, by omega⟩ (fun _ => ?_) (fun _ => ?_) <;> try (exfalso; omega)) | refine wq_r rfl rfl rfl rfl rfl rfl ?_)
        refine wf rfl (wq_cv rfl rfl rfl ho ((o_best (t := k) ⟨by omega, by omega⟩ h).mono ?_))
        rintro v M1 ⟨rfl, h1⟩
        refine wf rfl (wq_cs rfl rfl ((c_there (M := M1) (s := spBest k S.1) ⟨by omega, by omega⟩).mono ?_))
        rintro v M1 ⟨rfl, rfl⟩
        obtain ⟨fs1, ho1⟩ := h1.p
        repeat (refine wf rfl ?_; first | refine wq_iadd ?_ | refine wq_isub ?_ | refine wq_imul ?_ | refine wq_iinc rfl ?_ | refine wq_goto ?_ | refine wq_k rfl ?_ | refine wq_b rfl rfl ?_ | refine wq_getf (by assumption) rfl ?_ | refine wq_alen (by assumption) rfl ?_)
        refine wf rfl (wq_cv rfl rfl rfl ho1 ((q_best (t := k) (by omega) h1).mono ?_))
        rintro v M2 ⟨rfl, h2⟩
        refine wf rfl (wq_neS ?_)
        have hx := fun (_ : True) => ih (k + 1) M2 ⟨h2, by omega, by omega, by omega⟩
        repeat' (first | (refine Wp.sub (hx  ?_) ⟨rfl, rfl, rfl, rfl, trivial⟩ rfl) | (refine wf rfl ?_; first | refine wq_iadd ?_ | refine wq_isub ?_ | refine wq_imul ?_ | refine wq_iinc rfl ?_ | refine wq_goto ?_ | refine wq_k rfl ?_ | refine wq_b rfl rfl ?_ | refine wq_getf (by assumption) rfl ?_ | refine wq_alen (by assumption) rfl ?_ | fail | (refine wq_eq ⟨by omega, by omega⟩ ⟨by omega, by omega⟩ (fun _ => ?_) (fun _ => ?_) <;> try (exfalso; omega)) | (refine wq_ne ⟨by omega, by omega⟩ ⟨by omega, by omega⟩ (fun _ => ?_) (fun _ => ?_) <;> try (exfalso; omega)) | (refine wq_lt ⟨by omega, by omega⟩ ⟨by omega, by omega⟩ (fun _ => ?_) (fun _ => ?_) <;> try (exfalso; omega)) | (refine wq_ge ⟨by omega, by omega⟩ ⟨by omega, by omega⟩ (fun _ => ?_) (fun _ => ?_) <;> try (exfalso; omega)) | (refine wq_gt ⟨by omega, by omega⟩ ⟨by omega, by omega⟩ (fun _ => ?_) (fun _ => ?_) <;> try (exfalso; omega)) | (refine wq_le ⟨by omega, by omega⟩ ⟨by omega, by omega⟩ (fun _ => ?_) (fun _ => ?_) <;> try (exfalso; omega)) | (refine wq_ifeq ⟨by omega, by omega⟩ (fun _ => ?_) (fun _ => ?_) <;> try (exfalso; omega)) | (refine wq_ifne ⟨by omega, by omega⟩ (fun _ => ?_) (fun _ => ?_) <;> try (exfalso; omega)) | (refine wq_iflt ⟨by omega, by omega⟩ (fun _ => ?_) (fun _ => ?_) <;> try (exfalso; omega)) | (refine wq_ifge ⟨by omega, by omega⟩ (fun _ => ?_) (fun _ => ?_) <;> try (exfalso; omega)) | (refine wq_ifgt ⟨by omega, by omega⟩ (fun _ => ?_) (fun _ => ?_) <;> try (exfalso; omega)) | (refine wq_ifle ⟨by omega, by omega⟩ (fun _ => ?_) (fun _ => ?_) <;> try (exfalso; omega)) | refine wq_r rfl rfl rfl rfl rfl rfl ?_))
        trivial
    · have hx := fun (_ : True) => la_rules hK 100 0 M ⟨h, by omega, by omega⟩
      repeat (refine wf rfl ?_; first | refine wq_iadd ?_ | refine wq_isub ?_ | refine wq_imul ?_ | refine wq_iinc rfl ?_ | refine wq_goto ?_ | refine wq_k rfl ?_ | refine wq_b rfl rfl ?_ | refine wq_getf (by assumption) rfl ?_ | refine wq_alen (by assumption) rfl ?_)
      refine wf rfl (wq_ge ⟨by omega, by omega⟩ ⟨by omega, by omega⟩ (fun _ => ?_) (fun c9 => by exfalso; omega))
      repeat' (first | (refine Wp.sub (hx  ?_) ⟨rfl, rfl, rfl, rfl, trivial⟩ rfl) | (refine wf rfl ?_; first | refine wq_iadd ?_ | refine wq_isub ?_ | refine wq_imul ?_ | refine wq_iinc rfl ?_ | refine wq_goto ?_ | refine wq_k rfl ?_ | refine wq_b rfl rfl ?_ | refine wq_getf (by assumption) rfl ?_ | refine wq_alen (by assumption) rfl ?_ | fail | (refine wq_eq ⟨by omega, by omega⟩ ⟨by omega, by omega⟩ (fun _ => ?_) (fun _ => ?_) <;> try (exfalso; omega)) | (refine wq_ne ⟨by omega, by omega⟩ ⟨by omega, by omega⟩ (fun _ => ?_) (fun _ => ?_) <;> try (exfalso; omega)) | (refine wq_lt ⟨by omega, by omega⟩ ⟨by omega, by omega⟩ (fun _ => ?_) (fun _ => ?_) <;> try (exfalso; omega)) | (refine wq_ge ⟨by omega, by omega⟩ ⟨by omega, by omega⟩ (fun _ => ?_) (fun _ => ?_) <;> try (exfalso; omega)) | (refine wq_gt ⟨by omega, by omega⟩ ⟨by omega, by omega⟩ (fun _ => ?_) (fun _ => ?_) <;> try (exfalso; omega)) | (refine wq_le ⟨by omega, by omega⟩ ⟨by omega, by omega⟩ (fun _ => ?_) (fun _ => ?_) <;> try (exfalso; omega)) | (refine wq_ifeq ⟨by omega, by omega⟩ (fun _ => ?_) (fun _ => ?_) <;> try (exfalso; omega)) | (refine wq_ifne ⟨by omega, by omega⟩ (fun _ => ?_) (fun _ => ?_) <;> try (exfalso; omega)) | (refine wq_iflt ⟨by omega, by omega⟩ (fun _ => ?_) (fun _ => ?_) <;> try (exfalso; omega)) | (refine wq_ifge ⟨by omega, by omega⟩ (fun _ => ?_) (fun _ => ?_) <;> try (exfalso; omega)) | (refine wq_ifgt ⟨by omega, by omega⟩ (fun _ => ?_) (fun _ => ?_) <;> try (exfalso; omega)) | (refine wq_ifle ⟨by omega, by omega⟩ (fun _ => ?_) (fun _ => ?_) <;> try (exfalso; omega)) | refine wq_r rfl rfl rfl rfl rfl rfl ?_))
      trivial
set_option maxRecDepth 20000 in
/-- the letters' shares -/
theorem la_share (hK : OKS S) (n : Nat) : ∀ (k : Int) (M : PM), (TX M L z f S (fl_S S) ∧ 0 ≤ k ∧ k ≤ 8 ∧ 8 - k < n) →
    Wp k_L_areAlike (68, [(0, .ref 1), (1, .ref 613), (2, .int (I 1)), (3, .int (I k))], [], M) (AQ L z f S) := by
  induction n with
  | zero =>
    rintro k M ⟨h, i0, i1, i2⟩
    exfalso
    omega
  | succ n ih =>
    rintro k M ⟨h, i0, i1, i2⟩
    by_cases hk : k < 8
    · obtain ⟨fs, ho⟩ := h.o
      repeat (refine wf rfl ?_; first | refine wq_iadd ?_ | refine wq_isub ?_ | refine wq_imul ?_ | refine wq_iinc rfl ?_ | refine wq_goto ?_ | refine wq_k rfl ?_ | refine wq_b rfl rfl ?_ | refine wq_getf (by assumption) rfl ?_ | refine wq_alen (by assumption) rfl ?_)
      refine wf rfl (wq_ge ⟨by omega, by omega⟩ ⟨by omega, by omega⟩ (fun c9 => by exfalso; omega) (fun _ => ?_))
      repeat (refine wf rfl ?_; first | refine wq_iadd ?_ | refine wq_isub ?_ | refine wq_imul ?_ | refine wq_iinc rfl ?_ | refine wq_goto ?_ | refine wq_k rfl ?_ | refine wq_b rfl rfl ?_ | refine wq_getf (by assumption) rfl ?_ | refine wq_alen (by assumption) rfl ?_)
      refine wf rfl (wq_ifeq ⟨by omega, by omega⟩ (fun c9 => by exfalso; omega) (fun _ => ?_))
      repeat (refine wf rfl ?_; first | refine wq_iadd ?_ | refine wq_isub ?_ | refine wq_imul ?_ | refine wq_iinc rfl ?_ | refine wq_goto ?_ | refine wq_k rfl ?_ | refine wq_b rfl rfl ?_ | refine wq_getf (by assumption) rfl ?_ | refine wq_alen (by assumption) rfl ?_)
      refine wf rfl (wq_cv rfl rfl rfl ho ((o_share (t := k) ⟨by omega, by omega⟩ hK h).mono ?_))
      rintro v M1 ⟨rfl, h1⟩
      obtain ⟨fs1, ho1⟩ := h1.p
      repeat (refine wf rfl ?_; first | refine wq_iadd ?_ | refine wq_isub ?_ | refine wq_imul ?_ | refine wq_iinc rfl ?_ | refine wq_goto ?_ | refine wq_k rfl ?_ | refine wq_b rfl rfl ?_ | refine wq_getf (by assumption) rfl ?_ | refine wq_alen (by assumption) rfl ?_)
      refine wf rfl (wq_cv rfl rfl rfl ho1 ((q_share (t := k) ⟨i0, hk⟩ hK h1).mono ?_))
      rintro v M2 ⟨rfl, h2⟩
      refine wf rfl (wq_neS ?_)
      have hx := fun (_ : True) => ih (k + 1) M2 ⟨h2, by omega, by omega, by omega⟩
      repeat' (first | (refine Wp.sub (hx  ?_) ⟨rfl, rfl, rfl, rfl, trivial⟩ rfl) | (refine wf rfl ?_; first | refine wq_iadd ?_ | refine wq_isub ?_ | refine wq_imul ?_ | refine wq_iinc rfl ?_ | refine wq_goto ?_ | refine wq_k rfl ?_ | refine wq_b rfl rfl ?_ | refine wq_getf (by assumption) rfl ?_ | refine wq_alen (by assumption) rfl ?_ | fail | (refine wq_eq ⟨by omega, by omega⟩ ⟨by omega, by omega⟩ (fun _ => ?_) (fun _ => ?_) <;> try (exfalso; omega)) | (refine wq_ne ⟨by omega, by omega⟩ ⟨by omega, by omega⟩ (fun _ => ?_) (fun _ => ?_) <;> try (exfalso; omega)) | (refine wq_lt ⟨by omega, by omega⟩ ⟨by omega, by omega⟩ (fun _ => ?_) (fun _ => ?_) <;> try (exfalso; omega)) | (refine wq_ge ⟨by omega, by omega⟩ ⟨by omega, by omega⟩ (fun _ => ?_) (fun _ => ?_) <;> try (exfalso; omega)) | (refine wq_gt ⟨by omega, by omega⟩ ⟨by omega, by omega⟩ (fun _ => ?_) (fun _ => ?_) <;> try (exfalso; omega)) | (refine wq_le ⟨by omega, by omega⟩ ⟨by omega, by omega⟩ (fun _ => ?_) (fun _ => ?_) <;> try (exfalso; omega)) | (refine wq_ifeq ⟨by omega, by omega⟩ (fun _ => ?_) (fun _ => ?_) <;> try (exfalso; omega)) | (refine wq_ifne ⟨by omega, by omega⟩ (fun _ => ?_) (fun _ => ?_) <;> try (exfalso; omega)) | (refine wq_iflt ⟨by omega, by omega⟩ (fun _ => ?_) (fun _ => ?_) <;> try (exfalso; omega)) | (refine wq_ifge ⟨by omega, by omega⟩ (fun _ => ?_) (fun _ => ?_) <;> try (exfalso; omega)) | (refine wq_ifgt ⟨by omega, by omega⟩ (fun _ => ?_) (fun _ => ?_) <;> try (exfalso; omega)) | (refine wq_ifle ⟨by omega, by omega⟩ (fun _ => ?_) (fun _ => ?_) <;> try (exfalso; omega)) | refine wq_r rfl rfl rfl rfl rfl rfl ?_))
      trivial
    · have hx := fun (_ : True) => la_best hK 10 0 M ⟨h, by omega, by omega, by omega⟩
      repeat (refine wf rfl ?_; first | refine wq_iadd ?_ | refine wq_isub ?_ | refine wq_imul ?_ | refine wq_iinc rfl ?_ | refine wq_goto ?_ | refine wq_k rfl ?_ | refine wq_b rfl rfl ?_ | refine wq_getf (by assumption) rfl ?_ | refine wq_alen (by assumption) rfl ?_)
      refine wf rfl (wq_ge ⟨by omega, by omega⟩ ⟨by omega, by omega⟩ (fun _ => ?_) (fun c9 => by exfalso; omega))
      repeat' (first | (refine Wp.sub (hx  ?_) ⟨rfl, rfl, rfl, rfl, trivial⟩ rfl) | (refine wf rfl ?_; first | refine wq_iadd ?_ | refine wq_isub ?_ | refine wq_imul ?_ | refine wq_iinc rfl ?_ | refine wq_goto ?_ | refine wq_k rfl ?_ | refine wq_b rfl rfl ?_ | refine wq_getf (by assumption) rfl ?_ | refine wq_alen (by assumption) rfl ?_ | fail | (refine wq_eq ⟨by omega, by omega⟩ ⟨by omega, by omega⟩ (fun _ => ?_) (fun _ => ?_) <;> try (exfalso; omega)) | (refine wq_ne ⟨by omega, by omega⟩ ⟨by omega, by omega⟩ (fun _ => ?_) (fun _ => ?_) <;> try (exfalso; omega)) | (refine wq_lt ⟨by omega, by omega⟩ ⟨by omega, by omega⟩ (fun _ => ?_) (fun _ => ?_) <;> try (exfalso; omega)) | (refine wq_ge ⟨by omega, by omega⟩ ⟨by omega, by omega⟩ (fun _ => ?_) (fun _ => ?_) <;> try (exfalso; omega)) | (refine wq_gt ⟨by omega, by omega⟩ ⟨by omega, by omega⟩ (fun _ => ?_) (fun _ => ?_) <;> try (exfalso; omega)) | (refine wq_le ⟨by omega, by omega⟩ ⟨by omega, by omega⟩ (fun _ => ?_) (fun _ => ?_) <;> try (exfalso; omega)) | (refine wq_ifeq ⟨by omega, by omega⟩ (fun _ => ?_) (fun _ => ?_) <;> try (exfalso; omega)) | (refine wq_ifne ⟨by omega, by omega⟩ (fun _ => ?_) (fun _ => ?_) <;> try (exfalso; omega)) | (refine wq_iflt ⟨by omega, by omega⟩ (fun _ => ?_) (fun _ => ?_) <;> try (exfalso; omega)) | (refine wq_ifge ⟨by omega, by omega⟩ (fun _ => ?_) (fun _ => ?_) <;> try (exfalso; omega)) | (refine wq_ifgt ⟨by omega, by omega⟩ (fun _ => ?_) (fun _ => ?_) <;> try (exfalso; omega)) | (refine wq_ifle ⟨by omega, by omega⟩ (fun _ => ?_) (fun _ => ?_) <;> try (exfalso; omega)) | refine wq_r rfl rfl rfl rfl rfl rfl ?_))
      trivial
set_option maxRecDepth 20000 in
/-- the counts -/
theorem la_count (hK : OKS S) (n : Nat) : ∀ (k : Int) (M : PM), (TX M L z f S (fl_S S) ∧ 0 ≤ k ∧ k ≤ 8 ∧ 8 - k < n) →
    Wp k_L_areAlike (31, [(0, .ref 1), (1, .ref 613), (2, .int (I 1)), (3, .int (I k))], [], M) (AQ L z f S) := by
  induction n with
  | zero =>
    rintro k M ⟨h, i0, i1, i2⟩
    exfalso
    omega
  | succ n ih =>
    rintro k M ⟨h, i0, i1, i2⟩
    by_cases hk : k < 8
    · obtain ⟨fs, ho⟩ := h.o
      repeat (refine wf rfl ?_; first | refine wq_iadd ?_ | refine wq_isub ?_ | refine wq_imul ?_ | refine wq_iinc rfl ?_ | refine wq_goto ?_ | refine wq_k rfl ?_ | refine wq_b rfl rfl ?_ | refine wq_getf (by assumption) rfl ?_ | refine wq_alen (by assumption) rfl ?_)
      refine wf rfl (wq_ge ⟨by omega, by omega⟩ ⟨by omega, by omega⟩ (fun c9 => by exfalso; omega) (fun _ => ?_))
      repeat (refine wf rfl ?_; first | refine wq_iadd ?_ | refine wq_isub ?_ | refine wq_imul ?_ | refine wq_iinc rfl ?_ | refine wq_goto ?_ | refine wq_k rfl ?_ | refine wq_b rfl rfl ?_ | refine wq_getf (by assumption) rfl ?_ | refine wq_alen (by assumption) rfl ?_)
      refine wf rfl (wq_ifeq ⟨by omega, by omega⟩ (fun c9 => by exfalso; omega) (fun _ => ?_))
      repeat (refine wf rfl ?_; first | refine wq_iadd ?_ | refine wq_isub ?_ | refine wq_imul ?_ | refine wq_iinc rfl ?_ | refine wq_goto ?_ | refine wq_k rfl ?_ | refine wq_b rfl rfl ?_ | refine wq_getf (by assumption) rfl ?_ | refine wq_alen (by assumption) rfl ?_)
      refine wf rfl (wq_cv rfl rfl rfl ho ((o_count (t := k) ⟨by omega, by omega⟩ h).mono ?_))
      rintro v M1 ⟨rfl, h1⟩
      obtain ⟨fs1, ho1⟩ := h1.p
      repeat (refine wf rfl ?_; first | refine wq_iadd ?_ | refine wq_isub ?_ | refine wq_imul ?_ | refine wq_iinc rfl ?_ | refine wq_goto ?_ | refine wq_k rfl ?_ | refine wq_b rfl rfl ?_ | refine wq_getf (by assumption) rfl ?_ | refine wq_alen (by assumption) rfl ?_)
      refine wf rfl (wq_cv rfl rfl rfl ho1 ((q_count (t := k) ⟨by omega, by omega⟩ h1).mono ?_))
      rintro v M2 ⟨rfl, h2⟩
      refine wf rfl (wq_neS ?_)
      have hx := fun (_ : True) => ih (k + 1) M2 ⟨h2, by omega, by omega, by omega⟩
      repeat' (first | (refine Wp.sub (hx  ?_) ⟨rfl, rfl, rfl, rfl, trivial⟩ rfl) | (refine wf rfl ?_; first | refine wq_iadd ?_ | refine wq_isub ?_ | refine wq_imul ?_ | refine wq_iinc rfl ?_ | refine wq_goto ?_ | refine wq_k rfl ?_ | refine wq_b rfl rfl ?_ | refine wq_getf (by assumption) rfl ?_ | refine wq_alen (by assumption) rfl ?_ | fail | (refine wq_eq ⟨by omega, by omega⟩ ⟨by omega, by omega⟩ (fun _ => ?_) (fun _ => ?_) <;> try (exfalso; omega)) | (refine wq_ne ⟨by omega, by omega⟩ ⟨by omega, by omega⟩ (fun _ => ?_) (fun _ => ?_) <;> try (exfalso; omega)) | (refine wq_lt ⟨by omega, by omega⟩ ⟨by omega, by omega⟩ (fun _ => ?_) (fun _ => ?_) <;> try (exfalso; omega)) | (refine wq_ge ⟨by omega, by omega⟩ ⟨by omega, by omega⟩ (fun _ => ?_) (fun _ => ?_) <;> try (exfalso; omega)) | (refine wq_gt ⟨by omega, by omega⟩ ⟨by omega, by omega⟩ (fun _ => ?_) (fun _ => ?_) <;> try (exfalso; omega)) | (refine wq_le ⟨by omega, by omega⟩ ⟨by omega, by omega⟩ (fun _ => ?_) (fun _ => ?_) <;> try (exfalso; omega)) | (refine wq_ifeq ⟨by omega, by omega⟩ (fun _ => ?_) (fun _ => ?_) <;> try (exfalso; omega)) | (refine wq_ifne ⟨by omega, by omega⟩ (fun _ => ?_) (fun _ => ?_) <;> try (exfalso; omega)) | (refine wq_iflt ⟨by omega, by omega⟩ (fun _ => ?_) (fun _ => ?_) <;> try (exfalso; omega)) | (refine wq_ifge ⟨by omega, by omega⟩ (fun _ => ?_) (fun _ => ?_) <;> try (exfalso; omega)) | (refine wq_ifgt ⟨by omega, by omega⟩ (fun _ => ?_) (fun _ => ?_) <;> try (exfalso; omega)) | (refine wq_ifle ⟨by omega, by omega⟩ (fun _ => ?_) (fun _ => ?_) <;> try (exfalso; omega)) | refine wq_r rfl rfl rfl rfl rfl rfl ?_))
      trivial
    · have hx := fun (_ : True) => la_share hK 10 0 M ⟨h, by omega, by omega, by omega⟩
      repeat (refine wf rfl ?_; first | refine wq_iadd ?_ | refine wq_isub ?_ | refine wq_imul ?_ | refine wq_iinc rfl ?_ | refine wq_goto ?_ | refine wq_k rfl ?_ | refine wq_b rfl rfl ?_ | refine wq_getf (by assumption) rfl ?_ | refine wq_alen (by assumption) rfl ?_)
      refine wf rfl (wq_ge ⟨by omega, by omega⟩ ⟨by omega, by omega⟩ (fun _ => ?_) (fun c9 => by exfalso; omega))
      repeat' (first | (refine Wp.sub (hx  ?_) ⟨rfl, rfl, rfl, rfl, trivial⟩ rfl) | (refine wf rfl ?_; first | refine wq_iadd ?_ | refine wq_isub ?_ | refine wq_imul ?_ | refine wq_iinc rfl ?_ | refine wq_goto ?_ | refine wq_k rfl ?_ | refine wq_b rfl rfl ?_ | refine wq_getf (by assumption) rfl ?_ | refine wq_alen (by assumption) rfl ?_ | fail | (refine wq_eq ⟨by omega, by omega⟩ ⟨by omega, by omega⟩ (fun _ => ?_) (fun _ => ?_) <;> try (exfalso; omega)) | (refine wq_ne ⟨by omega, by omega⟩ ⟨by omega, by omega⟩ (fun _ => ?_) (fun _ => ?_) <;> try (exfalso; omega)) | (refine wq_lt ⟨by omega, by omega⟩ ⟨by omega, by omega⟩ (fun _ => ?_) (fun _ => ?_) <;> try (exfalso; omega)) | (refine wq_ge ⟨by omega, by omega⟩ ⟨by omega, by omega⟩ (fun _ => ?_) (fun _ => ?_) <;> try (exfalso; omega)) | (refine wq_gt ⟨by omega, by omega⟩ ⟨by omega, by omega⟩ (fun _ => ?_) (fun _ => ?_) <;> try (exfalso; omega)) | (refine wq_le ⟨by omega, by omega⟩ ⟨by omega, by omega⟩ (fun _ => ?_) (fun _ => ?_) <;> try (exfalso; omega)) | (refine wq_ifeq ⟨by omega, by omega⟩ (fun _ => ?_) (fun _ => ?_) <;> try (exfalso; omega)) | (refine wq_ifne ⟨by omega, by omega⟩ (fun _ => ?_) (fun _ => ?_) <;> try (exfalso; omega)) | (refine wq_iflt ⟨by omega, by omega⟩ (fun _ => ?_) (fun _ => ?_) <;> try (exfalso; omega)) | (refine wq_ifge ⟨by omega, by omega⟩ (fun _ => ?_) (fun _ => ?_) <;> try (exfalso; omega)) | (refine wq_ifgt ⟨by omega, by omega⟩ (fun _ => ?_) (fun _ => ?_) <;> try (exfalso; omega)) | (refine wq_ifle ⟨by omega, by omega⟩ (fun _ => ?_) (fun _ => ?_) <;> try (exfalso; omega)) | refine wq_r rfl rfl rfl rfl rfl rfl ?_))
      trivial
set_option maxRecDepth 20000 in
theorem c_areAlike {M : PM} (h : TX M L z f S (fl_S S)) (hK : OKS S) : Wm 130 [.ref 1, .ref 613] M (AQ L z f S) := by
  obtain ⟨fs, ho⟩ := h.o
  refine wm_in (lv := _) rfl rfl rfl ?_
  repeat (refine wf rfl ?_; first | refine wq_iadd ?_ | refine wq_isub ?_ | refine wq_imul ?_ | refine wq_iinc rfl ?_ | refine wq_goto ?_ | refine wq_k rfl ?_ | refine wq_b rfl rfl ?_ | refine wq_getf (by assumption) rfl ?_ | refine wq_alen (by assumption) rfl ?_)
  refine wf rfl (wq_cv rfl rfl rfl ho ((o_ratio hK h).mono ?_))
  rintro v M1 ⟨rfl, h1⟩
  obtain ⟨fs1, ho1⟩ := h1.p
  repeat (refine wf rfl ?_; first | refine wq_iadd ?_ | refine wq_isub ?_ | refine wq_imul ?_ | refine wq_iinc rfl ?_ | refine wq_goto ?_ | refine wq_k rfl ?_ | refine wq_b rfl rfl ?_ | refine wq_getf (by assumption) rfl ?_ | refine wq_alen (by assumption) rfl ?_)
  refine wf rfl (wq_cv rfl rfl rfl ho1 ((q_ratio hK h1).mono ?_))
  rintro v M2 ⟨rfl, h2⟩
  refine wf rfl (wq_lcmp (fun z9 hz9 => ?_))
  have e0 : z9 = 0 := by omega
  subst e0
  refine wf rfl (wq_ifne ⟨by omega, by omega⟩ (fun c9 => absurd rfl c9) (fun _ => ?_))
  obtain ⟨fs2, ho2⟩ := h2.o
  repeat (refine wf rfl ?_; first | refine wq_iadd ?_ | refine wq_isub ?_ | refine wq_imul ?_ | refine wq_iinc rfl ?_ | refine wq_goto ?_ | refine wq_k rfl ?_ | refine wq_b rfl rfl ?_ | refine wq_getf (by assumption) rfl ?_ | refine wq_alen (by assumption) rfl ?_)
  refine wf rfl (wq_cv rfl rfl rfl ho2 ((o_couldBe h2).mono ?_))
  rintro v M3 ⟨rfl, h3⟩
  obtain ⟨fs3, ho3⟩ := h3.p
  repeat (refine wf rfl ?_; first | refine wq_iadd ?_ | refine wq_isub ?_ | refine wq_imul ?_ | refine wq_iinc rfl ?_ | refine wq_goto ?_ | refine wq_k rfl ?_ | refine wq_b rfl rfl ?_ | refine wq_getf (by assumption) rfl ?_ | refine wq_alen (by assumption) rfl ?_)
  refine wf rfl (wq_cv rfl rfl rfl ho3 ((q_couldBe h3).mono ?_))
  rintro v M4 ⟨rfl, h4⟩
  refine wf rfl (wq_neS ?_)
  have hx := fun (_ : True) => la_count hK 10 0 M4 ⟨h4, by omega, by omega, by omega⟩
  repeat' (first | (refine Wp.sub (hx  ?_) ⟨rfl, rfl, rfl, rfl, trivial⟩ rfl) | (refine wf rfl ?_; first | refine wq_iadd ?_ | refine wq_isub ?_ | refine wq_imul ?_ | refine wq_iinc rfl ?_ | refine wq_goto ?_ | refine wq_k rfl ?_ | refine wq_b rfl rfl ?_ | refine wq_getf (by assumption) rfl ?_ | refine wq_alen (by assumption) rfl ?_ | fail | (refine wq_eq ⟨by omega, by omega⟩ ⟨by omega, by omega⟩ (fun _ => ?_) (fun _ => ?_) <;> try (exfalso; omega)) | (refine wq_ne ⟨by omega, by omega⟩ ⟨by omega, by omega⟩ (fun _ => ?_) (fun _ => ?_) <;> try (exfalso; omega)) | (refine wq_lt ⟨by omega, by omega⟩ ⟨by omega, by omega⟩ (fun _ => ?_) (fun _ => ?_) <;> try (exfalso; omega)) | (refine wq_ge ⟨by omega, by omega⟩ ⟨by omega, by omega⟩ (fun _ => ?_) (fun _ => ?_) <;> try (exfalso; omega)) | (refine wq_gt ⟨by omega, by omega⟩ ⟨by omega, by omega⟩ (fun _ => ?_) (fun _ => ?_) <;> try (exfalso; omega)) | (refine wq_le ⟨by omega, by omega⟩ ⟨by omega, by omega⟩ (fun _ => ?_) (fun _ => ?_) <;> try (exfalso; omega)) | (refine wq_ifeq ⟨by omega, by omega⟩ (fun _ => ?_) (fun _ => ?_) <;> try (exfalso; omega)) | (refine wq_ifne ⟨by omega, by omega⟩ (fun _ => ?_) (fun _ => ?_) <;> try (exfalso; omega)) | (refine wq_iflt ⟨by omega, by omega⟩ (fun _ => ?_) (fun _ => ?_) <;> try (exfalso; omega)) | (refine wq_ifge ⟨by omega, by omega⟩ (fun _ => ?_) (fun _ => ?_) <;> try (exfalso; omega)) | (refine wq_ifgt ⟨by omega, by omega⟩ (fun _ => ?_) (fun _ => ?_) <;> try (exfalso; omega)) | (refine wq_ifle ⟨by omega, by omega⟩ (fun _ => ?_) (fun _ => ?_) <;> try (exfalso; omega)) | refine wq_r rfl rfl rfl rfl rfl rfl ?_))
  trivial
end ALK
