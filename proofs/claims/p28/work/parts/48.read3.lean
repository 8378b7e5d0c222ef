def rd0 (G : GS) (ru : List Int) (c : Int) : RS := if syC c = 8 + (G.1.length : Int) then (1, G, []) else grM G ru c
def rd3 (G : GS) (ru : List Int) (c : Int) : RS := if c = 59 then (0, (G.1 ++ [ru], G.2), ru) else grR G ru c
def rdStep (r : RS) (c : Int) : RS := if r.1 = 0 then rd0 r.2.1 r.2.2 c else if r.1 = 1 then (if c = 61 then 2 else 5, r.2.1, r.2.2) else if r.1 = 2 then grR r.2.1 r.2.2 c else if r.1 = 3 then rd3 r.2.1 r.2.2 c else grM r.2.1 r.2.2 c
abbrev rdPost (M : PM) (b g : Nat) (r : RS) : Option Value → PM → Prop := fun v M' => v = some (.int (I r.1)) ∧ Fr (fun z => inG g z ∨ inY b z) M M' ∧ Rd M' b g r
section RD3
variable {M : PM} {b g : Nat} {st c : Int} {G : GS} {ru : List Int}
theorem c_rd_start (hc : inR c) (h : Rd M b g (st, G, ru)) (hd : b + 2 < g ∨ g + 59 ≤ b) : Wm 60 [.ref b, .int (I c), .ref g] M (rdPost M b g (rd0 G ru c)) := by
  have hgm := c_rd_growM hc h hd
  obtain ⟨q1, q2, q3, q4, q5⟩ := h
  obtain ⟨p, X, lt, dp, us, W, h1, h2, w1, w2, w3⟩ := id q3
  dsimp only at h1
  have hg1 := h1.obj
  have hN := h1.le
  have hsy := syC_bd c
  have hmr := c_Gr_mainRow h1
  obtain ⟨gr, r1, -, -, -⟩ := id q2
  refine wm_in (lv := _) rfl rfl rfl ?_
  repeat (refine wf rfl ?_; first | refine wq_iadd ?_ | refine wq_isub ?_ | refine wq_imul ?_ | refine wq_iinc rfl ?_ | refine wq_goto ?_ | refine wq_k rfl ?_ | refine wq_b rfl rfl ?_ | refine wq_getf (by assumption) rfl ?_ | refine wq_alen (by assumption) rfl ?_)
  refine wf rfl (wq_cs rfl rfl ((c_symbolOf hc).mono ?_))
  rintro v M ⟨rfl, rfl⟩
  repeat (refine wf rfl ?_; first | refine wq_iadd ?_ | refine wq_isub ?_ | refine wq_imul ?_ | refine wq_iinc rfl ?_ | refine wq_goto ?_ | refine wq_k rfl ?_ | refine wq_b rfl rfl ?_ | refine wq_getf (by assumption) rfl ?_ | refine wq_alen (by assumption) rfl ?_)
  refine wf rfl (wq_cv rfl rfl rfl hg1 ((c_Gr_ruleCount h1).mono ?_))
  rintro v M ⟨rfl, rfl⟩
  repeat (refine wf rfl ?_; first | refine wq_iadd ?_ | refine wq_isub ?_ | refine wq_imul ?_ | refine wq_iinc rfl ?_ | refine wq_goto ?_ | refine wq_k rfl ?_ | refine wq_b rfl rfl ?_ | refine wq_getf (by assumption) rfl ?_ | refine wq_alen (by assumption) rfl ?_)
  refine wf rfl (wq_ne ⟨by omega, by omega⟩ ⟨by omega, by omega⟩ (fun c2 => ?_) (fun c2 => ?_))
  · repeat (refine wf rfl ?_; first | refine wq_iadd ?_ | refine wq_isub ?_ | refine wq_imul ?_ | refine wq_iinc rfl ?_ | refine wq_goto ?_ | refine wq_k rfl ?_ | refine wq_b rfl rfl ?_ | refine wq_getf (by assumption) rfl ?_ | refine wq_alen (by assumption) rfl ?_)
    refine wf rfl (wq_cv rfl rfl rfl hg1 (hmr.mono ?_))
    rintro v M ⟨rfl, rfl⟩
    repeat (refine wf rfl ?_; first | refine wq_iadd ?_ | refine wq_isub ?_ | refine wq_imul ?_ | refine wq_iinc rfl ?_ | refine wq_goto ?_ | refine wq_k rfl ?_ | refine wq_b rfl rfl ?_ | refine wq_getf (by assumption) rfl ?_ | refine wq_alen (by assumption) rfl ?_)
    refine wf rfl (wq_cv rfl rfl rfl q1 (hgm.mono ?_))
    rintro v M2 ⟨rfl, f2, h2⟩
    repeat' (refine wf rfl ?_; first | refine wq_iadd ?_ | refine wq_isub ?_ | refine wq_imul ?_ | refine wq_iinc rfl ?_ | refine wq_goto ?_ | refine wq_k rfl ?_ | refine wq_b rfl rfl ?_ | refine wq_getf (by assumption) rfl ?_ | refine wq_alen (by assumption) rfl ?_ | (refine wq_eq ⟨by omega, by omega⟩ ⟨by omega, by omega⟩ (fun _ => ?_) (fun _ => ?_) <;> try (exfalso; omega)) | (refine wq_ne ⟨by omega, by omega⟩ ⟨by omega, by omega⟩ (fun _ => ?_) (fun _ => ?_) <;> try (exfalso; omega)) | (refine wq_lt ⟨by omega, by omega⟩ ⟨by omega, by omega⟩ (fun _ => ?_) (fun _ => ?_) <;> try (exfalso; omega)) | (refine wq_ge ⟨by omega, by omega⟩ ⟨by omega, by omega⟩ (fun _ => ?_) (fun _ => ?_) <;> try (exfalso; omega)) | (refine wq_gt ⟨by omega, by omega⟩ ⟨by omega, by omega⟩ (fun _ => ?_) (fun _ => ?_) <;> try (exfalso; omega)) | (refine wq_le ⟨by omega, by omega⟩ ⟨by omega, by omega⟩ (fun _ => ?_) (fun _ => ?_) <;> try (exfalso; omega)) | (refine wq_ifeq ⟨by omega, by omega⟩ (fun _ => ?_) (fun _ => ?_) <;> try (exfalso; omega)) | (refine wq_ifne ⟨by omega, by omega⟩ (fun _ => ?_) (fun _ => ?_) <;> try (exfalso; omega)) | (refine wq_iflt ⟨by omega, by omega⟩ (fun _ => ?_) (fun _ => ?_) <;> try (exfalso; omega)) | (refine wq_ifge ⟨by omega, by omega⟩ (fun _ => ?_) (fun _ => ?_) <;> try (exfalso; omega)) | (refine wq_ifgt ⟨by omega, by omega⟩ (fun _ => ?_) (fun _ => ?_) <;> try (exfalso; omega)) | (refine wq_ifle ⟨by omega, by omega⟩ (fun _ => ?_) (fun _ => ?_) <;> try (exfalso; omega)) | refine wq_r rfl rfl rfl rfl rfl rfl ?_)
    unfold rd0
    rw [if_neg c2]
    exact ⟨rfl, f2, h2⟩
  · repeat (refine wf rfl ?_; first | refine wq_iadd ?_ | refine wq_isub ?_ | refine wq_imul ?_ | refine wq_iinc rfl ?_ | refine wq_goto ?_ | refine wq_k rfl ?_ | refine wq_b rfl rfl ?_ | refine wq_getf (by assumption) rfl ?_ | refine wq_alen (by assumption) rfl ?_)
    refine wf rfl (wq_cv rfl rfl rfl r1 ((c_Row_clear q2).mono ?_))
    rintro v M2 ⟨rfl, hr2, f2⟩
    repeat' (refine wf rfl ?_; first | refine wq_iadd ?_ | refine wq_isub ?_ | refine wq_imul ?_ | refine wq_iinc rfl ?_ | refine wq_goto ?_ | refine wq_k rfl ?_ | refine wq_b rfl rfl ?_ | refine wq_getf (by assumption) rfl ?_ | refine wq_alen (by assumption) rfl ?_ | (refine wq_eq ⟨by omega, by omega⟩ ⟨by omega, by omega⟩ (fun _ => ?_) (fun _ => ?_) <;> try (exfalso; omega)) | (refine wq_ne ⟨by omega, by omega⟩ ⟨by omega, by omega⟩ (fun _ => ?_) (fun _ => ?_) <;> try (exfalso; omega)) | (refine wq_lt ⟨by omega, by omega⟩ ⟨by omega, by omega⟩ (fun _ => ?_) (fun _ => ?_) <;> try (exfalso; omega)) | (refine wq_ge ⟨by omega, by omega⟩ ⟨by omega, by omega⟩ (fun _ => ?_) (fun _ => ?_) <;> try (exfalso; omega)) | (refine wq_gt ⟨by omega, by omega⟩ ⟨by omega, by omega⟩ (fun _ => ?_) (fun _ => ?_) <;> try (exfalso; omega)) | (refine wq_le ⟨by omega, by omega⟩ ⟨by omega, by omega⟩ (fun _ => ?_) (fun _ => ?_) <;> try (exfalso; omega)) | (refine wq_ifeq ⟨by omega, by omega⟩ (fun _ => ?_) (fun _ => ?_) <;> try (exfalso; omega)) | (refine wq_ifne ⟨by omega, by omega⟩ (fun _ => ?_) (fun _ => ?_) <;> try (exfalso; omega)) | (refine wq_iflt ⟨by omega, by omega⟩ (fun _ => ?_) (fun _ => ?_) <;> try (exfalso; omega)) | (refine wq_ifge ⟨by omega, by omega⟩ (fun _ => ?_) (fun _ => ?_) <;> try (exfalso; omega)) | (refine wq_ifgt ⟨by omega, by omega⟩ (fun _ => ?_) (fun _ => ?_) <;> try (exfalso; omega)) | (refine wq_ifle ⟨by omega, by omega⟩ (fun _ => ?_) (fun _ => ?_) <;> try (exfalso; omega)) | refine wq_r rfl rfl rfl rfl rfl rfl ?_)
    unfold rd0
    rw [if_pos c2]
    refine ⟨rfl, f2.mono (fun z hz => Or.inr (by unfold inY; omega)), f2.at (by omega) q1, hr2, q3.fr f2 (fun z hz => by unfold inG at hz; omega), fun z => ⟨fun s hs => absurd hs (by simp), ?_⟩, fun z => ?_⟩
    · dsimp only
      omega
    · exfalso
      dsimp only at z
      omega
theorem c_rd_end (h : Rd M b g (3, G, ru)) (hd : b + 2 < g ∨ g + 59 ≤ b) : Wm 61 [.ref b, .ref g] M (rdPost M b g (0, (G.1 ++ [ru], G.2), ru)) := by
  obtain ⟨q1, q2, q3, q4, q5⟩ := h
  obtain ⟨p, X, lt, dp, us, W, h1, h2, w1, w2, w3⟩ := id q3
  obtain ⟨w4, w5⟩ := q4 (Or.inr (Or.inr rfl))
  have w6 := q5 rfl
  dsimp only at w4 w5 w6 h1 q2
  refine (c_Reader_endRule h1 w5 q1 q2 hd).mono ?_
  rintro v M' ⟨rfl, f, h3⟩
  have hl : (G.1 ++ [ru]).length = G.1.length + 1 := by simp
  refine ⟨rfl, f.mono (fun z hz => Or.inl hz), f.at (by unfold inG; omega) q1, q2.fr f (by unfold inG; omega) (by unfold inG; omega), ⟨p, updF X G.1.length ru, lt, dp, us, W, ?_, ?_, ?_, ?_, ?_⟩, fun z => ?_, fun z => ?_⟩
  · dsimp only
    rw [hl]
    exact h3
  · dsimp only
    rw [hl]
    intro k hk
    by_cases he : k < G.1.length
    · rw [updF_ne _ _ (by omega), xof_app1 he]
      exact h2 k he
    · have e : k = G.1.length := by omega
      subst e
      rw [updF_at, xof_app2]
  · dsimp only
    rw [hl]
    intro k hk x hx
    by_cases he : k < G.1.length
    · rw [xof_app1 he] at hx
      exact w1 k he x hx
    · have e : k = G.1.length := by omega
      subst e
      rw [xof_app2] at hx
      exact w4 x hx
  · dsimp only
    rw [hl]
    intro x hx
    have := w2 x hx
    dsimp only at this
    omega
  · dsimp only
    rw [hl]
    intro k hk
    by_cases he : k < G.1.length
    · rw [xof_app1 he]
      exact w3 k he
    · have e : k = G.1.length := by omega
      subst e
      rw [xof_app2]
      exact w6
  · exfalso
    dsimp only at z
    omega
  · exfalso
    dsimp only at z
    omega
end RD3
