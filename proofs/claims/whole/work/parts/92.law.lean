/-! The law: each step's two calls answer alike. -/
theorem wq_eqS {c : MM} {ln nx tg r1 r2 r3 pc : Nat} {lv : LV} {r : List Value} {M : PM} {Q : Option Value → PM → Prop} {o : Int} {x : Int32} (k : Wp c (tg, lv, r, M) Q) : Wq c (.if_icmp .eq o, ln, nx, tg, r1, r2, r3) pc lv (.int x :: .int x :: r) M Q := by
  refine wq_g (b := decide (x = x)) rfl rfl rfl ?_
  rw [decide_eq_true rfl]
  exact k
theorem and31 (x : Int32) : ∃ w : Int, 0 ≤ w ∧ w < 32 ∧ x &&& I 31 = I w := by
  refine ⟨((x.toBitVec &&& 31#32).toNat : Int), by omega, ?_, ?_⟩
  · have h : (x.toBitVec &&& 31#32).toNat ≤ 31 := by
      rw [BitVec.toNat_and]
      exact Nat.and_le_right
    omega
  · have h1 : (x &&& I 31).toBitVec = x.toBitVec &&& 31#32 := rfl
    have h2 : (I ((x.toBitVec &&& 31#32).toNat : Int)).toBitVec = BitVec.ofInt 32 ((x.toBitVec &&& 31#32).toNat : Int) := rfl
    have h3 : (x &&& I 31).toBitVec = (I ((x.toBitVec &&& 31#32).toNat : Int)).toBitVec := by
      rw [h1, h2, BitVec.ofInt_natCast, BitVec.ofNat_toNat, BitVec.setWidth_eq]
    exact Int32.toBitVec_inj.mp h3
theorem wq_and31 {c : MM} {ln nx tg r1 r2 r3 pc : Nat} {lv : LV} {r : List Value} {M : PM} {Q : Option Value → PM → Prop} {x : Int32} (k : ∀ w : Int, 0 ≤ w → w < 32 → Wp c (nx, lv, .int (I w) :: r, M) Q) : Wq c (.iand, ln, nx, tg, r1, r2, r3) pc lv (.int (I 31) :: .int x :: r) M Q := by
  obtain ⟨w, h1, h2, h3⟩ := and31 x
  refine wq_k (sk' := .int (I w) :: r) ?_ (k w h1 h2)
  rw [← h3]
  rfl
theorem CS.fr {P : Nat → Prop} {M M' : PM} {c : Nat} {S : ST} (h : CS M c S) (f : Fr P M M') (hP : ∀ q, c ≤ q → q < c + 612 → ¬ P q) : CS M' c S := by
  obtain ⟨a1, a2, a3, a4, a5, a6, a7, a8⟩ := h
  exact ⟨f.at (hP _ (by omega) (by omega)) a1, a2.fr f (fun q hq => hP _ (by unfold inG at hq; omega) (by unfold inG at hq; omega)), a3.fr f (fun q hq => hP _ (by unfold inG at hq; omega) (by unfold inG at hq; omega)), a4.fr f (hP _ (by omega) (by omega)) (hP _ (by omega) (by omega)), a5.fr f (fun q q1 q2 => hP _ (by omega) (by omega)), a6.fr f (fun q hq => hP _ (by omega) (by omega)), a7.fr f (fun q q1 q2 => hP _ (by omega) (by omega)), a8.fr f (fun q q1 q2 => hP _ (by omega) (by omega))⟩
/-- the law's memory: the script, the class and the model in one state -/
def LI (M : PM) (L z : Nat) (f : Nat → Int) (S : ST) : Prop := M[0]? = some (aJ L f) ∧ CS M 1 S ∧ MS M 613 S ∧ OKS S ∧ M.length = 628 ∧ szM M = z
theorem CS.wf {M : PM} {c : Nat} {S : ST} (h : CS M c S) : WFG S.1 := h.2.1.wf
section LAW
variable {M M1 M2 : PM} {L z : Nat} {f : Nat → Int} {S S' : ST}
theorem LI.mid (h : LI M L z f S) (f1 : Fr (inC 1) M M1) : M1[0]? = some (aJ L f) ∧ MS M1 613 S := by
  obtain ⟨h1, h2, h3, h4, h5, h6⟩ := h
  exact ⟨f1.at (by unfold inC; omega) h1, h3.work f1 (by unfold inC; omega) (by unfold inC; omega) (by unfold inC; omega) (by unfold inC; omega) (by unfold inC; omega) (by unfold inC; omega)⟩
theorem LI.two (h : LI M L z f S) (f1 : Fr (inC 1) M M1) (k1 : CS M1 1 S') (f2 : Fr (inM 613) M1 M2) (k2 : MS M2 613 S') (hK : OKS S') : LI M2 L z f S' := by
  obtain ⟨h1, h2, h3, h4, h5, h6⟩ := h
  exact ⟨f2.at (by unfold inM; omega) (f1.at (by unfold inC; omega) h1), k1.fr f2 (fun q q1 q2 => by unfold inM; omega), k2, hK, by rw [f2.1, f1.1, h5], by rw [f2.2.1, f1.2.1, h6]⟩
theorem Lu_self (x : Int64) : x.toUInt64.toNat < 2 ^ 64 ∧ x = Lu x.toUInt64.toNat := ⟨x.toUInt64.toNat_lt, by unfold Lu; rw [UInt64.ofNat_toNat]; rfl⟩
theorem c_PG_putL {M : PM} {c : Nat} {S : ST} (x : Int64) (h : CS M c S) : Wm 110 [.ref c, .long x] M (fun v M' => v = some (.int (I (spPut x.toUInt64.toNat S).1)) ∧ Fr (inC c) M M' ∧ CS M' c (spPut x.toUInt64.toNat S).2) := by
  have k := c_PG_put (Lu_self x).1 h
  rw [← (Lu_self x).2] at k
  exact k
theorem c_Md_putL {M : PM} {m : Nat} {S : ST} (x : Int64) (h : MS M m S) : Wm 153 [.ref m, .long x] M (fun v M' => v = some (.int (I (spPut x.toUInt64.toNat S).1)) ∧ Fr (inM m) M M' ∧ MS M' m (spPut x.toUInt64.toNat S).2) := by
  have k := c_Md_put (Lu_self x).1 h
  rw [← (Lu_self x).2] at k
  exact k
variable {i : Int} {Q : Option Value → PM → Prop}
set_option maxRecDepth 20000 in
theorem law_tell (hL : L ≤ 1536) (hf : ∀ k, inR (f k)) (hi : 0 ≤ i ∧ i + 3 ≤ L) (h : LI M L z f S) (hk : ∀ (M' : PM) (S' : ST), LI M' L z f S' → Wp k_L_law (724, [(0, .ref 0), (1, .ref 1), (2, .ref 613), (3, .int (I i))], [], M') Q) : Wp k_L_law (148, [(0, .ref 0), (1, .ref 1), (2, .ref 613), (3, .int (I i))], [], M) Q := by
  obtain ⟨h1, h2, h3, h4, h5, h6⟩ := id h
  have hO := h2.1
  repeat (refine wf rfl ?_; first | refine wq_iadd ?_ | refine wq_isub ?_ | refine wq_imul ?_ | refine wq_iinc rfl ?_ | refine wq_goto ?_ | refine wq_k rfl ?_ | refine wq_b rfl rfl ?_ | refine wq_getf (by assumption) rfl ?_ | refine wq_alen (by assumption) rfl ?_)
  refine wf rfl (wq_cv rfl rfl rfl hO ((c_PG_tell  h2 h4.2.1).mono ?_))
  rintro v M1 ⟨rfl, f1, k1⟩
  obtain ⟨h11, m1⟩ := h.mid f1
  obtain ⟨si, re, sp, hO1⟩ := m1.1
  repeat (refine wf rfl ?_; first | refine wq_iadd ?_ | refine wq_isub ?_ | refine wq_imul ?_ | refine wq_iinc rfl ?_ | refine wq_goto ?_ | refine wq_k rfl ?_ | refine wq_b rfl rfl ?_ | refine wq_getf (by assumption) rfl ?_ | refine wq_alen (by assumption) rfl ?_)
  refine wf rfl (wq_cv rfl rfl rfl hO1 ((c_Md_tell  m1 h4.2.1).mono ?_))
  rintro v M2 ⟨rfl, f2, k2⟩
  refine wf rfl (wq_eqS ?_)
  exact hk M2 _ (h.two f1 k1 f2 k2 (OKS_tell h4 k1.wf))
set_option maxRecDepth 20000 in
theorem law_fold (hL : L ≤ 1536) (hf : ∀ k, inR (f k)) (hi : 0 ≤ i ∧ i + 3 ≤ L) (h : LI M L z f S) (hk : ∀ (M' : PM) (S' : ST), LI M' L z f S' → Wp k_L_law (724, [(0, .ref 0), (1, .ref 1), (2, .ref 613), (3, .int (I i))], [], M') Q) : Wp k_L_law (161, [(0, .ref 0), (1, .ref 1), (2, .ref 613), (3, .int (I i))], [], M) Q := by
  obtain ⟨h1, h2, h3, h4, h5, h6⟩ := id h
  have hO := h2.1
  repeat (refine wf rfl ?_; first | refine wq_iadd ?_ | refine wq_isub ?_ | refine wq_imul ?_ | refine wq_iinc rfl ?_ | refine wq_goto ?_ | refine wq_k rfl ?_ | refine wq_b rfl rfl ?_ | refine wq_getf (by assumption) rfl ?_ | refine wq_alen (by assumption) rfl ?_)
  refine wf rfl (wq_iald h1 ⟨by omega, by omega⟩ (by omega) (by omega) ?_)
  refine wf rfl (wq_cv rfl rfl rfl hO ((c_PG_fold (hf _) h2 ).mono ?_))
  rintro v M1 ⟨rfl, f1, k1⟩
  obtain ⟨h11, m1⟩ := h.mid f1
  obtain ⟨si, re, sp, hO1⟩ := m1.1
  repeat (refine wf rfl ?_; first | refine wq_iadd ?_ | refine wq_isub ?_ | refine wq_imul ?_ | refine wq_iinc rfl ?_ | refine wq_goto ?_ | refine wq_k rfl ?_ | refine wq_b rfl rfl ?_ | refine wq_getf (by assumption) rfl ?_ | refine wq_alen (by assumption) rfl ?_)
  refine wf rfl (wq_iald h11 ⟨by omega, by omega⟩ (by omega) (by omega) ?_)
  refine wf rfl (wq_cv rfl rfl rfl hO1 ((c_Md_fold (hf _) m1 h4.1.1).mono ?_))
  rintro v M2 ⟨rfl, f2, k2⟩
  refine wf rfl (wq_eqS ?_)
  exact hk M2 _ (h.two f1 k1 f2 k2 (OKS_fold h4 _))
set_option maxRecDepth 20000 in
theorem law_unroll (hL : L ≤ 1536) (hf : ∀ k, inR (f k)) (hi : 0 ≤ i ∧ i + 3 ≤ L) (h : LI M L z f S) (hk : ∀ (M' : PM) (S' : ST), LI M' L z f S' → Wp k_L_law (724, [(0, .ref 0), (1, .ref 1), (2, .ref 613), (3, .int (I i))], [], M') Q) : Wp k_L_law (184, [(0, .ref 0), (1, .ref 1), (2, .ref 613), (3, .int (I i))], [], M) Q := by
  obtain ⟨h1, h2, h3, h4, h5, h6⟩ := id h
  have hO := h2.1
  repeat (refine wf rfl ?_; first | refine wq_iadd ?_ | refine wq_isub ?_ | refine wq_imul ?_ | refine wq_iinc rfl ?_ | refine wq_goto ?_ | refine wq_k rfl ?_ | refine wq_b rfl rfl ?_ | refine wq_getf (by assumption) rfl ?_ | refine wq_alen (by assumption) rfl ?_)
  refine wf rfl (wq_iald h1 ⟨by omega, by omega⟩ (by omega) (by omega) ?_)
  refine wf rfl (wq_cv rfl rfl rfl hO ((c_PG_unroll (hf _) h2 ).mono ?_))
  rintro v M1 ⟨rfl, f1, k1⟩
  obtain ⟨h11, m1⟩ := h.mid f1
  obtain ⟨si, re, sp, hO1⟩ := m1.1
  repeat (refine wf rfl ?_; first | refine wq_iadd ?_ | refine wq_isub ?_ | refine wq_imul ?_ | refine wq_iinc rfl ?_ | refine wq_goto ?_ | refine wq_k rfl ?_ | refine wq_b rfl rfl ?_ | refine wq_getf (by assumption) rfl ?_ | refine wq_alen (by assumption) rfl ?_)
  refine wf rfl (wq_iald h11 ⟨by omega, by omega⟩ (by omega) (by omega) ?_)
  refine wf rfl (wq_cv rfl rfl rfl hO1 ((c_Md_unroll (hf _) m1 h4.1.1).mono ?_))
  rintro v M2 ⟨rfl, f2, k2⟩
  refine wf rfl (wq_eqS ?_)
  exact hk M2 _ (h.two f1 k1 f2 k2 (OKS_unroll h4 _))
set_option maxRecDepth 20000 in
theorem law_prune (hL : L ≤ 1536) (hf : ∀ k, inR (f k)) (hi : 0 ≤ i ∧ i + 3 ≤ L) (h : LI M L z f S) (hk : ∀ (M' : PM) (S' : ST), LI M' L z f S' → Wp k_L_law (724, [(0, .ref 0), (1, .ref 1), (2, .ref 613), (3, .int (I i))], [], M') Q) : Wp k_L_law (207, [(0, .ref 0), (1, .ref 1), (2, .ref 613), (3, .int (I i))], [], M) Q := by
  obtain ⟨h1, h2, h3, h4, h5, h6⟩ := id h
  have hO := h2.1
  repeat (refine wf rfl ?_; first | refine wq_iadd ?_ | refine wq_isub ?_ | refine wq_imul ?_ | refine wq_iinc rfl ?_ | refine wq_goto ?_ | refine wq_k rfl ?_ | refine wq_b rfl rfl ?_ | refine wq_getf (by assumption) rfl ?_ | refine wq_alen (by assumption) rfl ?_)
  refine wf rfl (wq_cv rfl rfl rfl hO ((c_PG_prune  h2 ).mono ?_))
  rintro v M1 ⟨rfl, f1, k1⟩
  obtain ⟨h11, m1⟩ := h.mid f1
  obtain ⟨si, re, sp, hO1⟩ := m1.1
  repeat (refine wf rfl ?_; first | refine wq_iadd ?_ | refine wq_isub ?_ | refine wq_imul ?_ | refine wq_iinc rfl ?_ | refine wq_goto ?_ | refine wq_k rfl ?_ | refine wq_b rfl rfl ?_ | refine wq_getf (by assumption) rfl ?_ | refine wq_alen (by assumption) rfl ?_)
  refine wf rfl (wq_cv rfl rfl rfl hO1 ((c_Md_prune  m1 h4.1.1).mono ?_))
  rintro v M2 ⟨rfl, f2, k2⟩
  refine wf rfl (wq_eqS ?_)
  exact hk M2 _ (h.two f1 k1 f2 k2 (OKS_prune h4))
set_option maxRecDepth 20000 in
theorem law_edit (hL : L ≤ 1536) (hf : ∀ k, inR (f k)) (hi : 0 ≤ i ∧ i + 3 ≤ L) (h : LI M L z f S) (hk : ∀ (M' : PM) (S' : ST), LI M' L z f S' → Wp k_L_law (724, [(0, .ref 0), (1, .ref 1), (2, .ref 613), (3, .int (I i))], [], M') Q) : Wp k_L_law (220, [(0, .ref 0), (1, .ref 1), (2, .ref 613), (3, .int (I i))], [], M) Q := by
  obtain ⟨h1, h2, h3, h4, h5, h6⟩ := id h
  have hO := h2.1
  repeat (refine wf rfl ?_; first | refine wq_iadd ?_ | refine wq_isub ?_ | refine wq_imul ?_ | refine wq_iinc rfl ?_ | refine wq_goto ?_ | refine wq_k rfl ?_ | refine wq_b rfl rfl ?_ | refine wq_getf (by assumption) rfl ?_ | refine wq_alen (by assumption) rfl ?_)
  refine wf rfl (wq_iald h1 ⟨by omega, by omega⟩ (by omega) (by omega) ?_)
  repeat (refine wf rfl ?_; first | refine wq_iadd ?_ | refine wq_isub ?_ | refine wq_imul ?_ | refine wq_iinc rfl ?_ | refine wq_goto ?_ | refine wq_k rfl ?_ | refine wq_b rfl rfl ?_ | refine wq_getf (by assumption) rfl ?_ | refine wq_alen (by assumption) rfl ?_)
  refine wf rfl (wq_iald h1 ⟨by omega, by omega⟩ (by omega) (by omega) ?_)
  refine wf rfl (wq_cv rfl rfl rfl hO ((c_PG_edit (hf _) (hf _) h2 ).mono ?_))
  rintro v M1 ⟨rfl, f1, k1⟩
  obtain ⟨h11, m1⟩ := h.mid f1
  obtain ⟨si, re, sp, hO1⟩ := m1.1
  repeat (refine wf rfl ?_; first | refine wq_iadd ?_ | refine wq_isub ?_ | refine wq_imul ?_ | refine wq_iinc rfl ?_ | refine wq_goto ?_ | refine wq_k rfl ?_ | refine wq_b rfl rfl ?_ | refine wq_getf (by assumption) rfl ?_ | refine wq_alen (by assumption) rfl ?_)
  refine wf rfl (wq_iald h11 ⟨by omega, by omega⟩ (by omega) (by omega) ?_)
  repeat (refine wf rfl ?_; first | refine wq_iadd ?_ | refine wq_isub ?_ | refine wq_imul ?_ | refine wq_iinc rfl ?_ | refine wq_goto ?_ | refine wq_k rfl ?_ | refine wq_b rfl rfl ?_ | refine wq_getf (by assumption) rfl ?_ | refine wq_alen (by assumption) rfl ?_)
  refine wf rfl (wq_iald h11 ⟨by omega, by omega⟩ (by omega) (by omega) ?_)
  refine wf rfl (wq_cv rfl rfl rfl hO1 ((c_Md_edit (hf _) (hf _) m1 h4.1.1).mono ?_))
  rintro v M2 ⟨rfl, f2, k2⟩
  refine wf rfl (wq_eqS ?_)
  exact hk M2 _ (h.two f1 k1 f2 k2 (OKS_edit h4 k1.wf))
set_option maxRecDepth 20000 in
theorem law_insert (hL : L ≤ 1536) (hf : ∀ k, inR (f k)) (hi : 0 ≤ i ∧ i + 3 ≤ L) (h : LI M L z f S) (hk : ∀ (M' : PM) (S' : ST), LI M' L z f S' → Wp k_L_law (724, [(0, .ref 0), (1, .ref 1), (2, .ref 613), (3, .int (I i))], [], M') Q) : Wp k_L_law (253, [(0, .ref 0), (1, .ref 1), (2, .ref 613), (3, .int (I i))], [], M) Q := by
  obtain ⟨h1, h2, h3, h4, h5, h6⟩ := id h
  have hO := h2.1
  repeat (refine wf rfl ?_; first | refine wq_iadd ?_ | refine wq_isub ?_ | refine wq_imul ?_ | refine wq_iinc rfl ?_ | refine wq_goto ?_ | refine wq_k rfl ?_ | refine wq_b rfl rfl ?_ | refine wq_getf (by assumption) rfl ?_ | refine wq_alen (by assumption) rfl ?_)
  refine wf rfl (wq_iald h1 ⟨by omega, by omega⟩ (by omega) (by omega) ?_)
  repeat (refine wf rfl ?_; first | refine wq_iadd ?_ | refine wq_isub ?_ | refine wq_imul ?_ | refine wq_iinc rfl ?_ | refine wq_goto ?_ | refine wq_k rfl ?_ | refine wq_b rfl rfl ?_ | refine wq_getf (by assumption) rfl ?_ | refine wq_alen (by assumption) rfl ?_)
  refine wf rfl (wq_iald h1 ⟨by omega, by omega⟩ (by omega) (by omega) ?_)
  refine wf rfl (wq_cv rfl rfl rfl hO ((c_PG_insert (hf _) (hf _) h2 h4.1).mono ?_))
  rintro v M1 ⟨rfl, f1, k1⟩
  obtain ⟨h11, m1⟩ := h.mid f1
  obtain ⟨si, re, sp, hO1⟩ := m1.1
  repeat (refine wf rfl ?_; first | refine wq_iadd ?_ | refine wq_isub ?_ | refine wq_imul ?_ | refine wq_iinc rfl ?_ | refine wq_goto ?_ | refine wq_k rfl ?_ | refine wq_b rfl rfl ?_ | refine wq_getf (by assumption) rfl ?_ | refine wq_alen (by assumption) rfl ?_)
  refine wf rfl (wq_iald h11 ⟨by omega, by omega⟩ (by omega) (by omega) ?_)
  repeat (refine wf rfl ?_; first | refine wq_iadd ?_ | refine wq_isub ?_ | refine wq_imul ?_ | refine wq_iinc rfl ?_ | refine wq_goto ?_ | refine wq_k rfl ?_ | refine wq_b rfl rfl ?_ | refine wq_getf (by assumption) rfl ?_ | refine wq_alen (by assumption) rfl ?_)
  refine wf rfl (wq_iald h11 ⟨by omega, by omega⟩ (by omega) (by omega) ?_)
  refine wf rfl (wq_cv rfl rfl rfl hO1 ((c_Md_insert (hf _) (hf _) m1 h4.1.1 h4.1.2.1).mono ?_))
  rintro v M2 ⟨rfl, f2, k2⟩
  refine wf rfl (wq_eqS ?_)
  exact hk M2 _ (h.two f1 k1 f2 k2 (OKS_insert h4 k1.wf))
set_option maxRecDepth 20000 in
theorem law_delete (hL : L ≤ 1536) (hf : ∀ k, inR (f k)) (hi : 0 ≤ i ∧ i + 3 ≤ L) (h : LI M L z f S) (hk : ∀ (M' : PM) (S' : ST), LI M' L z f S' → Wp k_L_law (724, [(0, .ref 0), (1, .ref 1), (2, .ref 613), (3, .int (I i))], [], M') Q) : Wp k_L_law (286, [(0, .ref 0), (1, .ref 1), (2, .ref 613), (3, .int (I i))], [], M) Q := by
  obtain ⟨h1, h2, h3, h4, h5, h6⟩ := id h
  have hO := h2.1
  repeat (refine wf rfl ?_; first | refine wq_iadd ?_ | refine wq_isub ?_ | refine wq_imul ?_ | refine wq_iinc rfl ?_ | refine wq_goto ?_ | refine wq_k rfl ?_ | refine wq_b rfl rfl ?_ | refine wq_getf (by assumption) rfl ?_ | refine wq_alen (by assumption) rfl ?_)
  refine wf rfl (wq_iald h1 ⟨by omega, by omega⟩ (by omega) (by omega) ?_)
  refine wf rfl (wq_cv rfl rfl rfl hO ((c_PG_delete (hf _) h2 ).mono ?_))
  rintro v M1 ⟨rfl, f1, k1⟩
  obtain ⟨h11, m1⟩ := h.mid f1
  obtain ⟨si, re, sp, hO1⟩ := m1.1
  repeat (refine wf rfl ?_; first | refine wq_iadd ?_ | refine wq_isub ?_ | refine wq_imul ?_ | refine wq_iinc rfl ?_ | refine wq_goto ?_ | refine wq_k rfl ?_ | refine wq_b rfl rfl ?_ | refine wq_getf (by assumption) rfl ?_ | refine wq_alen (by assumption) rfl ?_)
  refine wf rfl (wq_iald h11 ⟨by omega, by omega⟩ (by omega) (by omega) ?_)
  refine wf rfl (wq_cv rfl rfl rfl hO1 ((c_Md_delete (hf _) m1 h4.1.1).mono ?_))
  rintro v M2 ⟨rfl, f2, k2⟩
  refine wf rfl (wq_eqS ?_)
  exact hk M2 _ (h.two f1 k1 f2 k2 (OKS_delete h4 k1.wf))
set_option maxRecDepth 20000 in
theorem law_letter (hL : L ≤ 1536) (hf : ∀ k, inR (f k)) (hi : 0 ≤ i ∧ i + 3 ≤ L) (h : LI M L z f S) (hk : ∀ (M' : PM) (S' : ST), LI M' L z f S' → Wp k_L_law (724, [(0, .ref 0), (1, .ref 1), (2, .ref 613), (3, .int (I i))], [], M') Q) : Wp k_L_law (309, [(0, .ref 0), (1, .ref 1), (2, .ref 613), (3, .int (I i))], [], M) Q := by
  obtain ⟨h1, h2, h3, h4, h5, h6⟩ := id h
  have hO := h2.1
  repeat (refine wf rfl ?_; first | refine wq_iadd ?_ | refine wq_isub ?_ | refine wq_imul ?_ | refine wq_iinc rfl ?_ | refine wq_goto ?_ | refine wq_k rfl ?_ | refine wq_b rfl rfl ?_ | refine wq_getf (by assumption) rfl ?_ | refine wq_alen (by assumption) rfl ?_)
  refine wf rfl (wq_iald h1 ⟨by omega, by omega⟩ (by omega) (by omega) ?_)
  refine wf rfl (wq_cv rfl rfl rfl hO ((c_PG_letter (hf _) h2 ).mono ?_))
  rintro v M1 ⟨rfl, f1, k1⟩
  obtain ⟨h11, m1⟩ := h.mid f1
  obtain ⟨si, re, sp, hO1⟩ := m1.1
  repeat (refine wf rfl ?_; first | refine wq_iadd ?_ | refine wq_isub ?_ | refine wq_imul ?_ | refine wq_iinc rfl ?_ | refine wq_goto ?_ | refine wq_k rfl ?_ | refine wq_b rfl rfl ?_ | refine wq_getf (by assumption) rfl ?_ | refine wq_alen (by assumption) rfl ?_)
  refine wf rfl (wq_iald h11 ⟨by omega, by omega⟩ (by omega) (by omega) ?_)
  refine wf rfl (wq_cv rfl rfl rfl hO1 ((c_Md_letterS (hf _) m1 h4.1.1).mono ?_))
  rintro v M2 ⟨rfl, f2, k2⟩
  refine wf rfl (wq_eqS ?_)
  exact hk M2 _ (h.two f1 k1 f2 k2 (h4))
set_option maxRecDepth 20000 in
theorem law_symbol (hL : L ≤ 1536) (hf : ∀ k, inR (f k)) (hi : 0 ≤ i ∧ i + 3 ≤ L) (h : LI M L z f S) (hk : ∀ (M' : PM) (S' : ST), LI M' L z f S' → Wp k_L_law (724, [(0, .ref 0), (1, .ref 1), (2, .ref 613), (3, .int (I i))], [], M') Q) : Wp k_L_law (332, [(0, .ref 0), (1, .ref 1), (2, .ref 613), (3, .int (I i))], [], M) Q := by
  obtain ⟨h1, h2, h3, h4, h5, h6⟩ := id h
  have hO := h2.1
  repeat (refine wf rfl ?_; first | refine wq_iadd ?_ | refine wq_isub ?_ | refine wq_imul ?_ | refine wq_iinc rfl ?_ | refine wq_goto ?_ | refine wq_k rfl ?_ | refine wq_b rfl rfl ?_ | refine wq_getf (by assumption) rfl ?_ | refine wq_alen (by assumption) rfl ?_)
  refine wf rfl (wq_iald h1 ⟨by omega, by omega⟩ (by omega) (by omega) ?_)
  repeat (refine wf rfl ?_; first | refine wq_iadd ?_ | refine wq_isub ?_ | refine wq_imul ?_ | refine wq_iinc rfl ?_ | refine wq_goto ?_ | refine wq_k rfl ?_ | refine wq_b rfl rfl ?_ | refine wq_getf (by assumption) rfl ?_ | refine wq_alen (by assumption) rfl ?_)
  refine wf rfl (wq_iald h1 ⟨by omega, by omega⟩ (by omega) (by omega) ?_)
  refine wf rfl (wq_cv rfl rfl rfl hO ((c_PG_symbol (hf _) (hf _) h2 ).mono ?_))
  rintro v M1 ⟨rfl, f1, k1⟩
  obtain ⟨h11, m1⟩ := h.mid f1
  obtain ⟨si, re, sp, hO1⟩ := m1.1
  repeat (refine wf rfl ?_; first | refine wq_iadd ?_ | refine wq_isub ?_ | refine wq_imul ?_ | refine wq_iinc rfl ?_ | refine wq_goto ?_ | refine wq_k rfl ?_ | refine wq_b rfl rfl ?_ | refine wq_getf (by assumption) rfl ?_ | refine wq_alen (by assumption) rfl ?_)
  refine wf rfl (wq_iald h11 ⟨by omega, by omega⟩ (by omega) (by omega) ?_)
  repeat (refine wf rfl ?_; first | refine wq_iadd ?_ | refine wq_isub ?_ | refine wq_imul ?_ | refine wq_iinc rfl ?_ | refine wq_goto ?_ | refine wq_k rfl ?_ | refine wq_b rfl rfl ?_ | refine wq_getf (by assumption) rfl ?_ | refine wq_alen (by assumption) rfl ?_)
  refine wf rfl (wq_iald h11 ⟨by omega, by omega⟩ (by omega) (by omega) ?_)
  refine wf rfl (wq_cv rfl rfl rfl hO1 ((c_Md_symbol (hf _) (hf _) m1 h4.1.1).mono ?_))
  rintro v M2 ⟨rfl, f2, k2⟩
  refine wf rfl (wq_eqS ?_)
  exact hk M2 _ (h.two f1 k1 f2 k2 (h4))
set_option maxRecDepth 20000 in
theorem law_ofRule (hL : L ≤ 1536) (hf : ∀ k, inR (f k)) (hi : 0 ≤ i ∧ i + 3 ≤ L) (h : LI M L z f S) (hk : ∀ (M' : PM) (S' : ST), LI M' L z f S' → Wp k_L_law (724, [(0, .ref 0), (1, .ref 1), (2, .ref 613), (3, .int (I i))], [], M') Q) : Wp k_L_law (365, [(0, .ref 0), (1, .ref 1), (2, .ref 613), (3, .int (I i))], [], M) Q := by
  obtain ⟨h1, h2, h3, h4, h5, h6⟩ := id h
  have hO := h2.1
  repeat (refine wf rfl ?_; first | refine wq_iadd ?_ | refine wq_isub ?_ | refine wq_imul ?_ | refine wq_iinc rfl ?_ | refine wq_goto ?_ | refine wq_k rfl ?_ | refine wq_b rfl rfl ?_ | refine wq_getf (by assumption) rfl ?_ | refine wq_alen (by assumption) rfl ?_)
  refine wf rfl (wq_iald h1 ⟨by omega, by omega⟩ (by omega) (by omega) ?_)
  repeat (refine wf rfl ?_; first | refine wq_iadd ?_ | refine wq_isub ?_ | refine wq_imul ?_ | refine wq_iinc rfl ?_ | refine wq_goto ?_ | refine wq_k rfl ?_ | refine wq_b rfl rfl ?_ | refine wq_getf (by assumption) rfl ?_ | refine wq_alen (by assumption) rfl ?_)
  refine wf rfl (wq_iald h1 ⟨by omega, by omega⟩ (by omega) (by omega) ?_)
  refine wf rfl (wq_cv rfl rfl rfl hO ((c_PG_ofRule (hf _) (hf _) h2 ).mono ?_))
  rintro v M1 ⟨rfl, f1, k1⟩
  obtain ⟨h11, m1⟩ := h.mid f1
  obtain ⟨si, re, sp, hO1⟩ := m1.1
  repeat (refine wf rfl ?_; first | refine wq_iadd ?_ | refine wq_isub ?_ | refine wq_imul ?_ | refine wq_iinc rfl ?_ | refine wq_goto ?_ | refine wq_k rfl ?_ | refine wq_b rfl rfl ?_ | refine wq_getf (by assumption) rfl ?_ | refine wq_alen (by assumption) rfl ?_)
  refine wf rfl (wq_iald h11 ⟨by omega, by omega⟩ (by omega) (by omega) ?_)
  repeat (refine wf rfl ?_; first | refine wq_iadd ?_ | refine wq_isub ?_ | refine wq_imul ?_ | refine wq_iinc rfl ?_ | refine wq_goto ?_ | refine wq_k rfl ?_ | refine wq_b rfl rfl ?_ | refine wq_getf (by assumption) rfl ?_ | refine wq_alen (by assumption) rfl ?_)
  refine wf rfl (wq_iald h11 ⟨by omega, by omega⟩ (by omega) (by omega) ?_)
  refine wf rfl (wq_cv rfl rfl rfl hO1 ((c_Md_ofRule (hf _) (hf _) m1 h4.1.1).mono ?_))
  rintro v M2 ⟨rfl, f2, k2⟩
  refine wf rfl (wq_eqS ?_)
  exact hk M2 _ (h.two f1 k1 f2 k2 (h4))
set_option maxRecDepth 20000 in
theorem law_count (hL : L ≤ 1536) (hf : ∀ k, inR (f k)) (hi : 0 ≤ i ∧ i + 3 ≤ L) (h : LI M L z f S) (hk : ∀ (M' : PM) (S' : ST), LI M' L z f S' → Wp k_L_law (724, [(0, .ref 0), (1, .ref 1), (2, .ref 613), (3, .int (I i))], [], M') Q) : Wp k_L_law (398, [(0, .ref 0), (1, .ref 1), (2, .ref 613), (3, .int (I i))], [], M) Q := by
  obtain ⟨h1, h2, h3, h4, h5, h6⟩ := id h
  have hO := h2.1
  repeat (refine wf rfl ?_; first | refine wq_iadd ?_ | refine wq_isub ?_ | refine wq_imul ?_ | refine wq_iinc rfl ?_ | refine wq_goto ?_ | refine wq_k rfl ?_ | refine wq_b rfl rfl ?_ | refine wq_getf (by assumption) rfl ?_ | refine wq_alen (by assumption) rfl ?_)
  refine wf rfl (wq_iald h1 ⟨by omega, by omega⟩ (by omega) (by omega) ?_)
  refine wf rfl (wq_cv rfl rfl rfl hO ((c_PG_count (hf _) h2 ).mono ?_))
  rintro v M1 ⟨rfl, f1, k1⟩
  obtain ⟨h11, m1⟩ := h.mid f1
  obtain ⟨si, re, sp, hO1⟩ := m1.1
  repeat (refine wf rfl ?_; first | refine wq_iadd ?_ | refine wq_isub ?_ | refine wq_imul ?_ | refine wq_iinc rfl ?_ | refine wq_goto ?_ | refine wq_k rfl ?_ | refine wq_b rfl rfl ?_ | refine wq_getf (by assumption) rfl ?_ | refine wq_alen (by assumption) rfl ?_)
  refine wf rfl (wq_iald h11 ⟨by omega, by omega⟩ (by omega) (by omega) ?_)
  refine wf rfl (wq_cv rfl rfl rfl hO1 ((c_Md_count (hf _) m1 h4.1.1).mono ?_))
  rintro v M2 ⟨rfl, f2, k2⟩
  refine wf rfl (wq_eqS ?_)
  exact hk M2 _ (h.two f1 k1 f2 k2 (h4))
set_option maxRecDepth 20000 in
theorem law_pair (hL : L ≤ 1536) (hf : ∀ k, inR (f k)) (hi : 0 ≤ i ∧ i + 3 ≤ L) (h : LI M L z f S) (hk : ∀ (M' : PM) (S' : ST), LI M' L z f S' → Wp k_L_law (724, [(0, .ref 0), (1, .ref 1), (2, .ref 613), (3, .int (I i))], [], M') Q) : Wp k_L_law (421, [(0, .ref 0), (1, .ref 1), (2, .ref 613), (3, .int (I i))], [], M) Q := by
  obtain ⟨h1, h2, h3, h4, h5, h6⟩ := id h
  have hO := h2.1
  repeat (refine wf rfl ?_; first | refine wq_iadd ?_ | refine wq_isub ?_ | refine wq_imul ?_ | refine wq_iinc rfl ?_ | refine wq_goto ?_ | refine wq_k rfl ?_ | refine wq_b rfl rfl ?_ | refine wq_getf (by assumption) rfl ?_ | refine wq_alen (by assumption) rfl ?_)
  refine wf rfl (wq_iald h1 ⟨by omega, by omega⟩ (by omega) (by omega) ?_)
  repeat (refine wf rfl ?_; first | refine wq_iadd ?_ | refine wq_isub ?_ | refine wq_imul ?_ | refine wq_iinc rfl ?_ | refine wq_goto ?_ | refine wq_k rfl ?_ | refine wq_b rfl rfl ?_ | refine wq_getf (by assumption) rfl ?_ | refine wq_alen (by assumption) rfl ?_)
  refine wf rfl (wq_iald h1 ⟨by omega, by omega⟩ (by omega) (by omega) ?_)
  refine wf rfl (wq_cv rfl rfl rfl hO ((c_PG_pair (hf _) (hf _) h2 ).mono ?_))
  rintro v M1 ⟨rfl, f1, k1⟩
  obtain ⟨h11, m1⟩ := h.mid f1
  obtain ⟨si, re, sp, hO1⟩ := m1.1
  repeat (refine wf rfl ?_; first | refine wq_iadd ?_ | refine wq_isub ?_ | refine wq_imul ?_ | refine wq_iinc rfl ?_ | refine wq_goto ?_ | refine wq_k rfl ?_ | refine wq_b rfl rfl ?_ | refine wq_getf (by assumption) rfl ?_ | refine wq_alen (by assumption) rfl ?_)
  refine wf rfl (wq_iald h11 ⟨by omega, by omega⟩ (by omega) (by omega) ?_)
  repeat (refine wf rfl ?_; first | refine wq_iadd ?_ | refine wq_isub ?_ | refine wq_imul ?_ | refine wq_iinc rfl ?_ | refine wq_goto ?_ | refine wq_k rfl ?_ | refine wq_b rfl rfl ?_ | refine wq_getf (by assumption) rfl ?_ | refine wq_alen (by assumption) rfl ?_)
  refine wf rfl (wq_iald h11 ⟨by omega, by omega⟩ (by omega) (by omega) ?_)
  refine wf rfl (wq_cv rfl rfl rfl hO1 ((c_Md_pair (hf _) (hf _) m1 h4.1.1).mono ?_))
  rintro v M2 ⟨rfl, f2, k2⟩
  refine wf rfl (wq_eqS ?_)
  exact hk M2 _ (h.two f1 k1 f2 k2 (h4))
set_option maxRecDepth 20000 in
theorem law_best (hL : L ≤ 1536) (hf : ∀ k, inR (f k)) (hi : 0 ≤ i ∧ i + 3 ≤ L) (h : LI M L z f S) (hk : ∀ (M' : PM) (S' : ST), LI M' L z f S' → Wp k_L_law (724, [(0, .ref 0), (1, .ref 1), (2, .ref 613), (3, .int (I i))], [], M') Q) : Wp k_L_law (454, [(0, .ref 0), (1, .ref 1), (2, .ref 613), (3, .int (I i))], [], M) Q := by
  obtain ⟨h1, h2, h3, h4, h5, h6⟩ := id h
  have hO := h2.1
  repeat (refine wf rfl ?_; first | refine wq_iadd ?_ | refine wq_isub ?_ | refine wq_imul ?_ | refine wq_iinc rfl ?_ | refine wq_goto ?_ | refine wq_k rfl ?_ | refine wq_b rfl rfl ?_ | refine wq_getf (by assumption) rfl ?_ | refine wq_alen (by assumption) rfl ?_)
  refine wf rfl (wq_iald h1 ⟨by omega, by omega⟩ (by omega) (by omega) ?_)
  refine wf rfl (wq_cv rfl rfl rfl hO ((c_PG_best (hf _) h2 ).mono ?_))
  rintro v M1 ⟨rfl, f1, k1⟩
  obtain ⟨h11, m1⟩ := h.mid f1
  obtain ⟨si, re, sp, hO1⟩ := m1.1
  repeat (refine wf rfl ?_; first | refine wq_iadd ?_ | refine wq_isub ?_ | refine wq_imul ?_ | refine wq_iinc rfl ?_ | refine wq_goto ?_ | refine wq_k rfl ?_ | refine wq_b rfl rfl ?_ | refine wq_getf (by assumption) rfl ?_ | refine wq_alen (by assumption) rfl ?_)
  refine wf rfl (wq_iald h11 ⟨by omega, by omega⟩ (by omega) (by omega) ?_)
  refine wf rfl (wq_cv rfl rfl rfl hO1 ((c_Md_best (hf _) m1 h4.1.1).mono ?_))
  rintro v M2 ⟨rfl, f2, k2⟩
  refine wf rfl (wq_eqS ?_)
  exact hk M2 _ (h.two f1 k1 f2 k2 (h4))
set_option maxRecDepth 20000 in
theorem law_ratio (hL : L ≤ 1536) (hf : ∀ k, inR (f k)) (hi : 0 ≤ i ∧ i + 3 ≤ L) (h : LI M L z f S) (hk : ∀ (M' : PM) (S' : ST), LI M' L z f S' → Wp k_L_law (724, [(0, .ref 0), (1, .ref 1), (2, .ref 613), (3, .int (I i))], [], M') Q) : Wp k_L_law (477, [(0, .ref 0), (1, .ref 1), (2, .ref 613), (3, .int (I i))], [], M) Q := by
  obtain ⟨h1, h2, h3, h4, h5, h6⟩ := id h
  have hO := h2.1
  repeat (refine wf rfl ?_; first | refine wq_iadd ?_ | refine wq_isub ?_ | refine wq_imul ?_ | refine wq_iinc rfl ?_ | refine wq_goto ?_ | refine wq_k rfl ?_ | refine wq_b rfl rfl ?_ | refine wq_getf (by assumption) rfl ?_ | refine wq_alen (by assumption) rfl ?_)
  refine wf rfl (wq_cv rfl rfl rfl hO ((c_PG_ratio  h2 h4.1).mono ?_))
  rintro v M1 ⟨rfl, f1, k1⟩
  obtain ⟨h11, m1⟩ := h.mid f1
  obtain ⟨si, re, sp, hO1⟩ := m1.1
  repeat (refine wf rfl ?_; first | refine wq_iadd ?_ | refine wq_isub ?_ | refine wq_imul ?_ | refine wq_iinc rfl ?_ | refine wq_goto ?_ | refine wq_k rfl ?_ | refine wq_b rfl rfl ?_ | refine wq_getf (by assumption) rfl ?_ | refine wq_alen (by assumption) rfl ?_)
  refine wf rfl (wq_cv rfl rfl rfl hO1 ((c_Md_ratio  m1 h4.1).mono ?_))
  rintro v M2 ⟨rfl, f2, k2⟩
  refine wf rfl (wq_lcmp (fun z9 hz9 => ?_))
  have e0 : z9 = 0 := by omega
  subst e0
  refine wf rfl (wq_ifeq ⟨by omega, by omega⟩ (fun _ => ?_) (fun c9 => absurd rfl c9))
  exact hk M2 _ (h.two f1 k1 f2 k2 (h4))
set_option maxRecDepth 20000 in
theorem law_share (hL : L ≤ 1536) (hf : ∀ k, inR (f k)) (hi : 0 ≤ i ∧ i + 3 ≤ L) (h : LI M L z f S) (hk : ∀ (M' : PM) (S' : ST), LI M' L z f S' → Wp k_L_law (724, [(0, .ref 0), (1, .ref 1), (2, .ref 613), (3, .int (I i))], [], M') Q) : Wp k_L_law (491, [(0, .ref 0), (1, .ref 1), (2, .ref 613), (3, .int (I i))], [], M) Q := by
  obtain ⟨h1, h2, h3, h4, h5, h6⟩ := id h
  have hO := h2.1
  repeat (refine wf rfl ?_; first | refine wq_iadd ?_ | refine wq_isub ?_ | refine wq_imul ?_ | refine wq_iinc rfl ?_ | refine wq_goto ?_ | refine wq_k rfl ?_ | refine wq_b rfl rfl ?_ | refine wq_getf (by assumption) rfl ?_ | refine wq_alen (by assumption) rfl ?_)
  refine wf rfl (wq_iald h1 ⟨by omega, by omega⟩ (by omega) (by omega) ?_)
  refine wf rfl (wq_cv rfl rfl rfl hO ((c_PG_share (hf _) h2 h4.1).mono ?_))
  rintro v M1 ⟨rfl, f1, k1⟩
  obtain ⟨h11, m1⟩ := h.mid f1
  obtain ⟨si, re, sp, hO1⟩ := m1.1
  repeat (refine wf rfl ?_; first | refine wq_iadd ?_ | refine wq_isub ?_ | refine wq_imul ?_ | refine wq_iinc rfl ?_ | refine wq_goto ?_ | refine wq_k rfl ?_ | refine wq_b rfl rfl ?_ | refine wq_getf (by assumption) rfl ?_ | refine wq_alen (by assumption) rfl ?_)
  refine wf rfl (wq_iald h11 ⟨by omega, by omega⟩ (by omega) (by omega) ?_)
  refine wf rfl (wq_cv rfl rfl rfl hO1 ((c_Md_share (hf _) m1 h4.1).mono ?_))
  rintro v M2 ⟨rfl, f2, k2⟩
  refine wf rfl (wq_eqS ?_)
  exact hk M2 _ (h.two f1 k1 f2 k2 (h4))
set_option maxRecDepth 20000 in
theorem law_mark (hL : L ≤ 1536) (hf : ∀ k, inR (f k)) (hi : 0 ≤ i ∧ i + 3 ≤ L) (h : LI M L z f S) (hk : ∀ (M' : PM) (S' : ST), LI M' L z f S' → Wp k_L_law (724, [(0, .ref 0), (1, .ref 1), (2, .ref 613), (3, .int (I i))], [], M') Q) : Wp k_L_law (514, [(0, .ref 0), (1, .ref 1), (2, .ref 613), (3, .int (I i))], [], M) Q := by
  obtain ⟨h1, h2, h3, h4, h5, h6⟩ := id h
  have hO := h2.1
  repeat (refine wf rfl ?_; first | refine wq_iadd ?_ | refine wq_isub ?_ | refine wq_imul ?_ | refine wq_iinc rfl ?_ | refine wq_goto ?_ | refine wq_k rfl ?_ | refine wq_b rfl rfl ?_ | refine wq_getf (by assumption) rfl ?_ | refine wq_alen (by assumption) rfl ?_)
  refine wf rfl (wq_cv rfl rfl rfl hO ((c_PG_mark  h2 ).mono ?_))
  rintro v M1 ⟨rfl, f1, k1⟩
  obtain ⟨h11, m1⟩ := h.mid f1
  obtain ⟨si, re, sp, hO1⟩ := m1.1
  repeat (refine wf rfl ?_; first | refine wq_iadd ?_ | refine wq_isub ?_ | refine wq_imul ?_ | refine wq_iinc rfl ?_ | refine wq_goto ?_ | refine wq_k rfl ?_ | refine wq_b rfl rfl ?_ | refine wq_getf (by assumption) rfl ?_ | refine wq_alen (by assumption) rfl ?_)
  refine wf rfl (wq_cv rfl rfl rfl hO1 ((c_Md_mark  m1 h4.1).mono ?_))
  rintro v M2 ⟨rfl, f2, k2⟩
  refine wf rfl (wq_eqS ?_)
  exact hk M2 _ (h.two f1 k1 f2 k2 (h4))
set_option maxRecDepth 20000 in
theorem law_couldBe (hL : L ≤ 1536) (hf : ∀ k, inR (f k)) (hi : 0 ≤ i ∧ i + 3 ≤ L) (h : LI M L z f S) (hk : ∀ (M' : PM) (S' : ST), LI M' L z f S' → Wp k_L_law (724, [(0, .ref 0), (1, .ref 1), (2, .ref 613), (3, .int (I i))], [], M') Q) : Wp k_L_law (527, [(0, .ref 0), (1, .ref 1), (2, .ref 613), (3, .int (I i))], [], M) Q := by
  obtain ⟨h1, h2, h3, h4, h5, h6⟩ := id h
  have hO := h2.1
  repeat (refine wf rfl ?_; first | refine wq_iadd ?_ | refine wq_isub ?_ | refine wq_imul ?_ | refine wq_iinc rfl ?_ | refine wq_goto ?_ | refine wq_k rfl ?_ | refine wq_b rfl rfl ?_ | refine wq_getf (by assumption) rfl ?_ | refine wq_alen (by assumption) rfl ?_)
  refine wf rfl (wq_cv rfl rfl rfl hO ((c_PG_couldBe  h2 ).mono ?_))
  rintro v M1 ⟨rfl, f1, k1⟩
  obtain ⟨h11, m1⟩ := h.mid f1
  obtain ⟨si, re, sp, hO1⟩ := m1.1
  repeat (refine wf rfl ?_; first | refine wq_iadd ?_ | refine wq_isub ?_ | refine wq_imul ?_ | refine wq_iinc rfl ?_ | refine wq_goto ?_ | refine wq_k rfl ?_ | refine wq_b rfl rfl ?_ | refine wq_getf (by assumption) rfl ?_ | refine wq_alen (by assumption) rfl ?_)
  refine wf rfl (wq_cv rfl rfl rfl hO1 ((c_Md_couldBe  m1 h4.1.1).mono ?_))
  rintro v M2 ⟨rfl, f2, k2⟩
  refine wf rfl (wq_eqS ?_)
  exact hk M2 _ (h.two f1 k1 f2 k2 (h4))
set_option maxRecDepth 20000 in
theorem law_unlike (hL : L ≤ 1536) (hf : ∀ k, inR (f k)) (hi : 0 ≤ i ∧ i + 3 ≤ L) (h : LI M L z f S) (hk : ∀ (M' : PM) (S' : ST), LI M' L z f S' → Wp k_L_law (724, [(0, .ref 0), (1, .ref 1), (2, .ref 613), (3, .int (I i))], [], M') Q) : Wp k_L_law (540, [(0, .ref 0), (1, .ref 1), (2, .ref 613), (3, .int (I i))], [], M) Q := by
  obtain ⟨h1, h2, h3, h4, h5, h6⟩ := id h
  have hO := h2.1
  repeat (refine wf rfl ?_; first | refine wq_iadd ?_ | refine wq_isub ?_ | refine wq_imul ?_ | refine wq_iinc rfl ?_ | refine wq_goto ?_ | refine wq_k rfl ?_ | refine wq_b rfl rfl ?_ | refine wq_getf (by assumption) rfl ?_ | refine wq_alen (by assumption) rfl ?_)
  refine wf rfl (wq_iald h1 ⟨by omega, by omega⟩ (by omega) (by omega) ?_)
  refine wf rfl (wq_cv rfl rfl rfl hO ((c_PG_unlike (hf _) h2 h4).mono ?_))
  rintro v M1 ⟨rfl, f1, k1⟩
  obtain ⟨h11, m1⟩ := h.mid f1
  obtain ⟨si, re, sp, hO1⟩ := m1.1
  repeat (refine wf rfl ?_; first | refine wq_iadd ?_ | refine wq_isub ?_ | refine wq_imul ?_ | refine wq_iinc rfl ?_ | refine wq_goto ?_ | refine wq_k rfl ?_ | refine wq_b rfl rfl ?_ | refine wq_getf (by assumption) rfl ?_ | refine wq_alen (by assumption) rfl ?_)
  refine wf rfl (wq_iald h11 ⟨by omega, by omega⟩ (by omega) (by omega) ?_)
  refine wf rfl (wq_cv rfl rfl rfl hO1 ((c_Md_unlike (hf _) m1 h4).mono ?_))
  rintro v M2 ⟨rfl, f2, k2⟩
  refine wf rfl (wq_eqS ?_)
  exact hk M2 _ (h.two f1 k1 f2 k2 (h4))
set_option maxRecDepth 20000 in
theorem law_opens (hL : L ≤ 1536) (hf : ∀ k, inR (f k)) (hi : 0 ≤ i ∧ i + 3 ≤ L) (h : LI M L z f S) (hk : ∀ (M' : PM) (S' : ST), LI M' L z f S' → Wp k_L_law (724, [(0, .ref 0), (1, .ref 1), (2, .ref 613), (3, .int (I i))], [], M') Q) : Wp k_L_law (563, [(0, .ref 0), (1, .ref 1), (2, .ref 613), (3, .int (I i))], [], M) Q := by
  obtain ⟨h1, h2, h3, h4, h5, h6⟩ := id h
  have hO := h2.1
  repeat (refine wf rfl ?_; first | refine wq_iadd ?_ | refine wq_isub ?_ | refine wq_imul ?_ | refine wq_iinc rfl ?_ | refine wq_goto ?_ | refine wq_k rfl ?_ | refine wq_b rfl rfl ?_ | refine wq_getf (by assumption) rfl ?_ | refine wq_alen (by assumption) rfl ?_)
  refine wf rfl (wq_iald h1 ⟨by omega, by omega⟩ (by omega) (by omega) ?_)
  refine wf rfl (wq_cv rfl rfl rfl hO ((c_PG_opens (hf _) h2 ).mono ?_))
  rintro v M1 ⟨rfl, f1, k1⟩
  obtain ⟨h11, m1⟩ := h.mid f1
  obtain ⟨si, re, sp, hO1⟩ := m1.1
  repeat (refine wf rfl ?_; first | refine wq_iadd ?_ | refine wq_isub ?_ | refine wq_imul ?_ | refine wq_iinc rfl ?_ | refine wq_goto ?_ | refine wq_k rfl ?_ | refine wq_b rfl rfl ?_ | refine wq_getf (by assumption) rfl ?_ | refine wq_alen (by assumption) rfl ?_)
  refine wf rfl (wq_iald h11 ⟨by omega, by omega⟩ (by omega) (by omega) ?_)
  refine wf rfl (wq_cv rfl rfl rfl hO1 ((c_Md_opensS (hf _) m1 h4.1.1).mono ?_))
  rintro v M2 ⟨rfl, f2, k2⟩
  refine wf rfl (wq_eqS ?_)
  exact hk M2 _ (h.two f1 k1 f2 k2 (h4))
set_option maxRecDepth 20000 in
theorem law_put (hL : L ≤ 1536) (hf : ∀ k, inR (f k)) (hi : 0 ≤ i ∧ i + 3 ≤ L) (h : LI M L z f S) (hk : ∀ (M' : PM) (S' : ST), LI M' L z f S' → Wp k_L_law (724, [(0, .ref 0), (1, .ref 1), (2, .ref 613), (3, .int (I i))], [], M') Q) : Wp k_L_law (586, [(0, .ref 0), (1, .ref 1), (2, .ref 613), (3, .int (I i))], [], M) Q := by
  obtain ⟨h1, h2, h3, h4, h5, h6⟩ := id h
  have hO := h2.1
  repeat (refine wf rfl ?_; first | refine wq_iadd ?_ | refine wq_isub ?_ | refine wq_imul ?_ | refine wq_iinc rfl ?_ | refine wq_goto ?_ | refine wq_k rfl ?_ | refine wq_b rfl rfl ?_ | refine wq_getf (by assumption) rfl ?_ | refine wq_alen (by assumption) rfl ?_)
  refine wf rfl (wq_iald h1 ⟨by omega, by omega⟩ (by omega) (by omega) ?_)
  repeat (refine wf rfl ?_; first | refine wq_iadd ?_ | refine wq_isub ?_ | refine wq_imul ?_ | refine wq_iinc rfl ?_ | refine wq_goto ?_ | refine wq_k rfl ?_ | refine wq_b rfl rfl ?_ | refine wq_getf (by assumption) rfl ?_ | refine wq_alen (by assumption) rfl ?_)
  refine wf rfl (wq_iald h1 ⟨by omega, by omega⟩ (by omega) (by omega) ?_)
  repeat (refine wf rfl ?_; first | refine wq_iadd ?_ | refine wq_isub ?_ | refine wq_imul ?_ | refine wq_iinc rfl ?_ | refine wq_goto ?_ | refine wq_k rfl ?_ | refine wq_b rfl rfl ?_ | refine wq_getf (by assumption) rfl ?_ | refine wq_alen (by assumption) rfl ?_)
  refine wf rfl (wq_cv rfl rfl rfl hO ((c_PG_putL _ h2).mono ?_))
  rintro v M1 ⟨rfl, f1, k1⟩
  obtain ⟨h11, m1⟩ := h.mid f1
  obtain ⟨si, re, sp, hO1⟩ := m1.1
  repeat (refine wf rfl ?_; first | refine wq_iadd ?_ | refine wq_isub ?_ | refine wq_imul ?_ | refine wq_iinc rfl ?_ | refine wq_goto ?_ | refine wq_k rfl ?_ | refine wq_b rfl rfl ?_ | refine wq_getf (by assumption) rfl ?_ | refine wq_alen (by assumption) rfl ?_)
  refine wf rfl (wq_iald h11 ⟨by omega, by omega⟩ (by omega) (by omega) ?_)
  repeat (refine wf rfl ?_; first | refine wq_iadd ?_ | refine wq_isub ?_ | refine wq_imul ?_ | refine wq_iinc rfl ?_ | refine wq_goto ?_ | refine wq_k rfl ?_ | refine wq_b rfl rfl ?_ | refine wq_getf (by assumption) rfl ?_ | refine wq_alen (by assumption) rfl ?_)
  refine wf rfl (wq_iald h11 ⟨by omega, by omega⟩ (by omega) (by omega) ?_)
  repeat (refine wf rfl ?_; first | refine wq_iadd ?_ | refine wq_isub ?_ | refine wq_imul ?_ | refine wq_iinc rfl ?_ | refine wq_goto ?_ | refine wq_k rfl ?_ | refine wq_b rfl rfl ?_ | refine wq_getf (by assumption) rfl ?_ | refine wq_alen (by assumption) rfl ?_)
  refine wf rfl (wq_cv rfl rfl rfl hO1 ((c_Md_putL _ m1).mono ?_))
  rintro v M2 ⟨rfl, f2, k2⟩
  refine wf rfl (wq_eqS ?_)
  exact hk M2 _ (h.two f1 k1 f2 k2 (OKS_put h4 _))
set_option maxRecDepth 20000 in
theorem law_wipe (hL : L ≤ 1536) (hf : ∀ k, inR (f k)) (hi : 0 ≤ i ∧ i + 3 ≤ L) (h : LI M L z f S) (hk : ∀ (M' : PM) (S' : ST), LI M' L z f S' → Wp k_L_law (724, [(0, .ref 0), (1, .ref 1), (2, .ref 613), (3, .int (I i))], [], M') Q) : Wp k_L_law (639, [(0, .ref 0), (1, .ref 1), (2, .ref 613), (3, .int (I i))], [], M) Q := by
  obtain ⟨h1, h2, h3, h4, h5, h6⟩ := id h
  have hO := h2.1
  repeat (refine wf rfl ?_; first | refine wq_iadd ?_ | refine wq_isub ?_ | refine wq_imul ?_ | refine wq_iinc rfl ?_ | refine wq_goto ?_ | refine wq_k rfl ?_ | refine wq_b rfl rfl ?_ | refine wq_getf (by assumption) rfl ?_ | refine wq_alen (by assumption) rfl ?_)
  refine wf rfl (wq_cv rfl rfl rfl hO ((c_PG_wipe  h2 ).mono ?_))
  rintro v M1 ⟨rfl, f1, k1⟩
  obtain ⟨h11, m1⟩ := h.mid f1
  obtain ⟨si, re, sp, hO1⟩ := m1.1
  repeat (refine wf rfl ?_; first | refine wq_iadd ?_ | refine wq_isub ?_ | refine wq_imul ?_ | refine wq_iinc rfl ?_ | refine wq_goto ?_ | refine wq_k rfl ?_ | refine wq_b rfl rfl ?_ | refine wq_getf (by assumption) rfl ?_ | refine wq_alen (by assumption) rfl ?_)
  refine wf rfl (wq_cv rfl rfl rfl hO1 ((c_Md_wipe  m1 ).mono ?_))
  rintro v M2 ⟨rfl, f2, k2⟩
  refine wf rfl (wq_eqS ?_)
  exact hk M2 _ (h.two f1 k1 f2 k2 (OKS_wipe h4))
set_option maxRecDepth 20000 in
theorem law_fault (hL : L ≤ 1536) (hf : ∀ k, inR (f k)) (hi : 0 ≤ i ∧ i + 3 ≤ L) (h : LI M L z f S) (hk : ∀ (M' : PM) (S' : ST), LI M' L z f S' → Wp k_L_law (724, [(0, .ref 0), (1, .ref 1), (2, .ref 613), (3, .int (I i))], [], M') Q) : Wp k_L_law (652, [(0, .ref 0), (1, .ref 1), (2, .ref 613), (3, .int (I i))], [], M) Q := by
  obtain ⟨h1, h2, h3, h4, h5, h6⟩ := id h
  have hO := h2.1
  repeat (refine wf rfl ?_; first | refine wq_iadd ?_ | refine wq_isub ?_ | refine wq_imul ?_ | refine wq_iinc rfl ?_ | refine wq_goto ?_ | refine wq_k rfl ?_ | refine wq_b rfl rfl ?_ | refine wq_getf (by assumption) rfl ?_ | refine wq_alen (by assumption) rfl ?_)
  refine wf rfl (wq_cv rfl rfl rfl hO ((c_PG_fault  h2 h4.2.1).mono ?_))
  rintro v M1 ⟨rfl, f1, k1⟩
  obtain ⟨h11, m1⟩ := h.mid f1
  obtain ⟨si, re, sp, hO1⟩ := m1.1
  repeat (refine wf rfl ?_; first | refine wq_iadd ?_ | refine wq_isub ?_ | refine wq_imul ?_ | refine wq_iinc rfl ?_ | refine wq_goto ?_ | refine wq_k rfl ?_ | refine wq_b rfl rfl ?_ | refine wq_getf (by assumption) rfl ?_ | refine wq_alen (by assumption) rfl ?_)
  refine wf rfl (wq_cv rfl rfl rfl hO1 ((c_Md_fault  m1 h4.2.1).mono ?_))
  rintro v M2 ⟨rfl, f2, k2⟩
  refine wf rfl (wq_eqS ?_)
  exact hk M2 _ (h.two f1 k1 f2 k2 (h4))
set_option maxRecDepth 20000 in
theorem law_undo (hL : L ≤ 1536) (hf : ∀ k, inR (f k)) (hi : 0 ≤ i ∧ i + 3 ≤ L) (h : LI M L z f S) (hk : ∀ (M' : PM) (S' : ST), LI M' L z f S' → Wp k_L_law (724, [(0, .ref 0), (1, .ref 1), (2, .ref 613), (3, .int (I i))], [], M') Q) : Wp k_L_law (665, [(0, .ref 0), (1, .ref 1), (2, .ref 613), (3, .int (I i))], [], M) Q := by
  obtain ⟨h1, h2, h3, h4, h5, h6⟩ := id h
  have hO := h2.1
  repeat (refine wf rfl ?_; first | refine wq_iadd ?_ | refine wq_isub ?_ | refine wq_imul ?_ | refine wq_iinc rfl ?_ | refine wq_goto ?_ | refine wq_k rfl ?_ | refine wq_b rfl rfl ?_ | refine wq_getf (by assumption) rfl ?_ | refine wq_alen (by assumption) rfl ?_)
  refine wf rfl (wq_cv rfl rfl rfl hO ((c_PG_undo  h2 ).mono ?_))
  rintro v M1 ⟨rfl, f1, k1⟩
  obtain ⟨h11, m1⟩ := h.mid f1
  obtain ⟨si, re, sp, hO1⟩ := m1.1
  repeat (refine wf rfl ?_; first | refine wq_iadd ?_ | refine wq_isub ?_ | refine wq_imul ?_ | refine wq_iinc rfl ?_ | refine wq_goto ?_ | refine wq_k rfl ?_ | refine wq_b rfl rfl ?_ | refine wq_getf (by assumption) rfl ?_ | refine wq_alen (by assumption) rfl ?_)
  refine wf rfl (wq_cv rfl rfl rfl hO1 ((c_Md_undo  m1 ).mono ?_))
  rintro v M2 ⟨rfl, f2, k2⟩
  refine wf rfl (wq_eqS ?_)
  exact hk M2 _ (h.two f1 k1 f2 k2 (OKS_undo h4))
set_option maxRecDepth 20000 in
theorem law_save (hL : L ≤ 1536) (hf : ∀ k, inR (f k)) (hi : 0 ≤ i ∧ i + 3 ≤ L) (h : LI M L z f S) (hk : ∀ (M' : PM) (S' : ST), LI M' L z f S' → Wp k_L_law (724, [(0, .ref 0), (1, .ref 1), (2, .ref 613), (3, .int (I i))], [], M') Q) : Wp k_L_law (678, [(0, .ref 0), (1, .ref 1), (2, .ref 613), (3, .int (I i))], [], M) Q := by
  obtain ⟨h1, h2, h3, h4, h5, h6⟩ := id h
  have hO := h2.1
  repeat (refine wf rfl ?_; first | refine wq_iadd ?_ | refine wq_isub ?_ | refine wq_imul ?_ | refine wq_iinc rfl ?_ | refine wq_goto ?_ | refine wq_k rfl ?_ | refine wq_b rfl rfl ?_ | refine wq_getf (by assumption) rfl ?_ | refine wq_alen (by assumption) rfl ?_)
  refine wf rfl (wq_iald h1 ⟨by omega, by omega⟩ (by omega) (by omega) ?_)
  refine wf rfl (wq_cv rfl rfl rfl hO ((c_PG_save (hf _) h2 ).mono ?_))
  rintro v M1 ⟨rfl, f1, k1⟩
  obtain ⟨h11, m1⟩ := h.mid f1
  obtain ⟨si, re, sp, hO1⟩ := m1.1
  repeat (refine wf rfl ?_; first | refine wq_iadd ?_ | refine wq_isub ?_ | refine wq_imul ?_ | refine wq_iinc rfl ?_ | refine wq_goto ?_ | refine wq_k rfl ?_ | refine wq_b rfl rfl ?_ | refine wq_getf (by assumption) rfl ?_ | refine wq_alen (by assumption) rfl ?_)
  refine wf rfl (wq_iald h11 ⟨by omega, by omega⟩ (by omega) (by omega) ?_)
  refine wf rfl (wq_cv rfl rfl rfl hO1 ((c_Md_save (hf _) m1 ).mono ?_))
  rintro v M2 ⟨rfl, f2, k2⟩
  refine wf rfl (wq_eqS ?_)
  exact hk M2 _ (h.two f1 k1 f2 k2 (OKS_save h4 _))
set_option maxRecDepth 20000 in
theorem law_restore (hL : L ≤ 1536) (hf : ∀ k, inR (f k)) (hi : 0 ≤ i ∧ i + 3 ≤ L) (h : LI M L z f S) (hk : ∀ (M' : PM) (S' : ST), LI M' L z f S' → Wp k_L_law (724, [(0, .ref 0), (1, .ref 1), (2, .ref 613), (3, .int (I i))], [], M') Q) : Wp k_L_law (701, [(0, .ref 0), (1, .ref 1), (2, .ref 613), (3, .int (I i))], [], M) Q := by
  obtain ⟨h1, h2, h3, h4, h5, h6⟩ := id h
  have hO := h2.1
  repeat (refine wf rfl ?_; first | refine wq_iadd ?_ | refine wq_isub ?_ | refine wq_imul ?_ | refine wq_iinc rfl ?_ | refine wq_goto ?_ | refine wq_k rfl ?_ | refine wq_b rfl rfl ?_ | refine wq_getf (by assumption) rfl ?_ | refine wq_alen (by assumption) rfl ?_)
  refine wf rfl (wq_iald h1 ⟨by omega, by omega⟩ (by omega) (by omega) ?_)
  refine wf rfl (wq_cv rfl rfl rfl hO ((c_PG_restore (hf _) h2 ).mono ?_))
  rintro v M1 ⟨rfl, f1, k1⟩
  obtain ⟨h11, m1⟩ := h.mid f1
  obtain ⟨si, re, sp, hO1⟩ := m1.1
  repeat (refine wf rfl ?_; first | refine wq_iadd ?_ | refine wq_isub ?_ | refine wq_imul ?_ | refine wq_iinc rfl ?_ | refine wq_goto ?_ | refine wq_k rfl ?_ | refine wq_b rfl rfl ?_ | refine wq_getf (by assumption) rfl ?_ | refine wq_alen (by assumption) rfl ?_)
  refine wf rfl (wq_iald h11 ⟨by omega, by omega⟩ (by omega) (by omega) ?_)
  refine wf rfl (wq_cv rfl rfl rfl hO1 ((c_Md_restore (hf _) m1 ).mono ?_))
  rintro v M2 ⟨rfl, f2, k2⟩
  refine wf rfl (wq_eqS ?_)
  exact hk M2 _ (h.two f1 k1 f2 k2 (OKS_restore h4))
end LAW
