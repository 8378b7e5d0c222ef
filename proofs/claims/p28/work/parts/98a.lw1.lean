/-! The law's small methods; two objects in one memory. -/
section WQX
variable {c : MM} {ln nx tg r1 r2 r3 pc : Nat} {lv : LV} {r : List Value} {M : PM} {Q : Option Value → PM → Prop}
theorem wq_neS {o : Int} {x : Int32} (k : Wp c (nx, lv, r, M) Q) : Wq c (.if_icmp .ne o, ln, nx, tg, r1, r2, r3) pc lv (.int x :: .int x :: r) M Q := by
  refine wq_g (b := decide (¬ x = x)) rfl rfl rfl ?_
  rw [decide_eq_false (fun z => z rfl)]
  exact k
theorem irem_I {x n : Int} (h0 : 0 ≤ x) (hx : inR x) (h1 : 1 ≤ n) (hn : inR n) : I x - I x / I n * I n = I (x % n) := by
  have e : I x / I n = I (x / n) := by
    have h := Int32.ofInt_tdiv (a := x) (b := n) hx.1 (by have := hx.2; show x ≤ 2147483647; omega) hn.1 (by have := hn.2; show n ≤ 2147483647; omega)
    rw [Int.tdiv_eq_ediv_of_nonneg h0] at h
    exact h.symm
  rw [e, I_mul, I_sub]
  congr 1
  rw [Int.emod_def, Int.mul_comm]
theorem wq_irem {x n : Int} (h0 : 0 ≤ x) (hx : inR x) (h1 : 1 ≤ n) (hn : inR n) (k : Wp c (nx, lv, .int (I (x % n)) :: r, M) Q) : Wq c (.irem, ln, nx, tg, r1, r2, r3) pc lv (.int (I n) :: .int (I x) :: r) M Q := by
  refine wq_k (sk' := .int (I (x % n)) :: r) ?_ k
  have e0 : decide (I n = 0) = false := decide_eq_false (fun z => by have := (I_eq hn inR_0).mp z; omega)
  have e1 : gD .irem (.int (I n) :: .int (I x) :: r) = some (.int (I (x % n)) :: r) := by
    show (match decide (I n = 0) with
      | false => some (.int (I x - I x / I n * I n) :: r)
      | true => none) = some (.int (I (x % n)) :: r)
    rw [e0, ← irem_I h0 hx h1 hn]
  show (match gD .irem (.int (I n) :: .int (I x) :: r) with
    | some y => some y
    | none => gE .irem (.int (I n) :: .int (I x) :: r)) = some (.int (I (x % n)) :: r)
  rw [e1]
theorem wq_idiv {x n : Int} (h0 : 0 ≤ x) (hx : inR x) (h1 : 1 ≤ n) (hn : inR n) (k : Wp c (nx, lv, .int (I (x / n)) :: r, M) Q) : Wq c (.idiv, ln, nx, tg, r1, r2, r3) pc lv (.int (I n) :: .int (I x) :: r) M Q := by
  refine wq_k (sk' := .int (I (x / n)) :: r) ?_ k
  have e0 : decide (I n = 0) = false := decide_eq_false (fun z => by have := (I_eq hn inR_0).mp z; omega)
  have e : I x / I n = I (x / n) := by
    have h := Int32.ofInt_tdiv (a := x) (b := n) hx.1 (by have := hx.2; show x ≤ 2147483647; omega) hn.1 (by have := hn.2; show n ≤ 2147483647; omega)
    rw [Int.tdiv_eq_ediv_of_nonneg h0] at h
    exact h.symm
  have e1 : gD .idiv (.int (I n) :: .int (I x) :: r) = some (.int (I (x / n)) :: r) := by
    show (match decide (I n = 0) with
      | false => some (.int (I x / I n) :: r)
      | true => none) = some (.int (I (x / n)) :: r)
    rw [e0, ← e]
  show (match gD .idiv (.int (I n) :: .int (I x) :: r) with
    | some y => some y
    | none => gE .idiv (.int (I n) :: .int (I x) :: r)) = some (.int (I (x / n)) :: r)
  rw [e1]
end WQX
theorem andM (x : Int32) : ∃ w : Int, 0 ≤ w ∧ w < 2147483648 ∧ x &&& Int32.ofNat 2147483647 = I w := by
  refine ⟨((x.toBitVec &&& 2147483647#32).toNat : Int), by omega, ?_, ?_⟩
  · have h : (x.toBitVec &&& 2147483647#32).toNat ≤ 2147483647 := by
      rw [BitVec.toNat_and]
      exact Nat.and_le_right
    omega
  · have h1 : (x &&& Int32.ofNat 2147483647).toBitVec = x.toBitVec &&& 2147483647#32 := rfl
    have h2 : (I ((x.toBitVec &&& 2147483647#32).toNat : Int)).toBitVec = BitVec.ofInt 32 ((x.toBitVec &&& 2147483647#32).toNat : Int) := rfl
    have h3 : (x &&& Int32.ofNat 2147483647).toBitVec = (I ((x.toBitVec &&& 2147483647#32).toNat : Int)).toBitVec := by
      rw [h1, h2, BitVec.ofInt_natCast, BitVec.ofNat_toNat, BitVec.setWidth_eq]
    exact Int32.toBitVec_inj.mp h3
theorem c_up {M : PM} {x : Int32} {n : Int} (h0 : 1 ≤ n) (h1 : n ≤ 100000) : Wm 125 [.int x, .int (I n)] M (fun v M' => (∃ r : Int, 0 ≤ r ∧ r < n ∧ v = some (.int (I r))) ∧ M' = M) := by
  obtain ⟨w, w0, w1, e⟩ := andM x
  refine wm_in (lv := _) rfl rfl rfl ?_
  refine wf rfl (wq_k rfl ?_)
  refine wf rfl (wq_k rfl ?_)
  refine wf rfl (wq_k (sk' := [.int (x &&& Int32.ofNat 2147483647)]) rfl ?_)
  rw [e]
  refine wf rfl (wq_k rfl ?_)
  refine wf rfl (wq_irem w0 ⟨by omega, by omega⟩ h0 ⟨by omega, by omega⟩ ?_)
  refine wf rfl (wq_r rfl rfl rfl rfl rfl rfl ?_)
  exact ⟨⟨w % n, Int.emod_nonneg _ (by omega), Int.emod_lt_of_pos _ (by omega), rfl⟩, rfl⟩
theorem c_there {M : PM} {s : Int} (hs : inR s) : Wm 126 [.int (I s)] M (fun v M' => v = some (.int (I (fl_s s))) ∧ M' = M) := by
  obtain ⟨h1, h2⟩ := hs
  unfold fl_s
  by_cases h : s < 0 ∨ 7 < s
  · rw [if_pos h]
    refine wm_in (lv := _) rfl rfl rfl ?_
    repeat' (refine wf rfl ?_; first | refine wq_iadd ?_ | refine wq_isub ?_ | refine wq_imul ?_ | refine wq_iinc rfl ?_ | refine wq_goto ?_ | refine wq_k rfl ?_ | refine wq_b rfl rfl ?_ | refine wq_getf (by assumption) rfl ?_ | refine wq_alen (by assumption) rfl ?_ | (refine wq_eq ⟨by omega, by omega⟩ ⟨by omega, by omega⟩ (fun _ => ?_) (fun _ => ?_) <;> try (exfalso; omega)) | (refine wq_ne ⟨by omega, by omega⟩ ⟨by omega, by omega⟩ (fun _ => ?_) (fun _ => ?_) <;> try (exfalso; omega)) | (refine wq_lt ⟨by omega, by omega⟩ ⟨by omega, by omega⟩ (fun _ => ?_) (fun _ => ?_) <;> try (exfalso; omega)) | (refine wq_ge ⟨by omega, by omega⟩ ⟨by omega, by omega⟩ (fun _ => ?_) (fun _ => ?_) <;> try (exfalso; omega)) | (refine wq_gt ⟨by omega, by omega⟩ ⟨by omega, by omega⟩ (fun _ => ?_) (fun _ => ?_) <;> try (exfalso; omega)) | (refine wq_le ⟨by omega, by omega⟩ ⟨by omega, by omega⟩ (fun _ => ?_) (fun _ => ?_) <;> try (exfalso; omega)) | (refine wq_ifeq ⟨by omega, by omega⟩ (fun _ => ?_) (fun _ => ?_) <;> try (exfalso; omega)) | (refine wq_ifne ⟨by omega, by omega⟩ (fun _ => ?_) (fun _ => ?_) <;> try (exfalso; omega)) | (refine wq_iflt ⟨by omega, by omega⟩ (fun _ => ?_) (fun _ => ?_) <;> try (exfalso; omega)) | (refine wq_ifge ⟨by omega, by omega⟩ (fun _ => ?_) (fun _ => ?_) <;> try (exfalso; omega)) | (refine wq_ifgt ⟨by omega, by omega⟩ (fun _ => ?_) (fun _ => ?_) <;> try (exfalso; omega)) | (refine wq_ifle ⟨by omega, by omega⟩ (fun _ => ?_) (fun _ => ?_) <;> try (exfalso; omega)) | refine wq_r rfl rfl rfl rfl rfl rfl ?_)
    all_goals exact ⟨rfl, rfl⟩
  · rw [if_neg h]
    refine wm_in (lv := _) rfl rfl rfl ?_
    repeat' (refine wf rfl ?_; first | refine wq_iadd ?_ | refine wq_isub ?_ | refine wq_imul ?_ | refine wq_iinc rfl ?_ | refine wq_goto ?_ | refine wq_k rfl ?_ | refine wq_b rfl rfl ?_ | refine wq_getf (by assumption) rfl ?_ | refine wq_alen (by assumption) rfl ?_ | (refine wq_eq ⟨by omega, by omega⟩ ⟨by omega, by omega⟩ (fun _ => ?_) (fun _ => ?_) <;> try (exfalso; omega)) | (refine wq_ne ⟨by omega, by omega⟩ ⟨by omega, by omega⟩ (fun _ => ?_) (fun _ => ?_) <;> try (exfalso; omega)) | (refine wq_lt ⟨by omega, by omega⟩ ⟨by omega, by omega⟩ (fun _ => ?_) (fun _ => ?_) <;> try (exfalso; omega)) | (refine wq_ge ⟨by omega, by omega⟩ ⟨by omega, by omega⟩ (fun _ => ?_) (fun _ => ?_) <;> try (exfalso; omega)) | (refine wq_gt ⟨by omega, by omega⟩ ⟨by omega, by omega⟩ (fun _ => ?_) (fun _ => ?_) <;> try (exfalso; omega)) | (refine wq_le ⟨by omega, by omega⟩ ⟨by omega, by omega⟩ (fun _ => ?_) (fun _ => ?_) <;> try (exfalso; omega)) | (refine wq_ifeq ⟨by omega, by omega⟩ (fun _ => ?_) (fun _ => ?_) <;> try (exfalso; omega)) | (refine wq_ifne ⟨by omega, by omega⟩ (fun _ => ?_) (fun _ => ?_) <;> try (exfalso; omega)) | (refine wq_iflt ⟨by omega, by omega⟩ (fun _ => ?_) (fun _ => ?_) <;> try (exfalso; omega)) | (refine wq_ifge ⟨by omega, by omega⟩ (fun _ => ?_) (fun _ => ?_) <;> try (exfalso; omega)) | (refine wq_ifgt ⟨by omega, by omega⟩ (fun _ => ?_) (fun _ => ?_) <;> try (exfalso; omega)) | (refine wq_ifle ⟨by omega, by omega⟩ (fun _ => ?_) (fun _ => ?_) <;> try (exfalso; omega)) | refine wq_r rfl rfl rfl rfl rfl rfl ?_)
    exact ⟨rfl, rfl⟩
theorem c_cell {M : PM} {L : Nat} {f : Nat → Int} (h0 : M[0]? = some (aJ L f)) (hL : (L : Int) ≤ 100000) {k : Int} (hk : 0 ≤ k ∧ k ≤ 1000) : Wm 124 [.ref 0, .int (I k)] M (fun v M' => (∃ x : Int32, v = some (.int x)) ∧ M' = M) := by
  by_cases h : k < L
  · refine wm_in (lv := _) rfl rfl rfl ?_
    repeat' (refine wf rfl ?_; first | refine wq_iadd ?_ | refine wq_isub ?_ | refine wq_imul ?_ | refine wq_iinc rfl ?_ | refine wq_goto ?_ | refine wq_k rfl ?_ | refine wq_b rfl rfl ?_ | refine wq_getf (by assumption) rfl ?_ | refine wq_alen (by assumption) rfl ?_ | refine wq_iald h0 ⟨by omega, by omega⟩ (by omega) (by omega) ?_ | (refine wq_eq ⟨by omega, by omega⟩ ⟨by omega, by omega⟩ (fun _ => ?_) (fun _ => ?_) <;> try (exfalso; omega)) | (refine wq_ne ⟨by omega, by omega⟩ ⟨by omega, by omega⟩ (fun _ => ?_) (fun _ => ?_) <;> try (exfalso; omega)) | (refine wq_lt ⟨by omega, by omega⟩ ⟨by omega, by omega⟩ (fun _ => ?_) (fun _ => ?_) <;> try (exfalso; omega)) | (refine wq_ge ⟨by omega, by omega⟩ ⟨by omega, by omega⟩ (fun _ => ?_) (fun _ => ?_) <;> try (exfalso; omega)) | (refine wq_gt ⟨by omega, by omega⟩ ⟨by omega, by omega⟩ (fun _ => ?_) (fun _ => ?_) <;> try (exfalso; omega)) | (refine wq_le ⟨by omega, by omega⟩ ⟨by omega, by omega⟩ (fun _ => ?_) (fun _ => ?_) <;> try (exfalso; omega)) | (refine wq_ifeq ⟨by omega, by omega⟩ (fun _ => ?_) (fun _ => ?_) <;> try (exfalso; omega)) | (refine wq_ifne ⟨by omega, by omega⟩ (fun _ => ?_) (fun _ => ?_) <;> try (exfalso; omega)) | (refine wq_iflt ⟨by omega, by omega⟩ (fun _ => ?_) (fun _ => ?_) <;> try (exfalso; omega)) | (refine wq_ifge ⟨by omega, by omega⟩ (fun _ => ?_) (fun _ => ?_) <;> try (exfalso; omega)) | (refine wq_ifgt ⟨by omega, by omega⟩ (fun _ => ?_) (fun _ => ?_) <;> try (exfalso; omega)) | (refine wq_ifle ⟨by omega, by omega⟩ (fun _ => ?_) (fun _ => ?_) <;> try (exfalso; omega)) | refine wq_r rfl rfl rfl rfl rfl rfl ?_)
    exact ⟨⟨_, rfl⟩, rfl⟩
  · refine wm_in (lv := _) rfl rfl rfl ?_
    repeat (refine wf rfl ?_; first | refine wq_iadd ?_ | refine wq_isub ?_ | refine wq_imul ?_ | refine wq_iinc rfl ?_ | refine wq_goto ?_ | refine wq_k rfl ?_ | refine wq_b rfl rfl ?_ | refine wq_getf (by assumption) rfl ?_ | refine wq_alen (by assumption) rfl ?_)
    refine wf rfl (wq_ge ⟨by omega, by omega⟩ ⟨by omega, by omega⟩ (fun _ => ?_) (fun c9 => by exfalso; omega))
    refine wf rfl (wq_k rfl ?_)
    refine wf rfl (wq_k rfl ?_)
    refine wf rfl (wq_k rfl ?_)
    refine wf rfl (wq_iadd ?_)
    refine wf rfl (wq_k (sk' := [.int (Int32.ofNat 2077880775 * I (k + 1213))]) rfl ?_)
    refine wf rfl (wq_r rfl rfl rfl rfl rfl rfl ?_)
    exact ⟨⟨_, rfl⟩, rfl⟩
/-! the class' state off other cells -/
theorem CS.fr {P : Nat → Prop} {M M' : PM} {c : Nat} {S : ST} (h : CS M c S) (f : Fr P M M') (hP : ∀ q, c ≤ q → q < c + 612 → ¬ P q) : CS M' c S := by
  obtain ⟨a1, a2, a3, a4, a5, a6, a7, a8⟩ := h
  exact ⟨f.at (hP _ (by omega) (by omega)) a1, a2.fr f (fun q hq => hP _ (by unfold inG at hq; omega) (by unfold inG at hq; omega)), a3.fr f (fun q hq => hP _ (by unfold inG at hq; omega) (by unfold inG at hq; omega)), a4.fr f (hP _ (by omega) (by omega)) (hP _ (by omega) (by omega)), a5.fr f (fun q q1 q2 => hP _ (by omega) (by omega)), a6.fr f (fun q hq => hP _ (by omega) (by omega)), a7.fr f (fun q q1 q2 => hP _ (by omega) (by omega)), a8.fr f (fun q q1 q2 => hP _ (by omega) (by omega))⟩
theorem CS.wf {M : PM} {c : Nat} {S : ST} (h : CS M c S) : WFG S.1 := h.2.1.wf
theorem CS.n26 {M : PM} {c : Nat} {S : ST} (h : CS M c S) : S.1.1.length ≤ 26 := h.2.1.canX
theorem CS.r80 {M : PM} {c : Nat} {S : ST} (h : CS M c S) : S.1.2.length ≤ 80 ∧ ∀ k, k < S.1.1.length → (xof S.1.1 k).length ≤ 80 := by
  obtain ⟨p, X, lt, dp, us, W, h1, h2, h3, h4⟩ := h.2.1
  have hN := h1.le
  refine ⟨h1.main.len, fun k hk => ?_⟩
  have := (h1.row (k := k) (by omega)).len
  rwa [h3 k hk] at this
/-- the script, the first object and the second -/
def TX (M : PM) (L z : Nat) (f : Nat → Int) (S T : ST) : Prop := M[0]? = some (aJ L f) ∧ CS M 1 S ∧ CS M 613 T ∧ M.length = 1225 ∧ szM M = z
section TXS
variable {M : PM} {L z : Nat} {f : Nat → Int} {S S' T : ST}
theorem TX.o (h : TX M L z f S T) : ∃ fs, M[1]? = some (.inr (9, fs)) := ⟨_, h.2.1.1⟩
theorem TX.p (h : TX M L z f S T) : ∃ fs, M[613]? = some (.inr (9, fs)) := ⟨_, h.2.2.1.1⟩
theorem tx_o {y : Nat} {as : List Value} {w : Value} (h : TX M L z f S T) (k : Wm y as M (fun v M' => v = some w ∧ Fr (inC 1) M M' ∧ CS M' 1 S')) : Wm y as M (fun v M' => v = some w ∧ TX M' L z f S' T) := by
  refine k.mono ?_
  rintro v M' ⟨e, f1, k1⟩
  obtain ⟨h1, h2, h3, h4, h5⟩ := h
  exact ⟨e, f1.at (by unfold inC; omega) h1, k1, h3.fr f1 (fun q q1 q2 => by unfold inC; omega), by rw [f1.1, h4], by rw [f1.2.1, h5]⟩
theorem tx_p {y : Nat} {as : List Value} {w : Value} (h : TX M L z f S T) (k : Wm y as M (fun v M' => v = some w ∧ Fr (inC 613) M M' ∧ CS M' 613 S')) : Wm y as M (fun v M' => v = some w ∧ TX M' L z f S S') := by
  refine k.mono ?_
  rintro v M' ⟨e, f1, k1⟩
  obtain ⟨h1, h2, h3, h4, h5⟩ := h
  exact ⟨e, f1.at (by unfold inC; omega) h1, h2.fr f1 (fun q q1 q2 => by unfold inC; omega), k1, by rw [f1.1, h4], by rw [f1.2.1, h5]⟩
end TXS
/-- one sign behind the pad -/
def putC (S : ST) (u : Int) : ST := (S.1, S.2.1 ++ [u], S.2.2.1, S.2.2.2)
theorem c_put1 {M : PM} {c : Nat} {S : ST} {u : Int} (h0 : 33 ≤ u) (h1 : u < 127) (h : CS M c S) (hp : S.2.1.length < 80) : Wm 110 [.ref c, .long (I u).toInt64] M (fun v M' => v = some (.int (I ((S.2.1.length : Int) + 1))) ∧ Fr (inC c) M M' ∧ CS M' c (putC S u)) := by
  have k := c_PG_put (u := u.toNat) (by omega) h
  have e := sign_long u.toNat (by omega)
  have e2 := sign_put (u := u.toNat) (by omega) (by omega) hp
  rw [show ((u.toNat : Nat) : Int) = u by omega] at e e2
  rw [e2, ← e] at k
  exact k
theorem putC_fl {S : ST} {u v : Int} (h : v = fl_c u) : putC (fl_S S) v = fl_S (putC S u) := (sign_fl h).symm
theorem putC_len {S : ST} {u : Int} : (putC S u).2.1.length = S.2.1.length + 1 := by
  show (S.2.1 ++ [u]).length = _
  rw [List.length_append, List.length_singleton]
theorem fl_pad (S : ST) : (fl_S S).2.1.length = S.2.1.length := by
  show (S.2.1.map fl_c).length = _
  rw [List.length_map]
/-- the sign that a number stands for: a letter below 0, a rule from 0 on -/
def cdI (its : Int) : Int := if its < 0 then 97 + (its + 5) else 65 + its
section PUTS
variable {M : PM} {L z : Nat} {f : Nat → Int} {S : ST}
theorem c_puts {its : Int} (h0 : -5 ≤ its) (h1 : its < 26) (h : TX M L z f S (fl_S S)) (hp : S.2.1.length < 80) : Wm 128 [.ref 1, .ref 613, .int (I its)] M (fun v M' => v = some (.int (I 1)) ∧ TX M' L z f (putC S (cdI its)) (fl_S (putC S (cdI its)))) := by
  have hpl := fl_pad S
  unfold cdI
  obtain ⟨fs, ho⟩ := h.o
  by_cases hc : its < 0
  · rw [if_pos hc]
    have e3 : fl_c (97 + (its + 5)) = 104 - (its + 5) := by unfold fl_c; rw [if_pos (by omega)]; omega
    refine wm_in (lv := _) rfl rfl rfl ?_
    repeat (refine wf rfl ?_; first | refine wq_iadd ?_ | refine wq_isub ?_ | refine wq_imul ?_ | refine wq_iinc rfl ?_ | refine wq_goto ?_ | refine wq_k rfl ?_ | refine wq_b rfl rfl ?_ | refine wq_getf (by assumption) rfl ?_ | refine wq_alen (by assumption) rfl ?_)
    refine wf rfl (wq_ifge ⟨by omega, by omega⟩ (fun c9 => by exfalso; omega) (fun _ => ?_))
    repeat (refine wf rfl ?_; first | refine wq_iadd ?_ | refine wq_isub ?_ | refine wq_imul ?_ | refine wq_iinc rfl ?_ | refine wq_goto ?_ | refine wq_k rfl ?_ | refine wq_b rfl rfl ?_ | refine wq_getf (by assumption) rfl ?_ | refine wq_alen (by assumption) rfl ?_)
    refine wf rfl (wq_cv rfl rfl rfl ho ((tx_o h (c_put1 (u := 97 + (its + 5)) (by omega) (by omega) h.2.1 hp)).mono ?_))
    rintro v M1 ⟨rfl, h1⟩
    obtain ⟨fs1, ho1⟩ := h1.p
    repeat (refine wf rfl ?_; first | refine wq_iadd ?_ | refine wq_isub ?_ | refine wq_imul ?_ | refine wq_iinc rfl ?_ | refine wq_goto ?_ | refine wq_k rfl ?_ | refine wq_b rfl rfl ?_ | refine wq_getf (by assumption) rfl ?_ | refine wq_alen (by assumption) rfl ?_)
    refine wf rfl (wq_cv rfl rfl rfl ho1 ((tx_p h1 (c_put1 (u := 104 - (its + 5)) (by omega) (by omega) h1.2.2.1 (by omega))).mono ?_))
    rintro v M2 ⟨rfl, h2⟩
    rw [hpl]
    refine wf rfl (wq_neS ?_)
    repeat' (refine wf rfl ?_; first | refine wq_iadd ?_ | refine wq_isub ?_ | refine wq_imul ?_ | refine wq_iinc rfl ?_ | refine wq_goto ?_ | refine wq_k rfl ?_ | refine wq_b rfl rfl ?_ | refine wq_getf (by assumption) rfl ?_ | refine wq_alen (by assumption) rfl ?_ | (refine wq_eq ⟨by omega, by omega⟩ ⟨by omega, by omega⟩ (fun _ => ?_) (fun _ => ?_) <;> try (exfalso; omega)) | (refine wq_ne ⟨by omega, by omega⟩ ⟨by omega, by omega⟩ (fun _ => ?_) (fun _ => ?_) <;> try (exfalso; omega)) | (refine wq_lt ⟨by omega, by omega⟩ ⟨by omega, by omega⟩ (fun _ => ?_) (fun _ => ?_) <;> try (exfalso; omega)) | (refine wq_ge ⟨by omega, by omega⟩ ⟨by omega, by omega⟩ (fun _ => ?_) (fun _ => ?_) <;> try (exfalso; omega)) | (refine wq_gt ⟨by omega, by omega⟩ ⟨by omega, by omega⟩ (fun _ => ?_) (fun _ => ?_) <;> try (exfalso; omega)) | (refine wq_le ⟨by omega, by omega⟩ ⟨by omega, by omega⟩ (fun _ => ?_) (fun _ => ?_) <;> try (exfalso; omega)) | (refine wq_ifeq ⟨by omega, by omega⟩ (fun _ => ?_) (fun _ => ?_) <;> try (exfalso; omega)) | (refine wq_ifne ⟨by omega, by omega⟩ (fun _ => ?_) (fun _ => ?_) <;> try (exfalso; omega)) | (refine wq_iflt ⟨by omega, by omega⟩ (fun _ => ?_) (fun _ => ?_) <;> try (exfalso; omega)) | (refine wq_ifge ⟨by omega, by omega⟩ (fun _ => ?_) (fun _ => ?_) <;> try (exfalso; omega)) | (refine wq_ifgt ⟨by omega, by omega⟩ (fun _ => ?_) (fun _ => ?_) <;> try (exfalso; omega)) | (refine wq_ifle ⟨by omega, by omega⟩ (fun _ => ?_) (fun _ => ?_) <;> try (exfalso; omega)) | refine wq_r rfl rfl rfl rfl rfl rfl ?_)
    rw [putC_fl e3.symm] at h2
    exact ⟨rfl, h2⟩
  · rw [if_neg hc]
    have e3 : fl_c (65 + its) = 65 + its := by unfold fl_c; rw [if_neg (by omega)]
    refine wm_in (lv := _) rfl rfl rfl ?_
    repeat (refine wf rfl ?_; first | refine wq_iadd ?_ | refine wq_isub ?_ | refine wq_imul ?_ | refine wq_iinc rfl ?_ | refine wq_goto ?_ | refine wq_k rfl ?_ | refine wq_b rfl rfl ?_ | refine wq_getf (by assumption) rfl ?_ | refine wq_alen (by assumption) rfl ?_)
    refine wf rfl (wq_ifge ⟨by omega, by omega⟩ (fun _ => ?_) (fun c9 => by exfalso; omega))
    repeat (refine wf rfl ?_; first | refine wq_iadd ?_ | refine wq_isub ?_ | refine wq_imul ?_ | refine wq_iinc rfl ?_ | refine wq_goto ?_ | refine wq_k rfl ?_ | refine wq_b rfl rfl ?_ | refine wq_getf (by assumption) rfl ?_ | refine wq_alen (by assumption) rfl ?_)
    refine wf rfl (wq_cv rfl rfl rfl ho ((tx_o h (c_put1 (u := 65 + its) (by omega) (by omega) h.2.1 hp)).mono ?_))
    rintro v M1 ⟨rfl, h1⟩
    obtain ⟨fs1, ho1⟩ := h1.p
    repeat (refine wf rfl ?_; first | refine wq_iadd ?_ | refine wq_isub ?_ | refine wq_imul ?_ | refine wq_iinc rfl ?_ | refine wq_goto ?_ | refine wq_k rfl ?_ | refine wq_b rfl rfl ?_ | refine wq_getf (by assumption) rfl ?_ | refine wq_alen (by assumption) rfl ?_)
    refine wf rfl (wq_cv rfl rfl rfl ho1 ((tx_p h1 (c_put1 (u := 65 + its) (by omega) (by omega) h1.2.2.1 (by omega))).mono ?_))
    rintro v M2 ⟨rfl, h2⟩
    rw [hpl]
    refine wf rfl (wq_neS ?_)
    repeat' (refine wf rfl ?_; first | refine wq_iadd ?_ | refine wq_isub ?_ | refine wq_imul ?_ | refine wq_iinc rfl ?_ | refine wq_goto ?_ | refine wq_k rfl ?_ | refine wq_b rfl rfl ?_ | refine wq_getf (by assumption) rfl ?_ | refine wq_alen (by assumption) rfl ?_ | (refine wq_eq ⟨by omega, by omega⟩ ⟨by omega, by omega⟩ (fun _ => ?_) (fun _ => ?_) <;> try (exfalso; omega)) | (refine wq_ne ⟨by omega, by omega⟩ ⟨by omega, by omega⟩ (fun _ => ?_) (fun _ => ?_) <;> try (exfalso; omega)) | (refine wq_lt ⟨by omega, by omega⟩ ⟨by omega, by omega⟩ (fun _ => ?_) (fun _ => ?_) <;> try (exfalso; omega)) | (refine wq_ge ⟨by omega, by omega⟩ ⟨by omega, by omega⟩ (fun _ => ?_) (fun _ => ?_) <;> try (exfalso; omega)) | (refine wq_gt ⟨by omega, by omega⟩ ⟨by omega, by omega⟩ (fun _ => ?_) (fun _ => ?_) <;> try (exfalso; omega)) | (refine wq_le ⟨by omega, by omega⟩ ⟨by omega, by omega⟩ (fun _ => ?_) (fun _ => ?_) <;> try (exfalso; omega)) | (refine wq_ifeq ⟨by omega, by omega⟩ (fun _ => ?_) (fun _ => ?_) <;> try (exfalso; omega)) | (refine wq_ifne ⟨by omega, by omega⟩ (fun _ => ?_) (fun _ => ?_) <;> try (exfalso; omega)) | (refine wq_iflt ⟨by omega, by omega⟩ (fun _ => ?_) (fun _ => ?_) <;> try (exfalso; omega)) | (refine wq_ifge ⟨by omega, by omega⟩ (fun _ => ?_) (fun _ => ?_) <;> try (exfalso; omega)) | (refine wq_ifgt ⟨by omega, by omega⟩ (fun _ => ?_) (fun _ => ?_) <;> try (exfalso; omega)) | (refine wq_ifle ⟨by omega, by omega⟩ (fun _ => ?_) (fun _ => ?_) <;> try (exfalso; omega)) | refine wq_r rfl rfl rfl rfl rfl rfl ?_)
    rw [putC_fl e3.symm] at h2
    exact ⟨rfl, h2⟩
end PUTS
