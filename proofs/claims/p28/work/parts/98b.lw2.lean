/-! Each call on the first object, and on the second one, whose letters are turned round. -/
section OQ
variable {M : PM} {L z : Nat} {f : Nat → Int} {S S2 T : ST}
theorem o_fold {t : Int} (ht : inR t) (h : TX M L z f S T) : Wm 92 [.ref 1, .int (I t)] M (fun v M' => v = some (.int (I (spFold t S).1)) ∧ TX M' L z f (spFold t S).2 T) := tx_o h (c_PG_fold ht h.2.1)
theorem q_fold {t : Int} (ht : inR t) (h : TX M L z f S2 (fl_S S)) : Wm 92 [.ref 613, .int (I t)] M (fun v M' => v = some (.int (I (spFold t S).1)) ∧ TX M' L z f S2 (fl_S (spFold t S).2)) := by
  have k := tx_p h (c_PG_fold ht h.2.2.1)
  rw [fl_fold] at k
  exact k
theorem o_unroll {t : Int} (ht : inR t) (h : TX M L z f S T) : Wm 93 [.ref 1, .int (I t)] M (fun v M' => v = some (.int (I (spUnroll t S).1)) ∧ TX M' L z f (spUnroll t S).2 T) := tx_o h (c_PG_unroll ht h.2.1)
theorem q_unroll {t : Int} (ht : inR t) (h : TX M L z f S2 (fl_S S)) : Wm 93 [.ref 613, .int (I t)] M (fun v M' => v = some (.int (I (spUnroll t S).1)) ∧ TX M' L z f S2 (fl_S (spUnroll t S).2)) := by
  have k := tx_p h (c_PG_unroll ht h.2.2.1)
  rw [fl_unroll] at k
  exact k
theorem o_prune (h : TX M L z f S T) : Wm 94 [.ref 1] M (fun v M' => v = some (.int (I (spPrune S).1)) ∧ TX M' L z f (spPrune S).2 T) := tx_o h (c_PG_prune h.2.1)
theorem q_prune (h : TX M L z f S2 (fl_S S)) : Wm 94 [.ref 613] M (fun v M' => v = some (.int (I (spPrune S).1)) ∧ TX M' L z f S2 (fl_S (spPrune S).2)) := by
  have k := tx_p h (c_PG_prune  h.2.2.1)
  rw [fl_spPrune] at k
  exact k
theorem o_delete {t : Int} (ht : inR t) (h : TX M L z f S T) : Wm 97 [.ref 1, .int (I t)] M (fun v M' => v = some (.int (I (spDelete t S).1)) ∧ TX M' L z f (spDelete t S).2 T) := tx_o h (c_PG_delete ht h.2.1)
theorem q_delete {t : Int} (ht : inR t) (h : TX M L z f S2 (fl_S S)) : Wm 97 [.ref 613, .int (I t)] M (fun v M' => v = some (.int (I (fl_s (spDelete t S).1))) ∧ TX M' L z f S2 (fl_S (spDelete t S).2)) := by
  have k := tx_p h (c_PG_delete ht h.2.2.1)
  rw [fl_delete] at k
  exact k
theorem o_undo (h : TX M L z f S T) : Wm 112 [.ref 1] M (fun v M' => v = some (.int (I (spUndo S).1)) ∧ TX M' L z f (spUndo S).2 T) := tx_o h (c_PG_undo h.2.1)
theorem q_undo (h : TX M L z f S2 (fl_S S)) : Wm 112 [.ref 613] M (fun v M' => v = some (.int (I (spUndo S).1)) ∧ TX M' L z f S2 (fl_S (spUndo S).2)) := by
  have k := tx_p h (c_PG_undo  h.2.2.1)
  rw [fl_undo] at k
  exact k
theorem o_save {t : Int} (ht : inR t) (h : TX M L z f S T) : Wm 113 [.ref 1, .int (I t)] M (fun v M' => v = some (.int (I (spSave t S).1)) ∧ TX M' L z f (spSave t S).2 T) := tx_o h (c_PG_save ht h.2.1)
theorem q_save {t : Int} (ht : inR t) (h : TX M L z f S2 (fl_S S)) : Wm 113 [.ref 613, .int (I t)] M (fun v M' => v = some (.int (I (spSave t S).1)) ∧ TX M' L z f S2 (fl_S (spSave t S).2)) := by
  have k := tx_p h (c_PG_save ht h.2.2.1)
  rw [fl_save] at k
  exact k
theorem o_restore {t : Int} (ht : inR t) (h : TX M L z f S T) : Wm 114 [.ref 1, .int (I t)] M (fun v M' => v = some (.int (I (spRestore t S).1)) ∧ TX M' L z f (spRestore t S).2 T) := tx_o h (c_PG_restore ht h.2.1)
theorem q_restore {t : Int} (ht : inR t) (h : TX M L z f S2 (fl_S S)) : Wm 114 [.ref 613, .int (I t)] M (fun v M' => v = some (.int (I (spRestore t S).1)) ∧ TX M' L z f S2 (fl_S (spRestore t S).2)) := by
  have k := tx_p h (c_PG_restore ht h.2.2.1)
  rw [fl_restore] at k
  exact k
theorem o_wipe (h : TX M L z f S T) : Wm 111 [.ref 1] M (fun v M' => v = some (.int (I (spWipe S).1)) ∧ TX M' L z f (spWipe S).2 T) := tx_o h (c_PG_wipe h.2.1)
theorem q_wipe (h : TX M L z f S2 (fl_S S)) : Wm 111 [.ref 613] M (fun v M' => v = some (.int (I (spWipe S).1)) ∧ TX M' L z f S2 (fl_S (spWipe S).2)) := by
  have k := tx_p h (c_PG_wipe  h.2.2.1)
  rw [fl_wipe] at k
  exact k
theorem o_edit {p l : Int} (hp : inR p) (hl : inR l) (h : TX M L z f S T) : Wm 95 [.ref 1, .int (I p), .int (I l)] M (fun v M' => v = some (.int (I (spEdit p l S).1)) ∧ TX M' L z f (spEdit p l S).2 T) := tx_o h (c_PG_edit hp hl h.2.1)
theorem q_edit {p l : Int} (hp : inR p) (hl : 0 ≤ l ∧ l < 8) (h : TX M L z f S2 (fl_S S)) : Wm 95 [.ref 613, .int (I p), .int (I (7 - l))] M (fun v M' => v = some (.int (I (fl_s (spEdit p l S).1))) ∧ TX M' L z f S2 (fl_S (spEdit p l S).2)) := by
  have k := tx_p h (c_PG_edit (l := fl_s l) hp (fl_inR ⟨by omega, by omega⟩) h.2.2.1)
  rw [fl_edit, fl_low hl.1 (by omega)] at k
  exact k
theorem o_insert {p l : Int} (hp : inR p) (hl : inR l) (hK : OKS S) (h : TX M L z f S T) : Wm 96 [.ref 1, .int (I p), .int (I l)] M (fun v M' => v = some (.int (I (spInsert p l S).1)) ∧ TX M' L z f (spInsert p l S).2 T) := tx_o h (c_PG_insert hp hl h.2.1 hK.1)
theorem q_insert {p l : Int} (hp : inR p) (hl : 0 ≤ l ∧ l < 8) (hK : OKS S) (h : TX M L z f S2 (fl_S S)) : Wm 96 [.ref 613, .int (I p), .int (I (7 - l))] M (fun v M' => v = some (.int (I (spInsert p l S).1)) ∧ TX M' L z f S2 (fl_S (spInsert p l S).2)) := by
  have k := tx_p h (c_PG_insert (l := fl_s l) hp (fl_inR ⟨by omega, by omega⟩) h.2.2.1 (fl_OKS hK).1)
  rw [fl_insert, fl_low hl.1 (by omega)] at k
  exact k
theorem fl_OKP {xs : List Int} (h : OKP xs) : OKP (xs.map fl_c) := by
  intro x hx
  obtain ⟨c, q1, q2⟩ := List.mem_map.mp hx
  have := h c q1
  rw [← q2]
  unfold fl_c
  split <;> omega
theorem o_tell (hK : OKS S) (h : TX M L z f S T) : Wm 91 [.ref 1] M (fun v M' => v = some (.int (I (spTell S).1)) ∧ TX M' L z f (spTell S).2 T) := tx_o h (c_PG_tell h.2.1 hK.2.1)
theorem q_tell (hK : OKS S) (h : TX M L z f S2 (fl_S S)) : Wm 91 [.ref 613] M (fun v M' => v = some (.int (I (spTell S).1)) ∧ TX M' L z f S2 (fl_S (spTell S).2)) := by
  have k := tx_p h (c_PG_tell h.2.2.1 (fl_OKP hK.2.1))
  rw [fl_tell] at k
  exact k
theorem o_put {u : Int} (h0 : 33 ≤ u) (h1 : u < 127) (hp : S.2.1.length < 80) (h : TX M L z f S T) : Wm 110 [.ref 1, .long (I u).toInt64] M (fun v M' => v = some (.int (I ((S.2.1.length : Int) + 1))) ∧ TX M' L z f (putC S u) T) := tx_o h (c_put1 h0 h1 h.2.1 hp)
theorem q_put {u : Int} (h0 : 33 ≤ u) (h1 : u < 97) (hp : S.2.1.length < 80) (h : TX M L z f S2 (fl_S S)) : Wm 110 [.ref 613, .long (I u).toInt64] M (fun v M' => v = some (.int (I ((S.2.1.length : Int) + 1))) ∧ TX M' L z f S2 (fl_S (putC S u))) := by
  have e : fl_c u = u := by unfold fl_c; rw [if_neg (by omega)]
  have k := tx_p h (c_put1 (u := u) h0 (by omega) h.2.2.1 (by rw [fl_pad]; exact hp))
  rw [fl_pad, putC_fl e.symm] at k
  exact k
theorem o_mark (h : TX M L z f S T) : Wm 106 [.ref 1] M (fun v M' => v = some (.int (I (spMark S.1))) ∧ TX M' L z f S T) := tx_o h (c_PG_mark h.2.1)
theorem o_couldBe (h : TX M L z f S T) : Wm 107 [.ref 1] M (fun v M' => v = some (.int (I (spCould S.1))) ∧ TX M' L z f S T) := tx_o h (c_PG_couldBe h.2.1)
theorem q_couldBe (h : TX M L z f S2 (fl_S S)) : Wm 107 [.ref 613] M (fun v M' => v = some (.int (I (spCould S.1))) ∧ TX M' L z f S2 (fl_S S)) := by
  have k := tx_p h (c_PG_couldBe h.2.2.1)
  rw [show (fl_S S).1 = fl_G S.1 from rfl] at k
  rw [fl_could] at k
  exact k
theorem o_letter {t : Int} (ht : inR t) (h : TX M L z f S T) : Wm 98 [.ref 1, .int (I t)] M (fun v M' => v = some (.int (I (spLetter t S.1))) ∧ TX M' L z f S T) := tx_o h (c_PG_letter ht h.2.1)
theorem q_letter {t : Int} (ht : inR t) (h : TX M L z f S2 (fl_S S)) : Wm 98 [.ref 613, .int (I t)] M (fun v M' => v = some (.int (I (fl_s (spLetter t S.1)))) ∧ TX M' L z f S2 (fl_S S)) := by
  have k := tx_p h (c_PG_letter ht h.2.2.1)
  rw [show (fl_S S).1 = fl_G S.1 from rfl] at k
  rw [fl_letter] at k
  exact k
theorem o_opens {t : Int} (ht : inR t) (h : TX M L z f S T) : Wm 109 [.ref 1, .int (I t)] M (fun v M' => v = some (.int (I (spOpens t S.1))) ∧ TX M' L z f S T) := tx_o h (c_PG_opens ht h.2.1)
theorem q_opens {t : Int} (ht : inR t) (h : TX M L z f S2 (fl_S S)) : Wm 109 [.ref 613, .int (I t)] M (fun v M' => v = some (.int (I (spOpens t S.1))) ∧ TX M' L z f S2 (fl_S S)) := by
  have k := tx_p h (c_PG_opens ht h.2.2.1)
  rw [show (fl_S S).1 = fl_G S.1 from rfl] at k
  rw [fl_opens] at k
  exact k
theorem o_symbol {r t : Int} (hr : inR r) (ht : inR t) (h : TX M L z f S T) : Wm 99 [.ref 1, .int (I r), .int (I t)] M (fun v M' => v = some (.int (I (spSymbol r t S.1))) ∧ TX M' L z f S T) := tx_o h (c_PG_symbol hr ht h.2.1)
theorem q_symbol {r t : Int} (hr : inR r) (ht : inR t) (h : TX M L z f S2 (fl_S S)) : Wm 99 [.ref 613, .int (I r), .int (I t)] M (fun v M' => v = some (.int (I (fl_s (spSymbol r t S.1)))) ∧ TX M' L z f S2 (fl_S S)) := by
  have k := tx_p h (c_PG_symbol hr ht h.2.2.1)
  rw [show (fl_S S).1 = fl_G S.1 from rfl] at k
  rw [fl_symbol] at k
  exact k
theorem o_ofRule {r t : Int} (hr : inR r) (ht : inR t) (h : TX M L z f S T) : Wm 100 [.ref 1, .int (I r), .int (I t)] M (fun v M' => v = some (.int (I (spOfRule r t S.1))) ∧ TX M' L z f S T) := tx_o h (c_PG_ofRule hr ht h.2.1)
theorem q_ofRule {r t : Int} (hr : inR r) (ht : inR t) (h : TX M L z f S2 (fl_S S)) : Wm 100 [.ref 613, .int (I r), .int (I t)] M (fun v M' => v = some (.int (I (spOfRule r t S.1))) ∧ TX M' L z f S2 (fl_S S)) := by
  have k := tx_p h (c_PG_ofRule hr ht h.2.2.1)
  rw [show (fl_S S).1 = fl_G S.1 from rfl] at k
  rw [fl_ofRule] at k
  exact k
theorem o_count {t : Int} (ht : inR t) (h : TX M L z f S T) : Wm 101 [.ref 1, .int (I t)] M (fun v M' => v = some (.int (I (spCount t S))) ∧ TX M' L z f S T) := tx_o h (c_PG_count ht h.2.1)
theorem q_count {t : Int} (ht : inR t) (h : TX M L z f S2 (fl_S S)) : Wm 101 [.ref 613, .int (I t)] M (fun v M' => v = some (.int (I (spCount t S))) ∧ TX M' L z f S2 (fl_S S)) := by
  have k := tx_p h (c_PG_count ht h.2.2.1)
  rw [fl_count] at k
  exact k
theorem o_pair {r t : Int} (hr : inR r) (ht : inR t) (h : TX M L z f S T) : Wm 102 [.ref 1, .int (I r), .int (I t)] M (fun v M' => v = some (.int (I (spPair r t S.1))) ∧ TX M' L z f S T) := tx_o h (c_PG_pair hr ht h.2.1)
theorem o_best {t : Int} (ht : inR t) (h : TX M L z f S T) : Wm 103 [.ref 1, .int (I t)] M (fun v M' => v = some (.int (I (spBest t S.1))) ∧ TX M' L z f S T) := tx_o h (c_PG_best ht h.2.1)
theorem o_unlike {t : Int} (ht : inR t) (hK : OKS S) (h : TX M L z f S T) : Wm 108 [.ref 1, .int (I t)] M (fun v M' => v = some (.int (I (spUnlike t S))) ∧ TX M' L z f S T) := tx_o h (c_PG_unlike ht h.2.1 hK)
theorem q_unlike {t : Int} (ht : inR t) (hK : OKS S) (h : TX M L z f S2 (fl_S S)) : Wm 108 [.ref 613, .int (I t)] M (fun v M' => v = some (.int (I (spUnlike t S))) ∧ TX M' L z f S2 (fl_S S)) := by
  have k := tx_p h (c_PG_unlike ht h.2.2.1 (fl_OKS hK))
  rw [fl_unlike] at k
  exact k
theorem q_best {t : Int} (ht : t = 0 ∨ t = 1) (h : TX M L z f S2 (fl_S S)) : Wm 103 [.ref 613, .int (I t)] M (fun v M' => v = some (.int (I (fl_s (spBest t S.1)))) ∧ TX M' L z f S2 (fl_S S)) := by
  have k := tx_p h (c_PG_best (w := t) ⟨by omega, by omega⟩ h.2.2.1)
  rw [show (fl_S S).1 = fl_G S.1 from rfl, fl_best ht] at k
  exact k
theorem q_best2 (h : TX M L z f S2 (fl_S S)) : Wm 103 [.ref 613, .int (I 2)] M (fun v M' => v = some (.int (I (spBest 2 S.1))) ∧ TX M' L z f S2 (fl_S S)) := by
  have k := tx_p h (c_PG_best (w := 2) ⟨by omega, by omega⟩ h.2.2.1)
  rw [show (fl_S S).1 = fl_G S.1 from rfl, fl_best2] at k
  exact k
theorem o_ratio (hK : OKS S) (h : TX M L z f S T) : Wm 104 [.ref 1] M (fun v M' => v = some (.long (spRatio S.1)) ∧ TX M' L z f S T) := tx_o h (c_PG_ratio h.2.1 hK.1)
theorem q_ratio (hK : OKS S) (h : TX M L z f S2 (fl_S S)) : Wm 104 [.ref 613] M (fun v M' => v = some (.long (spRatio S.1)) ∧ TX M' L z f S2 (fl_S S)) := by
  have k := tx_p h (c_PG_ratio h.2.2.1 (fl_OKS hK).1)
  rw [show (fl_S S).1 = fl_G S.1 from rfl, fl_ratio] at k
  exact k
theorem o_share {t : Int} (ht : inR t) (hK : OKS S) (h : TX M L z f S T) : Wm 105 [.ref 1, .int (I t)] M (fun v M' => v = some (.int (I (spShare t S.1))) ∧ TX M' L z f S T) := tx_o h (c_PG_share ht h.2.1 hK.1)
theorem q_share {t : Int} (ht : 0 ≤ t ∧ t < 8) (hK : OKS S) (h : TX M L z f S2 (fl_S S)) : Wm 105 [.ref 613, .int (I (7 - t))] M (fun v M' => v = some (.int (I (spShare t S.1))) ∧ TX M' L z f S2 (fl_S S)) := by
  have k := tx_p h (c_PG_share (l := 7 - t) ⟨by omega, by omega⟩ h.2.2.1 (fl_OKS hK).1)
  rw [show (fl_S S).1 = fl_G S.1 from rfl, fl_share ht] at k
  exact k
end OQ
/-! ranges -/
theorem CS.sz {M : PM} {c : Nat} {S : ST} (h : CS M c S) : 0 ≤ szG S.1 ∧ szG S.1 ≤ 2500 := by
  have h1 := h.n26
  have h2 := h.r80
  have hb := smN_bd (f := fun j => ((xof S.1.1 j).length : Int)) (B := 80) (k := S.1.1.length) (fun j hj => by have := h2.2 j hj; omega)
  unfold szG
  omega
theorem best_bd {M : PM} {c : Nat} {S : ST} (h : CS M c S) : -6 ≤ spBest 2 S.1 ∧ spBest 2 S.1 ≤ 80 := by
  have h2 := h.r80
  have hb := bst_bd (xs := S.1.2) (f := 0) (s := 0) (S.1.2.length - 1)
  have hb : 0 ≤ (bstAll S.1.2 0 0).2.2 ∧ (bstAll S.1.2 0 0).2.2 ≤ S.1.2.length := hb
  unfold spBest
  rw [if_pos (by omega)]
  split
  · omega
  · rw [if_neg (by omega), if_neg (by omega)]
    omega
theorem OKS.wl {S : ST} (h : OKS S) : 0 ≤ wlG S.1 ∧ wlG S.1 ≤ 9999 := ⟨(wlG_bd h.1.1).1, h.1.2.1⟩
theorem OKS.pc {S : ST} (h : OKS S) {u : Int} (h0 : 0 ≤ u) (h1 : u < 256) : OKS (putC S u) := by
  refine ⟨h.1, fun x hx => ?_, h.2.2⟩
  rcases List.mem_append.mp hx with q | q
  · exact h.2.1 x q
  · rw [List.mem_singleton.mp q]
    exact ⟨h0, h1⟩
