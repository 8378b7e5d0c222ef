section SND
variable {p : Program} {l : Launch} {e : Env} {R : Room} {s : State} {m : MethodId} {args : Array Value} {below : List Frame} {meth : Method} {c : Code} {H : Heap} {locs : List Loc} {cells slots : Nat} {Q : State → Prop}
variable {cc : ByteArray} {pc ln b sz nL : Nat} {ls : Array Slot} {rest : List Value} {lv : LV}
/-- the length that decode tells of an instruction -/
def sLen : Instr → Nat
  | .aload _ => 2
  | .iload _ => 2
  | .lload _ => 2
  | .dload _ => 2
  | .istore _ => 2
  | .astore _ => 2
  | .lstore _ => 2
  | .dstore _ => 2
  | .iinc _ _ => 3
  | .bipush _ => 2
  | .sipush _ => 3
  | .ldc _ => 2
  | .ldc2_w _ => 3
  | .goto _ => 3
  | .ifCond _ _ => 3
  | .if_icmp _ _ => 3
  | .getfield _ => 3
  | .putfield _ => 3
  | .new _ => 3
  | .anewarray _ => 3
  | .newarray _ => 2
  | .invokevirtual _ => 3
  | .invokespecial _ => 3
  | .invokestatic _ => 3
  | _ => 1
theorem snA (hx : p.tables.exec = Jvm.exec) (hb : c.code = cc) {i : Instr} {v : Value} (hd : decode cc pc = .ok (i, ln)) (hl : ln = sLen i) (h : gA i lv = some v) (hls : lv_has ls nL (lv.map (cvp b sz)))
    (k : W p l e R s m args below meth c H locs cells slots Q (F0 m (pc + ln) ls (cv b sz v :: rest))) : W p l e R s m args below meth c H locs cells slots Q (F0 m pc ls rest) := by
  subst hl
  unfold gA at h
  split at h
  · obtain ⟨a, h1, rfl⟩ := wR_inv h; exact lv_aload_n hx hb hd rfl (lget_has hls h1) k
  · obtain ⟨a, h1, rfl⟩ := wR_inv h; exact lv_aload hx hb hd (lget_has hls h1) k
  · obtain ⟨a, h1, rfl⟩ := wI_inv h; exact lv_iload_n hx hb hd rfl (lget_has hls h1) k
  · obtain ⟨a, h1, rfl⟩ := wI_inv h; exact lv_iload hx hb hd (lget_has hls h1) k
  · obtain ⟨a, h1, rfl⟩ := wL_inv h; exact lv_lload_n hx hb hd rfl (lget_has hls h1) k
  · obtain ⟨a, h1, rfl⟩ := wL_inv h; exact lv_lload hx hb hd (lget_has hls h1) k
  · obtain ⟨a, h1, rfl⟩ := wF_inv h; exact lv_fload_n hx hb hd rfl (lget_has hls h1) k
  · obtain ⟨a, h1, rfl⟩ := wD_inv h; exact lv_dload_n hx hb hd rfl (lget_has hls h1) k
  · obtain ⟨a, h1, rfl⟩ := wD_inv h; exact lv_dload hx hb hd (lget_has hls h1) k
  · cases h
/-- which places a store may have -/
def okB (i : Instr) (nL : Nat) : Prop := match i with
  | .istore_n k => k.val < nL
  | .fstore_n k => k.val < nL
  | .astore_n k => k.val < nL
  | .istore k => k < nL
  | .astore k => k < nL
  | .lstore k => k + 1 < nL
  | .dstore k => k + 1 < nL
  | .iinc k _ => k < nL
  | _ => True
theorem snB (hx : p.tables.exec = Jvm.exec) (hb : c.code = cc) {i : Instr} {lv' : LV} {sk sk' : List Value} (hd : decode cc pc = .ok (i, ln)) (hl : ln = sLen i) (h : gB i lv sk = some (lv', sk')) (hls : lv_has ls nL (lv.map (cvp b sz))) (hB : okB i nL)
    (k : ∀ ls' : Array Slot, lv_has ls' nL (lv'.map (cvp b sz)) → W p l e R s m args below meth c H locs cells slots Q (F0 m (pc + ln) ls' (sk'.map (cv b sz)))) : W p l e R s m args below meth c H locs cells slots Q (F0 m pc ls (sk.map (cv b sz))) := by
  subst hl
  unfold gB at h
  split at h
  · split at h
    · cases h; exact lv_istore_n hx hb hd rfl hls hB (lst1_eq b sz _ (.int _) lv) k
    · cases h
  · split at h
    · cases h; exact lv_istore hx hb hd hls hB (lst1_eq b sz _ (.int _) lv) k
    · cases h
  · split at h
    · cases h; exact lv_lstore hx hb hd hls hB (lst2_eq b sz _ (.long _) lv) k
    · cases h
  · split at h
    · cases h; exact lv_dstore hx hb hd hls hB (lst2_eq b sz _ (.double _) lv) k
    · cases h
  · split at h
    · cases h; exact lv_fstore_n hx hb hd rfl hls hB (lst1_eq b sz _ (.float _) lv) k
    · cases h
  · split at h
    · cases h; exact lv_astore_n hx hb hd rfl hls hB (lst1_eq b sz _ (.ref _) lv) k
    · cases h
  · split at h
    · cases h; exact lv_astore hx hb hd hls hB (lst1_eq b sz _ (.ref _) lv) k
    · cases h
  · rename_i kk n
    split at h
    · rename_i x hg
      cases h
      have hm : (kk, Value.int x) ∈ lv.map (cvp b sz) := List.mem_map.mpr ⟨(kk, .int x), lget_mem hg, rfl⟩
      obtain ⟨j, hj⟩ := List.getElem?_of_mem hm
      exact lv_iinc hx hb hd hls hj rfl hB (lst1_eq b sz _ (.int _) lv) k
    · cases h
  · cases h
def okC (i : Instr) (r1 r2 : Nat) (av : Array Value) (s : State) (o : String) : Prop := match i with
  | .bipush n => (Int8.ofInt n).toInt32 = Int32.ofInt n
  | .sipush n => (Int16.ofInt n).toInt32 = Int32.ofInt n
  | .ldc ix => r1 = 3 → (Cond.constant o ix (Int32.ofNat r2)).before av s = true
  | .ldc2_w ix => (r1 = 1 → (Cond.constantLong o ix (Int64.ofNat r2)).before av s = true) ∧ (r1 = 2 → (Cond.constantDouble o ix (UInt64.ofNat r2)).before av s = true)
  | _ => True
theorem snC (hx : p.tables.exec = Jvm.exec) (hb : c.code = cc) {o : String} (hown : s.vm.findClass o = some m.cls) {i : Instr} {r1 r2 : Nat} {sk sk' : List Value} (hd : decode cc pc = .ok (i, ln)) (hl : ln = sLen i) (h : gC i r1 r2 sk = some sk') (hC : okC i r1 r2 args s o)
    (k : W p l e R s m args below meth c H locs cells slots Q (F0 m (pc + ln) ls (sk'.map (cv b sz)))) : W p l e R s m args below meth c H locs cells slots Q (F0 m pc ls (sk.map (cv b sz))) := by
  subst hl
  unfold gC at h
  split at h
  · cases h; exact lv_iconst hx hb hd rfl k
  · cases h; exact lv_bipush hx hb hd hC k
  · cases h; exact lv_sipush hx hb hd hC k
  · cases h; exact lv_lconst hx hb hd rfl k
  · split at h
    · cases h; exact lv_ldc2 hx hb hown (hC.1 rfl) hd k
    · cases h; exact lv_ldc2d hx hb hown (hC.2 rfl) hd k
    · cases h
  · split at h
    · cases h; exact lv_ldc hx hb hown (hC rfl) hd k
    · cases h
  · rename_i n
    split at h
    · rename_i e0
      cases h
      have : n = 0 := Fin.ext e0
      subst this
      exact lv_dconst0 hx hb hd k
    · rename_i e0
      cases h
      have : n = 1 := by
        apply Fin.ext
        have h1 := n.isLt
        have h2 : n.val ≠ 0 := e0
        show n.val = 1
        omega
      subst this
      exact lv_dconst1 hx hb hd k
  · split at h
    · split at h
      · rename_i v r hc
        cases h; exact lv_dup hx hb hd (by rw [cv_cat]; exact cat_one hc) k
      · cases h
    · cases h
  · split at h
    · split at h
      · rename_i v w r hc
        cases h
        rw [Bool.or_eq_false_iff] at hc
        exact lv_dup2_11 hx hb hd (by rw [cv_cat]; exact cat_one hc.1) (by rw [cv_cat]; exact cat_one hc.2) k
      · cases h
    · cases h
  · split at h
    · split at h
      · rename_i v r hc
        cases h; exact lv_pop hx hb hd (by rw [cv_cat]; exact cat_one hc) k
      · cases h
    · cases h
  · cases h
theorem jI_inv {f : Int32 → Int32 → Int32} {sk sk' : List Value} (h : jI f sk = some sk') : ∃ x y r, sk = .int y :: .int x :: r ∧ sk' = .int (f x y) :: r := by
  unfold jI at h
  split at h
  · cases h; exact ⟨_, _, _, rfl, rfl⟩
  · cases h
theorem jL_inv {f : Int64 → Int64 → Int64} {sk sk' : List Value} (h : jL f sk = some sk') : ∃ x y r, sk = .long y :: .long x :: r ∧ sk' = .long (f x y) :: r := by
  unfold jL at h
  split at h
  · cases h; exact ⟨_, _, _, rfl, rfl⟩
  · cases h
theorem jS_inv {f : Int64 → Int32 → Int64} {sk sk' : List Value} (h : jS f sk = some sk') : ∃ x y r, sk = .int y :: .long x :: r ∧ sk' = .long (f x y) :: r := by
  unfold jS at h
  split at h
  · cases h; exact ⟨_, _, _, rfl, rfl⟩
  · cases h
theorem snD (hx : p.tables.exec = Jvm.exec) (hb : c.code = cc) {i : Instr} {sk sk' : List Value} (hd : decode cc pc = .ok (i, ln)) (hl : ln = sLen i) (h : gD i sk = some sk')
    (k : W p l e R s m args below meth c H locs cells slots Q (F0 m (pc + ln) ls (sk'.map (cv b sz)))) : W p l e R s m args below meth c H locs cells slots Q (F0 m pc ls (sk.map (cv b sz))) := by
  subst hl
  unfold gD at h
  split at h
  · obtain ⟨x, y, r, rfl, rfl⟩ := jI_inv h; exact lv_iadd hx hb hd k
  · obtain ⟨x, y, r, rfl, rfl⟩ := jI_inv h; exact lv_isub hx hb hd k
  · obtain ⟨x, y, r, rfl, rfl⟩ := jI_inv h; exact lv_imul hx hb hd k
  · obtain ⟨x, y, r, rfl, rfl⟩ := jI_inv h; exact lv_iand hx hb hd k
  · obtain ⟨x, y, r, rfl, rfl⟩ := jI_inv h; exact lv_ixor hx hb hd k
  · obtain ⟨x, y, r, rfl, rfl⟩ := jI_inv h; exact lv_ishr hx hb hd k
  · split at h
    · split at h
      · rename_i hc
        cases h; exact lv_idiv hx hb hd (of_decide_eq_false hc) k
      · cases h
    · cases h
  · split at h
    · split at h
      · rename_i hc
        cases h; exact lv_irem hx hb hd (of_decide_eq_false hc) k
      · cases h
    · cases h
  · obtain ⟨x, y, r, rfl, rfl⟩ := jL_inv h; exact lv_ladd hx hb hd k
  · obtain ⟨x, y, r, rfl, rfl⟩ := jL_inv h; exact lv_lsub hx hb hd k
  · obtain ⟨x, y, r, rfl, rfl⟩ := jL_inv h; exact lv_land hx hb hd k
  · obtain ⟨x, y, r, rfl, rfl⟩ := jL_inv h; exact lv_lor hx hb hd k
  · obtain ⟨x, y, r, rfl, rfl⟩ := jS_inv h; exact lv_lshl hx hb hd rfl k
  · obtain ⟨x, y, r, rfl, rfl⟩ := jS_inv h; exact lv_lushr hx hb hd rfl k
  · split at h
    · cases h; exact W.lcmp hx hb hd k
    · cases h
  · split at h
    · cases h; exact lv_i2l hx hb hd rfl k
    · cases h
  · split at h
    · cases h; exact lv_l2i hx hb hd rfl k
    · cases h
  · cases h
theorem snE (hx : p.tables.exec = Jvm.exec) (hb : c.code = cc) {i : Instr} {sk sk' : List Value} (hd : decode cc pc = .ok (i, ln)) (hl : ln = sLen i) (h : gE i sk = some sk')
    (k : W p l e R s m args below meth c H locs cells slots Q (F0 m (pc + ln) ls (sk'.map (cv b sz)))) : W p l e R s m args below meth c H locs cells slots Q (F0 m pc ls (sk.map (cv b sz))) := by
  subst hl
  unfold gE at h
  split at h
  · split at h
    · cases h; exact lv_i2d hx hb hd k
    · cases h
  · split at h
    · cases h; exact lv_i2f hx hb hd k
    · cases h
  · split at h
    · cases h; exact lv_l2d hx hb hd k
    · cases h
  · split at h
    · cases h; exact lv_d2l hx hb hd k
    · cases h
  · split at h
    · split at h
      · rename_i hc
        have hq := of_decide_eq_true hc
        cases h; exact lv_f2d hx hb hd hq k
      · cases h
    · cases h
  · split at h
    · split at h
      · rename_i hc
        have hq := of_decide_eq_true hc
        cases h; exact lv_ddiv hx hb hd hq k
      · cases h
    · cases h
  · split at h
    · split at h
      · rename_i hc
        have hq := of_decide_eq_true hc
        cases h; exact lv_dmul hx hb hd hq k
      · cases h
    · cases h
  · split at h
    · split at h
      · rename_i hc
        have hq := of_decide_eq_true hc
        cases h; exact lv_fdiv hx hb hd hq k
      · cases h
    · cases h
  · split at h
    · cases h; exact lv_dcmp hx hb hd k
    · cases h
  · split at h
    · cases h; exact lv_fcmp hx hb hd k
    · cases h
  · cases h
theorem kI_inv {f : Int32 → Int32 → Bool} {sk sk' : List Value} {t : Bool} (h : kI f sk = some (t, sk')) : ∃ x y, sk = .int y :: .int x :: sk' ∧ f x y = t := by
  unfold kI at h
  split at h
  · cases h; exact ⟨_, _, rfl, rfl⟩
  · cases h
theorem k0_inv {f : Int32 → Bool} {sk sk' : List Value} {t : Bool} (h : k0 f sk = some (t, sk')) : ∃ x, sk = .int x :: sk' ∧ f x = t := by
  unfold k0 at h
  split at h
  · cases h; exact ⟨_, rfl, rfl⟩
  · cases h
/-- where a branch goes -/
def okG (i : Instr) (pc tg : Nat) : Prop := match i with
  | .goto off => (pc : Int) + off = (tg : Int)
  | .ifCond _ off => (pc : Int) + off = (tg : Int)
  | .if_icmp _ off => (pc : Int) + off = (tg : Int)
  | _ => True
theorem snG (hx : p.tables.exec = Jvm.exec) (hb : c.code = cc) {i : Instr} {tg : Nat} {t : Bool} {sk sk' : List Value} (hd : decode cc pc = .ok (i, ln)) (hl : ln = sLen i) (h : gG i sk = some (t, sk')) (hG : okG i pc tg)
    (k : W p l e R s m args below meth c H locs cells slots Q (F0 m (cond t tg (pc + ln)) ls (sk'.map (cv b sz)))) : W p l e R s m args below meth c H locs cells slots Q (F0 m pc ls (sk.map (cv b sz))) := by
  subst hl
  unfold gG at h
  split at h
  · cases h; exact lv_goto hx hb hd hG k
  · obtain ⟨x, rfl, rfl⟩ := k0_inv h; refine lv_if_eq hx hb hd hG (fun q => ?_) (fun q => ?_) <;> simpa only [q, decide_true, decide_false, not_false_eq_true, not_true_eq_false, cond_true, cond_false, sLen] using k
  · obtain ⟨x, rfl, rfl⟩ := k0_inv h; refine lv_if_ne hx hb hd hG (fun q => ?_) (fun q => ?_) <;> simpa only [q, decide_true, decide_false, not_false_eq_true, not_true_eq_false, cond_true, cond_false, sLen] using k
  · obtain ⟨x, rfl, rfl⟩ := k0_inv h; refine lv_if_lt hx hb hd hG (fun q => ?_) (fun q => ?_) <;> simpa only [q, decide_true, decide_false, not_false_eq_true, not_true_eq_false, cond_true, cond_false, sLen] using k
  · obtain ⟨x, rfl, rfl⟩ := k0_inv h; refine lv_if_ge hx hb hd hG (fun q => ?_) (fun q => ?_) <;> simpa only [q, decide_true, decide_false, not_false_eq_true, not_true_eq_false, cond_true, cond_false, sLen] using k
  · obtain ⟨x, rfl, rfl⟩ := k0_inv h; refine lv_if_gt hx hb hd hG (fun q => ?_) (fun q => ?_) <;> simpa only [q, decide_true, decide_false, not_false_eq_true, not_true_eq_false, cond_true, cond_false, sLen] using k
  · obtain ⟨x, rfl, rfl⟩ := k0_inv h; refine lv_if_le hx hb hd hG (fun q => ?_) (fun q => ?_) <;> simpa only [q, decide_true, decide_false, not_false_eq_true, not_true_eq_false, cond_true, cond_false, sLen] using k
  · obtain ⟨x, y, rfl, rfl⟩ := kI_inv h; refine lv_icmp_eq hx hb hd hG (fun q => ?_) (fun q => ?_) <;> simpa only [q, decide_true, decide_false, not_false_eq_true, not_true_eq_false, cond_true, cond_false, sLen] using k
  · obtain ⟨x, y, rfl, rfl⟩ := kI_inv h; refine lv_icmp_ne hx hb hd hG (fun q => ?_) (fun q => ?_) <;> simpa only [q, decide_true, decide_false, not_false_eq_true, not_true_eq_false, cond_true, cond_false, sLen] using k
  · obtain ⟨x, y, rfl, rfl⟩ := kI_inv h; refine lv_icmp_lt hx hb hd hG (fun q => ?_) (fun q => ?_) <;> simpa only [q, decide_true, decide_false, not_false_eq_true, not_true_eq_false, cond_true, cond_false, sLen] using k
  · obtain ⟨x, y, rfl, rfl⟩ := kI_inv h; refine lv_icmp_ge hx hb hd hG (fun q => ?_) (fun q => ?_) <;> simpa only [q, decide_true, decide_false, not_false_eq_true, not_true_eq_false, cond_true, cond_false, sLen] using k
  · obtain ⟨x, y, rfl, rfl⟩ := kI_inv h; refine lv_icmp_gt hx hb hd hG (fun q => ?_) (fun q => ?_) <;> simpa only [q, decide_true, decide_false, not_false_eq_true, not_true_eq_false, cond_true, cond_false, sLen] using k
  · obtain ⟨x, y, rfl, rfl⟩ := kI_inv h; refine lv_icmp_le hx hb hd hG (fun q => ?_) (fun q => ?_) <;> simpa only [q, decide_true, decide_false, not_false_eq_true, not_true_eq_false, cond_true, cond_false, sLen] using k
  · cases h
def okS (i : Instr) : Prop := match i with
  | .lookupswitch _ ps => (ps.toList.zip (ps.toList.drop 1)).all (fun (a, next) => a.1 < next.1) = true
  | _ => True
theorem jTo_inv {pc pc' : Nat} {off : Int} {r sk' : List Value} (h : jTo pc off r = some (pc', sk')) : (pc : Int) + off = (pc' : Int) ∧ r = sk' := by
  unfold jTo at h
  split at h
  · rename_i hc
    cases h
    exact ⟨(Int.toNat_of_nonneg (of_decide_eq_true hc)).symm, rfl⟩
  · cases h
theorem snS (hx : p.tables.exec = Jvm.exec) (hb : c.code = cc) {i : Instr} {pc' : Nat} {sk sk' : List Value} (hd : decode cc pc = .ok (i, ln)) (h : gS i pc sk = some (pc', sk')) (hS : okS i)
    (k : W p l e R s m args below meth c H locs cells slots Q (F0 m pc' ls (sk'.map (cv b sz)))) : W p l e R s m args below meth c H locs cells slots Q (F0 m pc ls (sk.map (cv b sz))) := by
  unfold gS at h
  split at h
  · split at h
    · split at h
      · rename_i hc
        obtain ⟨h1, rfl⟩ := jTo_inv h
        exact lv_tableOut hx hb hd (of_decide_eq_true hc) h1 k
      · rename_i hc
        have hc := of_decide_eq_false hc
        split at h
        · rename_i off ho
          obtain ⟨h1, rfl⟩ := jTo_inv h
          exact lv_tableIn hx hb hd (fun q => hc (Or.inl q)) (fun q => hc (Or.inr q)) ho h1 k
        · cases h
    · cases h
  · split at h
    · obtain ⟨h1, rfl⟩ := jTo_inv h
      exact lv_lookup hx hb hd hS rfl h1 k
    · cases h
  · cases h
end SND
