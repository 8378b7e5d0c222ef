/-! Sums over the whole word, rule by rule. -/
theorem tly_app (fa su : Nat → Int) : ∀ (xs ys : List Int) (z : Int × Int), tly fa su (xs ++ ys) z = tly fa su ys (tly fa su xs z)
  | [], _, _ => rfl
  | x :: r, ys, z => by rw [List.cons_append, tly, tly, tly_app fa su r ys]
theorem tly_aff (fa su : Nat → Int) : ∀ (xs : List Int) (a b : Int), tly fa su xs (a, b) = (a * (tly fa su xs (1, 0)).1, b * (tly fa su xs (1, 0)).1 + (tly fa su xs (1, 0)).2)
  | [], a, b => by rw [tly, tly]; simp
  | x :: r, a, b => by
    rw [tly, tly_aff fa su r, tly, tly_aff fa su r (1 * fa x.toNat)]
    dsimp only
    congr 1
    · rw [Int.one_mul, Int.mul_assoc]
    · rw [Int.one_mul, Int.zero_mul, Int.zero_add, Int.add_mul, Int.mul_assoc, Int.add_assoc]
theorem tly_congr {fa su fa' su' : Nat → Int} : ∀ {xs : List Int} {z : Int × Int}, (∀ s ∈ xs, fa s.toNat = fa' s.toNat ∧ su s.toNat = su' s.toNat) → tly fa su xs z = tly fa' su' xs z
  | [], _, _ => rfl
  | x :: r, z, h => by
    have h1 := h x List.mem_cons_self
    rw [tly, tly, h1.1, h1.2, tly_congr (fun s hs => h s (List.mem_cons_of_mem _ hs))]
theorem tbl_low {X : Nat → List Int} {z : (Nat → Int) × (Nat → Int)} {j : Nat} : ∀ {n : Nat}, j < 8 + n → ∀ m, n ≤ m → (tbl X z m).1 j = (tbl X z n).1 j ∧ (tbl X z m).2 j = (tbl X z n).2 j := by
  intro n hj m hm
  induction m with
  | zero =>
    have : n = 0 := by omega
    subst this
    exact ⟨rfl, rfl⟩
  | succ m ih =>
    by_cases he : n = m + 1
    · subst he; exact ⟨rfl, rfl⟩
    · have := ih (by omega)
      rw [tbl]
      dsimp only
      rw [upz_ne _ _ (by omega), upz_ne _ _ (by omega)]
      exact this
theorem tly_tel {X : Nat → List Int} {N : Nat} (hX : WFX N X) {fa su : Nat → Int} : ∀ (k : Nat), k ≤ N → ∀ (xs : List Int) (z : Int × Int), (∀ s ∈ xs, 0 ≤ s ∧ s < 8 + (k : Int)) → tly (tbl X (fa, su) k).1 (tbl X (fa, su) k).2 xs z = tly fa su (tel X k xs) z
  | 0, _, xs, z, _ => by rw [tel, tbl]
  | k + 1, hk, xs, z, hx => by
    have step : ∀ (xs : List Int) (z : Int × Int), (∀ s ∈ xs, 0 ≤ s ∧ s < 8 + ((k + 1 : Nat) : Int)) → tly (tbl X (fa, su) (k + 1)).1 (tbl X (fa, su) (k + 1)).2 xs z = tly (tbl X (fa, su) k).1 (tbl X (fa, su) k).2 (xs.flatMap (telF X k)) z := by
      intro xs
      induction xs with
      | nil => intro z _; rw [List.flatMap_nil, tly, tly]
      | cons x r ih =>
        intro z hx
        have h1 := hx x List.mem_cons_self
        rw [List.flatMap_cons, tly_app, tly, ih _ (fun s hs => hx s (List.mem_cons_of_mem _ hs))]
        congr 1
        unfold telF
        by_cases he : x = 8 + (k : Int)
        · rw [if_pos he, he, tbl]
          dsimp only
          rw [show (8 + (k : Int)).toNat = 8 + k by omega, upz_at, upz_at]
          exact (tly_aff _ _ (X k) z.1 z.2).symm
        · rw [if_neg he, tly, tly]
          have := tbl_low (X := X) (z := (fa, su)) (j := x.toNat) (n := k) (by omega) (k + 1) (by omega)
          rw [this.1, this.2]
    rw [step xs z hx, tel, tly_tel hX k (by omega)]
    intro s hs
    obtain ⟨x, hx1, hx2⟩ := List.mem_flatMap.mp hs
    unfold telF at hx2
    split at hx2
    · exact hX k (by omega) s hx2
    · rw [List.mem_singleton.mp hx2]
      have := hx x hx1
      omega
theorem tel_congrX {X X' : Nat → List Int} : ∀ (n : Nat), (∀ k, k < n → X k = X' k) → ∀ xs : List Int, tel X n xs = tel X' n xs
  | 0, _, _ => rfl
  | n + 1, h, xs => by
    have e : telF X n = telF X' n := by
      funext s
      unfold telF
      rw [h n (by omega)]
    rw [tel, tel, e, tel_congrX n (fun k hk => h k (by omega))]
theorem tly_mark {fa su : Nat → Int} (hb : ∀ j, j < 8 → fa j = 31 ∧ su j = (j : Int) + 1) : ∀ (ws : List Int) (a b : Int), (∀ s ∈ ws, 0 ≤ s ∧ s < 8) → (tly fa su ws (a, b)).2 = ws.foldl (fun z s => 31 * z + s + 1) b
  | [], _, _, _ => rfl
  | x :: r, a, b, h => by
    have h1 := h x List.mem_cons_self
    have h2 := hb x.toNat (by omega)
    rw [tly, tly_mark hb r _ _ (fun s hs => h s (List.mem_cons_of_mem _ hs)), List.foldl_cons]
    dsimp only
    rw [h2.1, h2.2, show b * 31 + (((x.toNat : Nat) : Int) + 1) = 31 * b + x + 1 by omega]
theorem tly_cnt {fa su : Nat → Int} {l : Int} (hb : ∀ j : Nat, j < 8 → fa j = 1 ∧ su j = if (j : Int) = l then 1 else 0) : ∀ (ws : List Int) (a b : Int), (∀ s ∈ ws, 0 ≤ s ∧ s < 8) → (tly fa su ws (a, b)).2 = b + (cntE l ws : Int)
  | [], _, b, _ => by rw [tly, cntE]; simp
  | x :: r, a, b, h => by
    have h1 := h x List.mem_cons_self
    have h2 := hb x.toNat (by omega)
    rw [tly, tly_cnt hb r _ _ (fun s hs => h s (List.mem_cons_of_mem _ hs)), cntE]
    dsimp only
    rw [h2.1, h2.2, show ((x.toNat : Nat) : Int) = x by omega, Int.mul_one]
    split <;> omega
section CLS5
variable {M : PM} {c : Nat} {S : ST}
theorem tal_word {G : GS} {g : Nat} {p : Nat → Nat} {X : Nat → List Int} {lt dp us fa su : Nat → Int} {st : Int} (h : GV M g G p X lt dp us) : tly (tbl X (fa, su) G.1.length).1 (tbl X (fa, su) G.1.length).2 G.2 (1, st) = tly fa su (wordG G) (1, st) := by
  obtain ⟨h1, h2, h3, -⟩ := h
  have hX : WFX G.1.length X := fun k hk s hs => h3.1 k hk s (by rw [← h2 k hk]; exact hs)
  rw [tly_tel hX _ (Nat.le_refl _) _ _ h3.2.1]
  unfold wordG
  rw [tel_congrX _ h2]
theorem tallyHelp {M' : PM} {fa su : Nat → Int} {f s : Int} (h : CS M c S) (k : Fr (inY (c + 484)) M M') (ht : Ty M' (c + 484) fa su f s) : Fr (inC c) M M' ∧ CS M' c S := by
  obtain ⟨w1, w2, ⟨fl, rp, w3⟩, ⟨ro, po, o, w4⟩, ⟨ro', po', o', w5⟩⟩ := h.2.2.2.2.2.2.2
  exact h.help k (fun q hq => by unfold inY at hq; omega) ⟨w1.fr k (by unfold inY; omega) (by unfold inY; omega), ⟨_, _, _, _, ht⟩, ⟨fl, rp, k.at (by unfold inY; omega) w3⟩, ⟨ro, po, o, w4.fr k (by unfold inY; omega) (by unfold inY; omega) (by unfold inY; omega)⟩, ⟨ro', po', o', w5.fr k (by unfold inY; omega) (by unfold inY; omega) (by unfold inY; omega)⟩⟩
theorem c_PG_mark (h : CS M c S) : Wm 106 [.ref c] M (fun v M' => v = some (.int (I (spMark S.1))) ∧ Fr (inC c) M M' ∧ CS M' c S) := by
  obtain ⟨a1, a2, a3, a4, a5, a6, a7, a8⟩ := id h
  obtain ⟨p', X', lt', dp', us', y⟩ := a2.gv
  have hX : WFX S.1.1.length X' := fun k hk s hs => y.2.2.1.1 k hk s (by rw [← y.2.1 k hk]; exact hs)
  obtain ⟨-, ⟨fa, su, ff, s, w2⟩, -⟩ := id a8
  have w2' := w2.1
  refine wm_in (lv := _) rfl rfl rfl ?_
  repeat (refine wf rfl ?_; first | refine wq_iadd ?_ | refine wq_isub ?_ | refine wq_imul ?_ | refine wq_iinc rfl ?_ | refine wq_goto ?_ | refine wq_k rfl ?_ | refine wq_b rfl rfl ?_ | refine wq_getf (by assumption) rfl ?_ | refine wq_alen (by assumption) rfl ?_)
  refine wf rfl (wq_cv rfl rfl rfl w2' ((c_Tally_markOfWord (y := c + 484) (g := c + 1) w2 y.1 hX y.2.2.1.2.1 (by omega)).mono ?_))
  rintro v M1 ⟨f1, fa1, su1, f', s', k1, k2, rfl⟩
  repeat' (refine wf rfl ?_; first | refine wq_iadd ?_ | refine wq_isub ?_ | refine wq_imul ?_ | refine wq_iinc rfl ?_ | refine wq_goto ?_ | refine wq_k rfl ?_ | refine wq_b rfl rfl ?_ | refine wq_getf (by assumption) rfl ?_ | refine wq_alen (by assumption) rfl ?_ | (refine wq_eq ⟨by omega, by omega⟩ ⟨by omega, by omega⟩ (fun _ => ?_) (fun _ => ?_) <;> try (exfalso; omega)) | (refine wq_ne ⟨by omega, by omega⟩ ⟨by omega, by omega⟩ (fun _ => ?_) (fun _ => ?_) <;> try (exfalso; omega)) | (refine wq_lt ⟨by omega, by omega⟩ ⟨by omega, by omega⟩ (fun _ => ?_) (fun _ => ?_) <;> try (exfalso; omega)) | (refine wq_ge ⟨by omega, by omega⟩ ⟨by omega, by omega⟩ (fun _ => ?_) (fun _ => ?_) <;> try (exfalso; omega)) | (refine wq_gt ⟨by omega, by omega⟩ ⟨by omega, by omega⟩ (fun _ => ?_) (fun _ => ?_) <;> try (exfalso; omega)) | (refine wq_le ⟨by omega, by omega⟩ ⟨by omega, by omega⟩ (fun _ => ?_) (fun _ => ?_) <;> try (exfalso; omega)) | (refine wq_ifeq ⟨by omega, by omega⟩ (fun _ => ?_) (fun _ => ?_) <;> try (exfalso; omega)) | (refine wq_ifne ⟨by omega, by omega⟩ (fun _ => ?_) (fun _ => ?_) <;> try (exfalso; omega)) | (refine wq_iflt ⟨by omega, by omega⟩ (fun _ => ?_) (fun _ => ?_) <;> try (exfalso; omega)) | (refine wq_ifge ⟨by omega, by omega⟩ (fun _ => ?_) (fun _ => ?_) <;> try (exfalso; omega)) | (refine wq_ifgt ⟨by omega, by omega⟩ (fun _ => ?_) (fun _ => ?_) <;> try (exfalso; omega)) | (refine wq_ifle ⟨by omega, by omega⟩ (fun _ => ?_) (fun _ => ?_) <;> try (exfalso; omega)) | refine wq_r rfl rfl rfl rfl rfl rfl ?_)
  refine ⟨?_, tallyHelp h f1 k1⟩
  rw [tal_word y, tly_mark k2 _ _ _ (word_letters y.2.2.1)]
  rfl
theorem c_PG_ratio (h : CS M c S) (hK : OKG S.1) : Wm 104 [.ref c] M (fun v M' => v = some (.long (spRatio S.1)) ∧ Fr (inC c) M M' ∧ CS M' c S) := by
  have hwb := wlG_bd hK.1
  have hwl := hK.2.1
  have hwk := hK.wl
  obtain ⟨a1, a2, a3, a4, a5, a6, a7, a8⟩ := id h
  obtain ⟨fn, hn0⟩ := a2.obj
  obtain ⟨p', X', lt', dp', us', y1, y2, -⟩ := a2.gv
  have hN := y1.le
  have hml := y1.main.len
  have hsb : (S.1.2.length : Int) ≤ szG S.1 ∧ szG S.1 ≤ 2500 := by
    have hb := smN_bd (f := fun j => ((xof S.1.1 j).length : Int)) (B := 80) (k := S.1.1.length) (fun j hj => by have := (y1.row (k := j) (by omega)).len; rw [y2 j hj] at this; omega)
    unfold szG
    omega
  unfold spRatio
  refine wm_in (lv := _) rfl rfl rfl ?_
  repeat (refine wf rfl ?_; first | refine wq_iadd ?_ | refine wq_isub ?_ | refine wq_imul ?_ | refine wq_iinc rfl ?_ | refine wq_goto ?_ | refine wq_k rfl ?_ | refine wq_b rfl rfl ?_ | refine wq_getf (by assumption) rfl ?_ | refine wq_alen (by assumption) rfl ?_)
  refine wf rfl (wq_cv rfl rfl rfl hn0 ((c_GM_wordLetters a2).mono ?_))
  rintro v M ⟨rfl, rfl⟩
  by_cases h0 : wlG S.1 = 0
  · rw [if_pos h0, h0]
    repeat' (refine wf rfl ?_; first | refine wq_iadd ?_ | refine wq_isub ?_ | refine wq_imul ?_ | refine wq_iinc rfl ?_ | refine wq_goto ?_ | refine wq_k rfl ?_ | refine wq_b rfl rfl ?_ | refine wq_getf (by assumption) rfl ?_ | refine wq_alen (by assumption) rfl ?_ | (refine wq_eq ⟨by omega, by omega⟩ ⟨by omega, by omega⟩ (fun _ => ?_) (fun _ => ?_) <;> try (exfalso; omega)) | (refine wq_ne ⟨by omega, by omega⟩ ⟨by omega, by omega⟩ (fun _ => ?_) (fun _ => ?_) <;> try (exfalso; omega)) | (refine wq_lt ⟨by omega, by omega⟩ ⟨by omega, by omega⟩ (fun _ => ?_) (fun _ => ?_) <;> try (exfalso; omega)) | (refine wq_ge ⟨by omega, by omega⟩ ⟨by omega, by omega⟩ (fun _ => ?_) (fun _ => ?_) <;> try (exfalso; omega)) | (refine wq_gt ⟨by omega, by omega⟩ ⟨by omega, by omega⟩ (fun _ => ?_) (fun _ => ?_) <;> try (exfalso; omega)) | (refine wq_le ⟨by omega, by omega⟩ ⟨by omega, by omega⟩ (fun _ => ?_) (fun _ => ?_) <;> try (exfalso; omega)) | (refine wq_ifeq ⟨by omega, by omega⟩ (fun _ => ?_) (fun _ => ?_) <;> try (exfalso; omega)) | (refine wq_ifne ⟨by omega, by omega⟩ (fun _ => ?_) (fun _ => ?_) <;> try (exfalso; omega)) | (refine wq_iflt ⟨by omega, by omega⟩ (fun _ => ?_) (fun _ => ?_) <;> try (exfalso; omega)) | (refine wq_ifge ⟨by omega, by omega⟩ (fun _ => ?_) (fun _ => ?_) <;> try (exfalso; omega)) | (refine wq_ifgt ⟨by omega, by omega⟩ (fun _ => ?_) (fun _ => ?_) <;> try (exfalso; omega)) | (refine wq_ifle ⟨by omega, by omega⟩ (fun _ => ?_) (fun _ => ?_) <;> try (exfalso; omega)) | refine wq_r rfl rfl rfl rfl rfl rfl ?_)
    exact ⟨rfl, Fr.rf, h⟩
  · rw [if_neg h0]
    have hne : 1 ≤ S.1.2.length := by
      rcases Nat.eq_zero_or_pos S.1.2.length with w | w
      · have := List.eq_nil_of_length_eq_zero w
        rw [this, sumL] at hwk
        exact absurd hwk h0
      · exact w
    obtain ⟨E, t, q1, q2, q3, q4⟩ := ddiv_int (s := (szG S.1).toNat) (n := (wlG S.1).toNat) (by omega) (by omega)
    rw [show (((szG S.1).toNat : Nat) : Int) = szG S.1 by omega, show (((wlG S.1).toNat : Nat) : Int) = wlG S.1 by omega] at q1
    rw [q1]
    repeat (refine wf rfl ?_; first | refine wq_iadd ?_ | refine wq_isub ?_ | refine wq_imul ?_ | refine wq_iinc rfl ?_ | refine wq_goto ?_ | refine wq_k rfl ?_ | refine wq_b rfl rfl ?_ | refine wq_getf (by assumption) rfl ?_ | refine wq_alen (by assumption) rfl ?_)
    refine wf rfl (wq_ifne ⟨by omega, by omega⟩ (fun _ => ?_) (fun c9 => absurd c9 h0))
    repeat (refine wf rfl ?_; first | refine wq_iadd ?_ | refine wq_isub ?_ | refine wq_imul ?_ | refine wq_iinc rfl ?_ | refine wq_goto ?_ | refine wq_k rfl ?_ | refine wq_b rfl rfl ?_ | refine wq_getf (by assumption) rfl ?_ | refine wq_alen (by assumption) rfl ?_)
    refine wf rfl (wq_cv rfl rfl rfl hn0 ((c_GM_totalSize a2).mono ?_))
    rintro v M ⟨rfl, rfl⟩
    repeat (refine wf rfl ?_; first | refine wq_ddiv q1 (DD_nan q2) ?_ | refine wq_iadd ?_ | refine wq_isub ?_ | refine wq_imul ?_ | refine wq_iinc rfl ?_ | refine wq_goto ?_ | refine wq_k rfl ?_ | refine wq_b rfl rfl ?_ | refine wq_getf (by assumption) rfl ?_ | refine wq_alen (by assumption) rfl ?_)
    refine wf rfl (wq_cs rfl rfl ((c_bitsOf52 (by omega) q2.2.2).mono ?_))
    rintro v M ⟨rfl, rfl⟩
    repeat' (refine wf rfl ?_; first | refine wq_iadd ?_ | refine wq_isub ?_ | refine wq_imul ?_ | refine wq_iinc rfl ?_ | refine wq_goto ?_ | refine wq_k rfl ?_ | refine wq_b rfl rfl ?_ | refine wq_getf (by assumption) rfl ?_ | refine wq_alen (by assumption) rfl ?_ | (refine wq_eq ⟨by omega, by omega⟩ ⟨by omega, by omega⟩ (fun _ => ?_) (fun _ => ?_) <;> try (exfalso; omega)) | (refine wq_ne ⟨by omega, by omega⟩ ⟨by omega, by omega⟩ (fun _ => ?_) (fun _ => ?_) <;> try (exfalso; omega)) | (refine wq_lt ⟨by omega, by omega⟩ ⟨by omega, by omega⟩ (fun _ => ?_) (fun _ => ?_) <;> try (exfalso; omega)) | (refine wq_ge ⟨by omega, by omega⟩ ⟨by omega, by omega⟩ (fun _ => ?_) (fun _ => ?_) <;> try (exfalso; omega)) | (refine wq_gt ⟨by omega, by omega⟩ ⟨by omega, by omega⟩ (fun _ => ?_) (fun _ => ?_) <;> try (exfalso; omega)) | (refine wq_le ⟨by omega, by omega⟩ ⟨by omega, by omega⟩ (fun _ => ?_) (fun _ => ?_) <;> try (exfalso; omega)) | (refine wq_ifeq ⟨by omega, by omega⟩ (fun _ => ?_) (fun _ => ?_) <;> try (exfalso; omega)) | (refine wq_ifne ⟨by omega, by omega⟩ (fun _ => ?_) (fun _ => ?_) <;> try (exfalso; omega)) | (refine wq_iflt ⟨by omega, by omega⟩ (fun _ => ?_) (fun _ => ?_) <;> try (exfalso; omega)) | (refine wq_ifge ⟨by omega, by omega⟩ (fun _ => ?_) (fun _ => ?_) <;> try (exfalso; omega)) | (refine wq_ifgt ⟨by omega, by omega⟩ (fun _ => ?_) (fun _ => ?_) <;> try (exfalso; omega)) | (refine wq_ifle ⟨by omega, by omega⟩ (fun _ => ?_) (fun _ => ?_) <;> try (exfalso; omega)) | refine wq_r rfl rfl rfl rfl rfl rfl ?_)
    exact ⟨rfl, Fr.rf, h⟩
theorem D0_nan : FP.dconst0 &&& 0x7fffffffffffffff ≤ 0x7ff0000000000000 := by decide
theorem F0_f2d : FP.f2d 0 = FP.dconst0 := by decide
theorem c_PG_share {l : Int} (hl : inR l) (h : CS M c S) (hK : OKG S.1) : Wm 105 [.ref c, .int (I l)] M (fun v M' => v = some (.int (I (spShare l S.1))) ∧ Fr (inC c) M M' ∧ CS M' c S) := by
  obtain ⟨hl1, hl2⟩ := id hl
  have hlen := word_len hK
  have hwl := hK.2.1
  have hwb := wlG_bd hK.1
  have hce := cntE_le l (wordG S.1)
  obtain ⟨a1, a2, a3, a4, a5, a6, a7, a8⟩ := id h
  obtain ⟨fn, hn0⟩ := a2.obj
  obtain ⟨p', X', lt', dp', us', y⟩ := a2.gv
  have hX : WFX S.1.1.length X' := fun k hk s hs => y.2.2.1.1 k hk s (by rw [← y.2.1 k hk]; exact hs)
  obtain ⟨-, ⟨fa, su, ff, s, w2⟩, -⟩ := id a8
  have w2' := w2.1
  unfold spShare
  refine wm_in (lv := _) rfl rfl rfl ?_
  repeat (refine wf rfl ?_; first | refine wq_iadd ?_ | refine wq_isub ?_ | refine wq_imul ?_ | refine wq_iinc rfl ?_ | refine wq_goto ?_ | refine wq_k rfl ?_ | refine wq_b rfl rfl ?_ | refine wq_getf (by assumption) rfl ?_ | refine wq_alen (by assumption) rfl ?_)
  refine wf rfl (wq_cs rfl rfl ((c_isLetter8 hl).mono ?_))
  rintro v M ⟨rfl, rfl⟩
  by_cases hq : 0 ≤ l ∧ l < 8
  · rw [if_pos hq, if_pos hq]
    refine wf rfl (wq_ifne ⟨by omega, by omega⟩ (fun _ => ?_) (fun c9 => by exfalso; omega))
    repeat (refine wf rfl ?_; first | refine wq_iadd ?_ | refine wq_isub ?_ | refine wq_imul ?_ | refine wq_iinc rfl ?_ | refine wq_goto ?_ | refine wq_k rfl ?_ | refine wq_b rfl rfl ?_ | refine wq_getf (by assumption) rfl ?_ | refine wq_alen (by assumption) rfl ?_)
    refine wf rfl (wq_cv rfl rfl rfl hn0 ((c_GM_wordLetters a2).mono ?_))
    rintro v M ⟨rfl, rfl⟩
    by_cases h0 : wlG S.1 = 0
    · rw [if_pos h0, h0]
      repeat' (refine wf rfl ?_; first | refine wq_iadd ?_ | refine wq_isub ?_ | refine wq_imul ?_ | refine wq_iinc rfl ?_ | refine wq_goto ?_ | refine wq_k rfl ?_ | refine wq_b rfl rfl ?_ | refine wq_getf (by assumption) rfl ?_ | refine wq_alen (by assumption) rfl ?_ | (refine wq_eq ⟨by omega, by omega⟩ ⟨by omega, by omega⟩ (fun _ => ?_) (fun _ => ?_) <;> try (exfalso; omega)) | (refine wq_ne ⟨by omega, by omega⟩ ⟨by omega, by omega⟩ (fun _ => ?_) (fun _ => ?_) <;> try (exfalso; omega)) | (refine wq_lt ⟨by omega, by omega⟩ ⟨by omega, by omega⟩ (fun _ => ?_) (fun _ => ?_) <;> try (exfalso; omega)) | (refine wq_ge ⟨by omega, by omega⟩ ⟨by omega, by omega⟩ (fun _ => ?_) (fun _ => ?_) <;> try (exfalso; omega)) | (refine wq_gt ⟨by omega, by omega⟩ ⟨by omega, by omega⟩ (fun _ => ?_) (fun _ => ?_) <;> try (exfalso; omega)) | (refine wq_le ⟨by omega, by omega⟩ ⟨by omega, by omega⟩ (fun _ => ?_) (fun _ => ?_) <;> try (exfalso; omega)) | (refine wq_ifeq ⟨by omega, by omega⟩ (fun _ => ?_) (fun _ => ?_) <;> try (exfalso; omega)) | (refine wq_ifne ⟨by omega, by omega⟩ (fun _ => ?_) (fun _ => ?_) <;> try (exfalso; omega)) | (refine wq_iflt ⟨by omega, by omega⟩ (fun _ => ?_) (fun _ => ?_) <;> try (exfalso; omega)) | (refine wq_ifge ⟨by omega, by omega⟩ (fun _ => ?_) (fun _ => ?_) <;> try (exfalso; omega)) | (refine wq_ifgt ⟨by omega, by omega⟩ (fun _ => ?_) (fun _ => ?_) <;> try (exfalso; omega)) | (refine wq_ifle ⟨by omega, by omega⟩ (fun _ => ?_) (fun _ => ?_) <;> try (exfalso; omega)) | refine wq_r rfl rfl rfl rfl rfl rfl ?_)
      exact ⟨rfl, Fr.rf, h⟩
    · rw [if_neg h0, I_of]
      repeat (refine wf rfl ?_; first | refine wq_iadd ?_ | refine wq_isub ?_ | refine wq_imul ?_ | refine wq_iinc rfl ?_ | refine wq_goto ?_ | refine wq_k rfl ?_ | refine wq_b rfl rfl ?_ | refine wq_getf (by assumption) rfl ?_ | refine wq_alen (by assumption) rfl ?_)
      refine wf rfl (wq_ifne ⟨by omega, by omega⟩ (fun _ => ?_) (fun c9 => absurd c9 h0))
      repeat (refine wf rfl ?_; first | refine wq_iadd ?_ | refine wq_isub ?_ | refine wq_imul ?_ | refine wq_iinc rfl ?_ | refine wq_goto ?_ | refine wq_k rfl ?_ | refine wq_b rfl rfl ?_ | refine wq_getf (by assumption) rfl ?_ | refine wq_alen (by assumption) rfl ?_)
      refine wf rfl (wq_cv rfl rfl rfl w2' ((c_Tally_timesOfLetter (y := c + 484) (g := c + 1) hl w2 y.1 hX y.2.2.1.2.1 (by omega)).mono ?_))
      rintro v M1 ⟨f1, fa1, su1, f', s', k1, k2, rfl⟩
      have fin := tallyHelp h f1 k1
      rw [tal_word y, tly_cnt k2 _ _ _ (word_letters y.2.2.1), Int.zero_add]
      unfold shr
      by_cases hz : cntE l (wordG S.1) = 0
      · have q := fdiv_0 (n := (wlG S.1).toNat) (by omega)
        rw [show (((wlG S.1).toNat : Nat) : Int) = wlG S.1 by omega] at q
        rw [hz]
        have q : FP.fdiv (FP.i2f (I ((0 : Nat) : Int))) (FP.i2f (I (wlG S.1))) = 0 := q
        rw [q]
        repeat (refine wf rfl ?_; first | refine wq_fdiv q F0_nan ?_ | refine wq_f2d F0_f2d D0_nan ?_ | refine wq_iadd ?_ | refine wq_isub ?_ | refine wq_imul ?_ | refine wq_iinc rfl ?_ | refine wq_goto ?_ | refine wq_k rfl ?_ | refine wq_b rfl rfl ?_ | refine wq_getf (by assumption) rfl ?_ | refine wq_alen (by assumption) rfl ?_)
        refine wf rfl (wq_cs rfl rfl (c_bitsOf0.mono ?_))
        rintro v M1 ⟨rfl, rfl⟩
        repeat' (refine wf rfl ?_; first | refine wq_iadd ?_ | refine wq_isub ?_ | refine wq_imul ?_ | refine wq_iinc rfl ?_ | refine wq_goto ?_ | refine wq_k rfl ?_ | refine wq_b rfl rfl ?_ | refine wq_getf (by assumption) rfl ?_ | refine wq_alen (by assumption) rfl ?_ | (refine wq_eq ⟨by omega, by omega⟩ ⟨by omega, by omega⟩ (fun _ => ?_) (fun _ => ?_) <;> try (exfalso; omega)) | (refine wq_ne ⟨by omega, by omega⟩ ⟨by omega, by omega⟩ (fun _ => ?_) (fun _ => ?_) <;> try (exfalso; omega)) | (refine wq_lt ⟨by omega, by omega⟩ ⟨by omega, by omega⟩ (fun _ => ?_) (fun _ => ?_) <;> try (exfalso; omega)) | (refine wq_ge ⟨by omega, by omega⟩ ⟨by omega, by omega⟩ (fun _ => ?_) (fun _ => ?_) <;> try (exfalso; omega)) | (refine wq_gt ⟨by omega, by omega⟩ ⟨by omega, by omega⟩ (fun _ => ?_) (fun _ => ?_) <;> try (exfalso; omega)) | (refine wq_le ⟨by omega, by omega⟩ ⟨by omega, by omega⟩ (fun _ => ?_) (fun _ => ?_) <;> try (exfalso; omega)) | (refine wq_ifeq ⟨by omega, by omega⟩ (fun _ => ?_) (fun _ => ?_) <;> try (exfalso; omega)) | (refine wq_ifne ⟨by omega, by omega⟩ (fun _ => ?_) (fun _ => ?_) <;> try (exfalso; omega)) | (refine wq_iflt ⟨by omega, by omega⟩ (fun _ => ?_) (fun _ => ?_) <;> try (exfalso; omega)) | (refine wq_ifge ⟨by omega, by omega⟩ (fun _ => ?_) (fun _ => ?_) <;> try (exfalso; omega)) | (refine wq_ifgt ⟨by omega, by omega⟩ (fun _ => ?_) (fun _ => ?_) <;> try (exfalso; omega)) | (refine wq_ifle ⟨by omega, by omega⟩ (fun _ => ?_) (fun _ => ?_) <;> try (exfalso; omega)) | refine wq_r rfl rfl rfl rfl rfl rfl ?_)
        exact ⟨rfl, fin⟩
      · obtain ⟨E, t, q, y2, y3, y4⟩ := fdiv_int (s := cntE l (wordG S.1)) (n := (wlG S.1).toNat) (by omega) (by omega)
        rw [show (((wlG S.1).toNat : Nat) : Int) = wlG S.1 by omega] at q
        rw [q, FF_int y2]
        repeat (refine wf rfl ?_; first | refine wq_fdiv q (FF_nan y2) ?_ | refine wq_f2d (FF_f2d y2) (DD_nan ⟨by omega, by omega, by have := y2.2.2; omega⟩) ?_ | refine wq_iadd ?_ | refine wq_isub ?_ | refine wq_imul ?_ | refine wq_iinc rfl ?_ | refine wq_goto ?_ | refine wq_k rfl ?_ | refine wq_b rfl rfl ?_ | refine wq_getf (by assumption) rfl ?_ | refine wq_alen (by assumption) rfl ?_)
        refine wf rfl (wq_cs rfl rfl ((c_bitsOf23 ⟨y3, y4⟩ y2.2.2).mono ?_))
        rintro v M1 ⟨rfl, rfl⟩
        repeat' (refine wf rfl ?_; first | refine wq_iadd ?_ | refine wq_isub ?_ | refine wq_imul ?_ | refine wq_iinc rfl ?_ | refine wq_goto ?_ | refine wq_k rfl ?_ | refine wq_b rfl rfl ?_ | refine wq_getf (by assumption) rfl ?_ | refine wq_alen (by assumption) rfl ?_ | (refine wq_eq ⟨by omega, by omega⟩ ⟨by omega, by omega⟩ (fun _ => ?_) (fun _ => ?_) <;> try (exfalso; omega)) | (refine wq_ne ⟨by omega, by omega⟩ ⟨by omega, by omega⟩ (fun _ => ?_) (fun _ => ?_) <;> try (exfalso; omega)) | (refine wq_lt ⟨by omega, by omega⟩ ⟨by omega, by omega⟩ (fun _ => ?_) (fun _ => ?_) <;> try (exfalso; omega)) | (refine wq_ge ⟨by omega, by omega⟩ ⟨by omega, by omega⟩ (fun _ => ?_) (fun _ => ?_) <;> try (exfalso; omega)) | (refine wq_gt ⟨by omega, by omega⟩ ⟨by omega, by omega⟩ (fun _ => ?_) (fun _ => ?_) <;> try (exfalso; omega)) | (refine wq_le ⟨by omega, by omega⟩ ⟨by omega, by omega⟩ (fun _ => ?_) (fun _ => ?_) <;> try (exfalso; omega)) | (refine wq_ifeq ⟨by omega, by omega⟩ (fun _ => ?_) (fun _ => ?_) <;> try (exfalso; omega)) | (refine wq_ifne ⟨by omega, by omega⟩ (fun _ => ?_) (fun _ => ?_) <;> try (exfalso; omega)) | (refine wq_iflt ⟨by omega, by omega⟩ (fun _ => ?_) (fun _ => ?_) <;> try (exfalso; omega)) | (refine wq_ifge ⟨by omega, by omega⟩ (fun _ => ?_) (fun _ => ?_) <;> try (exfalso; omega)) | (refine wq_ifgt ⟨by omega, by omega⟩ (fun _ => ?_) (fun _ => ?_) <;> try (exfalso; omega)) | (refine wq_ifle ⟨by omega, by omega⟩ (fun _ => ?_) (fun _ => ?_) <;> try (exfalso; omega)) | refine wq_r rfl rfl rfl rfl rfl rfl ?_)
        exact ⟨rfl, fin⟩
  · rw [if_neg hq, if_neg hq]
    repeat' (refine wf rfl ?_; first | refine wq_iadd ?_ | refine wq_isub ?_ | refine wq_imul ?_ | refine wq_iinc rfl ?_ | refine wq_goto ?_ | refine wq_k rfl ?_ | refine wq_b rfl rfl ?_ | refine wq_getf (by assumption) rfl ?_ | refine wq_alen (by assumption) rfl ?_ | (refine wq_eq ⟨by omega, by omega⟩ ⟨by omega, by omega⟩ (fun _ => ?_) (fun _ => ?_) <;> try (exfalso; omega)) | (refine wq_ne ⟨by omega, by omega⟩ ⟨by omega, by omega⟩ (fun _ => ?_) (fun _ => ?_) <;> try (exfalso; omega)) | (refine wq_lt ⟨by omega, by omega⟩ ⟨by omega, by omega⟩ (fun _ => ?_) (fun _ => ?_) <;> try (exfalso; omega)) | (refine wq_ge ⟨by omega, by omega⟩ ⟨by omega, by omega⟩ (fun _ => ?_) (fun _ => ?_) <;> try (exfalso; omega)) | (refine wq_gt ⟨by omega, by omega⟩ ⟨by omega, by omega⟩ (fun _ => ?_) (fun _ => ?_) <;> try (exfalso; omega)) | (refine wq_le ⟨by omega, by omega⟩ ⟨by omega, by omega⟩ (fun _ => ?_) (fun _ => ?_) <;> try (exfalso; omega)) | (refine wq_ifeq ⟨by omega, by omega⟩ (fun _ => ?_) (fun _ => ?_) <;> try (exfalso; omega)) | (refine wq_ifne ⟨by omega, by omega⟩ (fun _ => ?_) (fun _ => ?_) <;> try (exfalso; omega)) | (refine wq_iflt ⟨by omega, by omega⟩ (fun _ => ?_) (fun _ => ?_) <;> try (exfalso; omega)) | (refine wq_ifge ⟨by omega, by omega⟩ (fun _ => ?_) (fun _ => ?_) <;> try (exfalso; omega)) | (refine wq_ifgt ⟨by omega, by omega⟩ (fun _ => ?_) (fun _ => ?_) <;> try (exfalso; omega)) | (refine wq_ifle ⟨by omega, by omega⟩ (fun _ => ?_) (fun _ => ?_) <;> try (exfalso; omega)) | refine wq_r rfl rfl rfl rfl rfl rfl ?_)
    exact ⟨rfl, Fr.rf, h⟩
end CLS5
