/-! Fewer locals, in another order. -/
section SUBL
def lfun (lv : LV) : Prop := ∀ k v v', (k, v) ∈ lv → (k, v') ∈ lv → v = v'
def lrel (l1 l2 : LV) : Prop := (∀ q ∈ l1, q ∈ l2) ∧ lfun l2
theorem lget_some {lv : LV} (hf : lfun lv) : ∀ {l : LV} {k : Nat} {v : Value}, (∀ q ∈ l, q ∈ lv) → (k, v) ∈ l → lget l k = some v
  | [], _, _, _, h => absurd h List.not_mem_nil
  | q :: r, k, v, hs, h => by
    unfold lget
    split
    · rename_i e
      have e := Nat.eq_of_beq_eq_true e
      have h1 : (k, q.2) ∈ lv := by
        have := hs q List.mem_cons_self
        rw [← e]
        exact this
      rw [hf k q.2 v h1 (hs _ h)]
    · rename_i e
      rcases List.mem_cons.mp h with e2 | h
      · rw [← e2] at e
        rw [Nat.beq_refl] at e
        cases e
      · exact lget_some hf (fun z hz => hs z (List.mem_cons_of_mem _ hz)) h
theorem lrel.get {l1 l2 : LV} (h : lrel l1 l2) {k : Nat} {v : Value} (hg : lget l1 k = some v) : lget l2 k = some v :=
  lget_some h.2 (fun _ hq => hq) (h.1 _ (lget_mem hg))
theorem mem_ldel1 {i : Nat} {q : Nat × Value} : ∀ {lv : LV}, q ∈ ldel1 i lv ↔ q ∈ lv ∧ (Nat.beq q.1 i || (Nat.beq (q.1 + 1) i && cat2 q.2)) = false
  | [] => by simp [ldel1]
  | z :: r => by
    have ih := mem_ldel1 (i := i) (q := q) (lv := r)
    unfold ldel1
    split
    · rename_i e
      rw [ih, List.mem_cons]
      constructor
      · exact fun h => ⟨Or.inr h.1, h.2⟩
      · rintro ⟨h1 | h1, h2⟩
        · rw [h1, e] at h2; cases h2
        · exact ⟨h1, h2⟩
    · rename_i e
      rw [List.mem_cons, ih, List.mem_cons]
      constructor
      · rintro (h | h)
        · exact ⟨Or.inl h, by rw [h]; exact e⟩
        · exact ⟨Or.inr h.1, h.2⟩
      · rintro ⟨h1 | h1, h2⟩
        · exact Or.inl h1
        · exact Or.inr ⟨h1, h2⟩
theorem mem_ldel2 {i : Nat} {q : Nat × Value} : ∀ {lv : LV}, q ∈ ldel2 i lv ↔ q ∈ lv ∧ (Nat.beq q.1 i || (Nat.beq q.1 (i + 1) || (Nat.beq (q.1 + 1) i && cat2 q.2))) = false
  | [] => by simp [ldel2]
  | z :: r => by
    have ih := mem_ldel2 (i := i) (q := q) (lv := r)
    unfold ldel2
    split
    · rename_i e
      rw [ih, List.mem_cons]
      constructor
      · exact fun h => ⟨Or.inr h.1, h.2⟩
      · rintro ⟨h1 | h1, h2⟩
        · rw [h1, e] at h2; cases h2
        · exact ⟨h1, h2⟩
    · rename_i e
      rw [List.mem_cons, ih, List.mem_cons]
      constructor
      · rintro (h | h)
        · exact ⟨Or.inl h, by rw [h]; exact e⟩
        · exact ⟨Or.inr h.1, h.2⟩
      · rintro ⟨h1 | h1, h2⟩
        · exact Or.inl h1
        · exact Or.inr ⟨h1, h2⟩
theorem lrel.st1 {l1 l2 : LV} (h : lrel l1 l2) (i : Nat) (v : Value) : lrel (lst1 i v l1) (lst1 i v l2) := by
  refine ⟨fun q hq => ?_, fun k v1 v2 h1 h2 => ?_⟩
  · rcases List.mem_cons.mp hq with e | hq
    · rw [e]; exact List.mem_cons_self
    · have := mem_ldel1.mp hq
      exact List.mem_cons_of_mem _ (mem_ldel1.mpr ⟨h.1 _ this.1, this.2⟩)
  · rcases List.mem_cons.mp h1 with e1 | h1 <;> rcases List.mem_cons.mp h2 with e2 | h2
    · cases e1; cases e2; rfl
    · cases e1
      have := (mem_ldel1.mp h2).2
      rw [Bool.or_eq_false_iff] at this
      have := this.1
      rw [Nat.beq_refl] at this
      cases this
    · cases e2
      have := (mem_ldel1.mp h1).2
      rw [Bool.or_eq_false_iff] at this
      have := this.1
      rw [Nat.beq_refl] at this
      cases this
    · exact h.2 k v1 v2 (mem_ldel1.mp h1).1 (mem_ldel1.mp h2).1
theorem lrel.st2 {l1 l2 : LV} (h : lrel l1 l2) (i : Nat) (v : Value) : lrel (lst2 i v l1) (lst2 i v l2) := by
  refine ⟨fun q hq => ?_, fun k v1 v2 h1 h2 => ?_⟩
  · rcases List.mem_cons.mp hq with e | hq
    · rw [e]; exact List.mem_cons_self
    · have := mem_ldel2.mp hq
      exact List.mem_cons_of_mem _ (mem_ldel2.mpr ⟨h.1 _ this.1, this.2⟩)
  · rcases List.mem_cons.mp h1 with e1 | h1 <;> rcases List.mem_cons.mp h2 with e2 | h2
    · cases e1; cases e2; rfl
    · cases e1
      have := (mem_ldel2.mp h2).2
      rw [Bool.or_eq_false_iff] at this
      have := this.1
      rw [Nat.beq_refl] at this
      cases this
    · cases e2
      have := (mem_ldel2.mp h1).2
      rw [Bool.or_eq_false_iff] at this
      have := this.1
      rw [Nat.beq_refl] at this
      cases this
    · exact h.2 k v1 v2 (mem_ldel2.mp h1).1 (mem_ldel2.mp h2).1
def isLd : Instr → Bool
  | .aload_n _ => true
  | .aload _ => true
  | .iload_n _ => true
  | .iload _ => true
  | .lload_n _ => true
  | .lload _ => true
  | .fload_n _ => true
  | .dload_n _ => true
  | .dload _ => true
  | _ => false
def isSt : Instr → Bool
  | .istore_n _ => true
  | .istore _ => true
  | .lstore _ => true
  | .dstore _ => true
  | .fstore_n _ => true
  | .astore_n _ => true
  | .astore _ => true
  | .iinc _ _ => true
  | _ => false
theorem isLd_none {i : Instr} (h : isLd i = true) (r1 r2 r3 tg pc : Nat) (lv : LV) (sk : List Value) (M : PM) (ret : Option FieldType) : gC i r1 r2 sk = none ∧ gD i sk = none ∧ gE i sk = none ∧ gB i lv sk = none ∧ gG i sk = none ∧ gH i tg r1 r2 sk M = none ∧ gS i pc sk = none ∧ gR ret i sk = none ∧ gI i tg r2 r3 sk M = none := by
  have hI : gI i tg r2 r3 sk M = none := by
    cases hg : gI i tg r2 r3 sk M with
    | none => rfl
    | some z =>
      have hk := (gI_inv (as := z.1) (r := z.2) hg).2.2.2.2
      cases i <;> first | exact hk.elim | cases h
  refine ⟨?_, ?_, ?_, ?_, ?_, ?_, ?_, ?_, hI⟩ <;> cases i <;> first | rfl | cases h
theorem isSt_none {i : Instr} (h : isSt i = true) (r1 r2 r3 tg pc : Nat) (sk : List Value) (M : PM) (ret : Option FieldType) : gG i sk = none ∧ gH i tg r1 r2 sk M = none ∧ gS i pc sk = none ∧ gR ret i sk = none ∧ gI i tg r2 r3 sk M = none := by
  have hI : gI i tg r2 r3 sk M = none := by
    cases hg : gI i tg r2 r3 sk M with
    | none => rfl
    | some z =>
      have hk := (gI_inv (as := z.1) (r := z.2) hg).2.2.2.2
      cases i <;> first | exact hk.elim | cases h
  refine ⟨?_, ?_, ?_, ?_, hI⟩ <;> cases i <;> first | rfl | cases h
theorem noLd {i : Instr} (h : isLd i = false) (lv : LV) : gA i lv = none := by
  cases i <;> first | rfl | cases h
theorem noSt {i : Instr} (h : isSt i = false) (lv : LV) (sk : List Value) : gB i lv sk = none := by
  cases i <;> first | rfl | cases h
theorem gA_rel {l1 l2 : LV} (h : lrel l1 l2) {i : Instr} {v : Value} (hg : gA i l1 = some v) : gA i l2 = some v := by
  unfold gA at hg ⊢
  split at hg
  · obtain ⟨a, h1, rfl⟩ := wR_inv hg; rw [h.get h1]; rfl
  · obtain ⟨a, h1, rfl⟩ := wR_inv hg; rw [h.get h1]; rfl
  · obtain ⟨a, h1, rfl⟩ := wI_inv hg; rw [h.get h1]; rfl
  · obtain ⟨a, h1, rfl⟩ := wI_inv hg; rw [h.get h1]; rfl
  · obtain ⟨a, h1, rfl⟩ := wL_inv hg; rw [h.get h1]; rfl
  · obtain ⟨a, h1, rfl⟩ := wL_inv hg; rw [h.get h1]; rfl
  · obtain ⟨a, h1, rfl⟩ := wF_inv hg; rw [h.get h1]; rfl
  · obtain ⟨a, h1, rfl⟩ := wD_inv hg; rw [h.get h1]; rfl
  · obtain ⟨a, h1, rfl⟩ := wD_inv hg; rw [h.get h1]; rfl
  · cases hg
theorem gB_rel {l1 l2 : LV} (h : lrel l1 l2) {i : Instr} {sk sk' : List Value} {l1' : LV} (hg : gB i l1 sk = some (l1', sk')) : ∃ l2', gB i l2 sk = some (l2', sk') ∧ lrel l1' l2' := by
  unfold gB at hg ⊢
  split at hg
  · split at hg
    · cases hg; exact ⟨_, rfl, h.st1 _ _⟩
    · cases hg
  · split at hg
    · cases hg; exact ⟨_, rfl, h.st1 _ _⟩
    · cases hg
  · split at hg
    · cases hg; exact ⟨_, rfl, h.st2 _ _⟩
    · cases hg
  · split at hg
    · cases hg; exact ⟨_, rfl, h.st2 _ _⟩
    · cases hg
  · split at hg
    · cases hg; exact ⟨_, rfl, h.st1 _ _⟩
    · cases hg
  · split at hg
    · cases hg; exact ⟨_, rfl, h.st1 _ _⟩
    · cases hg
  · split at hg
    · cases hg; exact ⟨_, rfl, h.st1 _ _⟩
    · cases hg
  · split at hg
    · rename_i h1
      cases hg
      rw [h.get h1]
      exact ⟨_, rfl, h.st1 _ _⟩
    · cases hg
  · cases hg
theorem stp_rel {c : MM} {pc : Nat} {l1 l2 : LV} {sk : List Value} {M : PM} (h : lrel l1 l2) {z : CF ⊕ Option Value ⊕ (Nat × List Value × List Value × Nat)} (hs : stp c (pc, l1, sk, M) = some z) :
    (∃ pc' l1' l2' sk' M', z = .inl (pc', l1', sk', M') ∧ stp c (pc, l2, sk, M) = some (.inl (pc', l2', sk', M')) ∧ lrel l1' l2') ∨ ((∃ w, z = .inr w) ∧ stp c (pc, l2, sk, M) = some z) := by
  dsimp only [stp] at hs ⊢
  cases hf : fe c.2 pc with
  | none => rw [hf] at hs; cases hs
  | some t =>
    obtain ⟨i, ln, nx, tg, r1, r2, r3⟩ := t
    rw [hf] at hs
    dsimp only at hs ⊢
    cases ha : gA i l1 with
    | some v =>
      have e1 : gK i l1 r1 r2 sk = some (v :: sk) := by unfold gK; rw [ha]
      have e2 : gK i l2 r1 r2 sk = some (v :: sk) := by unfold gK; rw [gA_rel h ha]
      rw [e1] at hs
      rw [e2]
      dsimp only at hs ⊢
      cases hs
      exact Or.inl ⟨_, _, _, _, _, rfl, rfl, h⟩
    | none =>
      cases hld : isLd i with
      | true =>
        obtain ⟨q1, q2, q3, q4, q5, q6, q7, q8, q9⟩ := isLd_none hld r1 r2 r3 tg pc l1 sk M c.1
        have e1 : gK i l1 r1 r2 sk = none := by unfold gK; rw [ha, q1, q2, q3]
        rw [e1, q4, q5, q6, q7, q8, q9] at hs
        cases hs
      | false =>
        have e1 : gK i l1 r1 r2 sk = gK i l2 r1 r2 sk := by unfold gK; rw [noLd hld, noLd hld]
        rw [e1] at hs
        cases hk : gK i l2 r1 r2 sk with
        | some sk' =>
          rw [hk] at hs
          dsimp only at hs ⊢
          cases hs
          exact Or.inl ⟨_, _, _, _, _, rfl, rfl, h⟩
        | none =>
          rw [hk] at hs
          dsimp only at hs ⊢
          cases hb : gB i l1 sk with
          | some w =>
            obtain ⟨l1', sk'⟩ := w
            obtain ⟨l2', hb2, hr⟩ := gB_rel h hb
            rw [hb] at hs
            rw [hb2]
            dsimp only at hs ⊢
            cases hs
            exact Or.inl ⟨_, _, _, _, _, rfl, rfl, hr⟩
          | none =>
            cases hst : isSt i with
            | true =>
              obtain ⟨q5, q6, q7, q8, q9⟩ := isSt_none hst r1 r2 r3 tg pc sk M c.1
              rw [hb, q5, q6, q7, q8, q9] at hs
              cases hs
            | false =>
              rw [noSt hst] at hs
              rw [noSt hst]
              dsimp only at hs ⊢
              cases hg : gG i sk with
              | some w =>
                rw [hg] at hs
                dsimp only at hs ⊢
                cases hs
                exact Or.inl ⟨_, _, _, _, _, rfl, rfl, h⟩
              | none =>
                rw [hg] at hs
                dsimp only at hs ⊢
                cases hh : gH i tg r1 r2 sk M with
                | some w =>
                  rw [hh] at hs
                  dsimp only at hs ⊢
                  cases hs
                  exact Or.inl ⟨_, _, _, _, _, rfl, rfl, h⟩
                | none =>
                  rw [hh] at hs
                  dsimp only at hs ⊢
                  cases hss : gS i pc sk with
                  | some w =>
                    rw [hss] at hs
                    dsimp only at hs ⊢
                    cases hs
                    exact Or.inl ⟨_, _, _, _, _, rfl, rfl, h⟩
                  | none =>
                    rw [hss] at hs
                    dsimp only at hs ⊢
                    refine Or.inr ⟨?_, hs⟩
                    cases hr : gR c.1 i sk with
                    | some w =>
                      rw [hr] at hs
                      dsimp only at hs
                      cases hs
                      exact ⟨_, rfl⟩
                    | none =>
                      rw [hr] at hs
                      dsimp only at hs
                      cases hi : gI i tg r2 r3 sk M with
                      | some w =>
                        rw [hi] at hs
                        dsimp only at hs
                        cases hs
                        exact ⟨_, rfl⟩
                      | none =>
                        rw [hi] at hs
                        cases hs
theorem run_rel (n : Nat) : ∀ (c : MM) (pc : Nat) (l1 l2 : LV) (sk : List Value) (M : PM) (r : Option Value × PM), lrel l1 l2 → run n c (pc, l1, sk, M) = some r → run n c (pc, l2, sk, M) = some r := by
  induction n with
  | zero => intro c pc l1 l2 sk M r h hr; cases hr
  | succ n ih =>
    intro c pc l1 l2 sk M r h hr
    unfold run at hr ⊢
    cases hs : stp c (pc, l1, sk, M) with
    | none => rw [hs] at hr; cases hr
    | some z =>
      rw [hs] at hr
      rcases stp_rel h hs with ⟨pc', l1', l2', sk', M', rfl, e, hl⟩ | ⟨⟨w, rfl⟩, e⟩
      · rw [e]
        exact ih c pc' l1' l2' sk' M' r hl hr
      · rw [e]
        rcases w with v | ⟨y, as, rr, nx⟩
        · exact hr
        · dsimp only at hr ⊢
          cases hb : Nat.ble (catS as) (mi y).2.2.1 with
          | false => rw [hb] at hr; cases hr
          | true =>
            rw [hb] at hr
            dsimp only at hr ⊢
            cases h1 : run n (mm y) (0, lvs 0 as, [], M) with
            | none => rw [h1] at hr; cases hr
            | some w =>
              rw [h1] at hr
              dsimp only at hr ⊢
              exact ih c nx l1 l2 _ _ r h hr
def lsb : LV → LV → Prop
  | [], _ => True
  | q :: r, lv => lget lv q.1 = some q.2 ∧ lsb r lv
def lnk (k : Nat) : LV → Bool
  | [] => true
  | q :: r => match Nat.beq q.1 k with
    | true => false
    | false => lnk k r
def lnd : LV → Bool
  | [] => true
  | q :: r => lnk q.1 r && lnd r
theorem lnk_ne {k : Nat} : ∀ {l : LV}, lnk k l = true → ∀ q ∈ l, q.1 ≠ k
  | [], _, _, h => absurd h List.not_mem_nil
  | z :: r, hl, q, h => by
    unfold lnk at hl
    split at hl
    · cases hl
    · rename_i e
      rcases List.mem_cons.mp h with e2 | h
      · rw [e2]
        intro e3
        rw [e3, Nat.beq_refl] at e
        cases e
      · exact lnk_ne hl q h
theorem lnd_fun : ∀ {l : LV}, lnd l = true → lfun l
  | [], _ => fun _ _ _ h => absurd h List.not_mem_nil
  | z :: r, hl => by
    have h1 := and1 hl
    have h2 := lnd_fun (and2 hl)
    intro k v1 v2 m1 m2
    rcases List.mem_cons.mp m1 with e1 | m1 <;> rcases List.mem_cons.mp m2 with e2 | m2
    · rw [← e1] at e2; exact (congrArg Prod.snd e2).symm
    · (have e3 : k = z.1 := congrArg Prod.fst e1); exact absurd e3 (lnk_ne h1 (k, v2) m2)
    · (have e3 : k = z.1 := congrArg Prod.fst e2); exact absurd e3 (lnk_ne h1 (k, v1) m1)
    · exact h2 k v1 v2 m1 m2
theorem lsb_mem {lv : LV} : ∀ {l : LV}, lsb l lv → ∀ q ∈ l, q ∈ lv
  | [], _, _, h => absurd h List.not_mem_nil
  | z :: r, hl, q, h => by
    rcases List.mem_cons.mp h with e | h
    · rw [e]; exact lget_mem hl.1
    · exact lsb_mem hl.2 q h
theorem Wp.sub {c : MM} {pc : Nat} {l1 l2 : LV} {sk : List Value} {M : PM} {Q : Option Value → PM → Prop} (h : Wp c (pc, l1, sk, M) Q) (hs : lsb l1 l2) (hn : lnd l2 = true) : Wp c (pc, l2, sk, M) Q := by
  obtain ⟨n, v, M', h1, h2⟩ := h
  exact ⟨n, v, M', run_rel n c pc l1 l2 sk M _ ⟨lsb_mem hs, lnd_fun hn⟩ h1, h2⟩
end SUBL
