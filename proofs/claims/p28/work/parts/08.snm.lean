def tyF (k a : Nat) : FieldType := (parseFieldDescriptor ((vcl k).2.1 a).2.2.1).getD .int
theorem vwCl_at {k : Nat} (h : k < 10) : vwCl[k]? = some (vcl k) := by
  rcases (show k = 0 ∨ k = 1 ∨ k = 2 ∨ k = 3 ∨ k = 4 ∨ k = 5 ∨ k = 6 ∨ k = 7 ∨ k = 8 ∨ k = 9 by omega) with rfl | rfl | rfl | rfl | rfl | rfl | rfl | rfl | rfl | rfl <;> rfl
theorem inX_at {k : Nat} (h : k < 10) : ∀ w ∈ u_ws (vcl k).1 (vcl k).2.1 (vcl k).2.2, w ∈ lw_tbl := by
  rcases (show k = 0 ∨ k = 1 ∨ k = 2 ∨ k = 3 ∨ k = 4 ∨ k = 5 ∨ k = 6 ∨ k = 7 ∨ k = 8 ∨ k = 9 by omega) with rfl | rfl | rfl | rfl | rfl | rfl | rfl | rfl | rfl | rfl
  · exact inX0
  · exact inX1
  · exact inX2
  · exact inX3
  · exact inX4
  · exact inX5
  · exact inX6
  · exact inX7
  · exact inX8
  · exact inX9
def tyOk (k a : Nat) : Prop := parseFieldDescriptor ((vcl k).2.1 a).2.2.1 = some (tyF k a) ∧ ((nth false (nth [] fkl k) a = true ∧ nth true (nth [] fkl k) a = true ∧ tyF k a = .int) ∨ (nth false (nth [] fkl k) a = false ∧ nth true (nth [] fkl k) a = false ∧ ((∃ n, tyF k a = .object n) ∨ ∃ t, tyF k a = .array t)))
theorem nth_dd {α : Type} {d d' : α} : ∀ {l : List α} {k : Nat}, k < l.length → nth d l k = nth d' l k
  | [], _, h => absurd h (Nat.not_lt_zero _)
  | _ :: _, 0, _ => rfl
  | _ :: l, k + 1, h => show nth d l k = nth d' l k from nth_dd (l := l) (k := k) (by simpa using h)
theorem nth_get {α : Type} {d : α} : ∀ {l : List α} {k : Nat}, k < l.length → l[k]? = some (nth d l k)
  | [], _, h => absurd h (Nat.not_lt_zero _)
  | _ :: _, 0, _ => rfl
  | _ :: l, k + 1, h => by
    show (_ :: l)[k + 1]? = some (nth d l k)
    rw [List.getElem?_cons_succ]
    exact nth_get (by simpa using h)
theorem cls_at {k : Nat} (h : k < 10) : (∀ w ∈ u_ws (vcl k).1 (vcl k).2.1 (vcl k).2.2, w ∈ gw) ∧ (∀ a, a < (vcl k).2.2 → ∀ b, b < (vcl k).2.2 → a ≠ b → ((vcl k).2.1 a).2.1 ≠ ((vcl k).2.1 b).2.1) ∧ (∀ a, a < (vcl k).2.2 → tyOk k a) ∧ (nth [] dfl k).length = (vcl k).2.2 ∧ nth [] dfl k = (nth [] fkl k).map (fun b => if b = true then Value.int 0 else Value.null) := by
  have h1 := List.all_eq_true.mp cls_ok k (List.mem_range.mpr h)
  have h2 := inX_at h
  unfold tyOk tyF
  rcases hv : vcl k with ⟨C, T, N⟩
  rw [hv] at h2
  simp only [clsOk, hv, Bool.and_eq_true, List.all_eq_true, decide_eq_true_eq, List.mem_range, Bool.or_eq_true, beq_iff_eq] at h1
  obtain ⟨⟨⟨⟨⟨q1, q2⟩, q3⟩, q4⟩, q5⟩, q6⟩ := h1
  refine ⟨fun w hw => List.mem_filter.mpr ⟨h2 w hw, q1 w hw⟩, fun a ha b hb hne => (q2 a ha b hb).resolve_left hne, fun a ha => ?_, q5, q6⟩
  have hd : nth false (nth [] fkl k) a = nth true (nth [] fkl k) a := nth_dd (by rw [q4]; exact ha)
  have q3 := q3 a ha
  show parseFieldDescriptor (T a).2.2.1 = some ((parseFieldDescriptor (T a).2.2.1).getD .int) ∧ _
  split at q3
  · rename_i e
    rw [e]
    exact ⟨rfl, Or.inl ⟨q3, hd ▸ q3, rfl⟩⟩
  · rename_i e
    rw [e]
    rw [Bool.not_eq_true'] at q3
    exact ⟨rfl, Or.inr ⟨hd ▸ q3, q3, Or.inl ⟨_, rfl⟩⟩⟩
  · rename_i e
    rw [e]
    rw [Bool.not_eq_true'] at q3
    exact ⟨rfl, Or.inr ⟨hd ▸ q3, q3, Or.inr ⟨_, rfl⟩⟩⟩
  · cases q3
theorem okV_fit {k a b sz : Nat} {v : Value} (h : tyOk k a) (hv : okV (nth false (nth [] fkl k) a) v = true) : narrow (tyF k a) (cv b sz v) = cv b sz v ∧ fits (tyF k a) (cv b sz v) = true := by
  rcases h.2 with ⟨h1, -, h3⟩ | ⟨h1, -, h3⟩
  · rw [h1] at hv
    rw [h3]
    cases v <;> first | exact ⟨rfl, rfl⟩ | cases hv
  · rw [h1] at hv
    rcases h3 with ⟨n, h3⟩ | ⟨t, h3⟩ <;> rw [h3] <;> cases v <;> first | exact ⟨rfl, rfl⟩ | cases hv
theorem dfl_at {k : Nat} (h : k < 10) (b sz : Nat) : ∀ j, j < (vcl k).2.2 → defaultValue (tyF k j) = vp_V ((nth [] dfl k).map (cv b sz)) j := by
  intro j hj
  obtain ⟨-, -, h3, h4, h5⟩ := cls_at h
  have hl : j < (nth [] fkl k).length := by
    have := congrArg List.length h5
    rw [List.length_map] at this
    omega
  have hg := nth_get (d := false) hl
  unfold vp_V
  rw [h5, List.getD_eq_getElem?_getD, List.getElem?_map, List.getElem?_map, hg]
  rcases (h3 j hj).2 with ⟨e1, -, e3⟩ | ⟨e1, -, e3⟩
  · rw [e1, e3]; rfl
  · rw [e1]
    rcases e3 with ⟨n, e3⟩ | ⟨t, e3⟩ <;> rw [e3] <;> rfl
section SNM
variable {p : Program} {l : Launch} {e : Env} {R : Room} {s : State} {m : MethodId} {args : Array Value} {below : List Frame} {meth : Method} {c : Code} {H : Heap} {locs : List Loc} {cells slots : Nat} {Q : State → Prop}
variable {cc : ByteArray} {pc ln b sz nL L : Nat} {ls : Array Slot} {rest : List Value} {lv : LV} {D : va_G} {cy : Nat → ClassId} {xs : Nat → Int32} {M : PM} {r1 r2 : Nat} {sk sk' : List Value} {M' : PM}
/-- the heap against the memory -/
def Wd (D : va_G) (cy : Nat → ClassId) (b sz L : Nat) (xs : Nat → Int32) (H0 : Heap) (M : PM) (H : Heap) (locs : List Loc) : Prop :=
  va_P D vwCl (wsM cy b sz M) H ∧ va_S (fun q : Nat => sz ≤ q) H0 H locs ∧ M[0]? = some (.inl (0, L, .inl xs))
/-- what a method's place knows -/
def Cx (p : Program) (s : State) (m : MethodId) (args : Array Value) (meth : Method) (c : Code) (q : MI) (D : va_G) (cy : Nat → ClassId) (b sz L : Nat) (xs : Nat → Int32) : Prop :=
  p.tables.exec = Jvm.exec ∧ c.code = q.2.1 ∧ c.maxLocals = q.2.2.1 ∧ s.vm.findClass q.1.cls = some m.cls ∧ (∀ w ∈ gw, w.before args s = true) ∧ va_K D vwCl (tyl cy) s ∧ va_X b L xs s s.heap ∧ b < sz ∧ sz ≤ s.heap.size ∧ NX s ∧ (q.1.name = "<init>" → meth.name = "<init>")
theorem mem0 {a : Nat} {x : Nat × List Value} (h0 : M[0]? = some (.inl (0, L, .inl xs))) (h : M[a]? = some (.inr x)) : ∃ j, a = j + 1 := by
  cases a with
  | zero => rw [h0] at h; cases h
  | succ j => exact ⟨j, rfl⟩
theorem set0 {j : Nat} {x : PC} (h0 : M[0]? = some (.inl (0, L, .inl xs))) : (M.set (j + 1) x)[0]? = some (.inl (0, L, .inl xs)) := by
  rw [List.getElem?_set_ne (by omega)]; exact h0
theorem app0 {x : PC} (h0 : M[0]? = some (.inl (0, L, .inl xs))) : (M ++ [x])[0]? = some (.inl (0, L, .inl xs)) := by
  have := (List.getElem?_eq_some_iff.mp h0).1
  rw [List.getElem?_append_left this]; exact h0
def szC : PC → Nat
  | .inl (_, n, _) => n
  | .inr (_, fs) => fs.length
def szM (M : PM) : Nat := (M.map szC).sum
theorem szM_app {x : PC} : szM (M ++ [x]) = szM M + szC x := by simp [szM]
/-- fields' links; what is made -/
def okF (i : Instr) (r1 r2 : Nat) (av : Array Value) (s : State) (q : MI) : Prop := match i with
  | .getfield ix => r1 < 10 ∧ r2 < (vcl r1).2.2 ∧ (Cond.fieldLink q.1.cls ix ((vcl r1).2.1 r2).1 ((vcl r1).2.1 r2).2.1 ((vcl r1).2.1 r2).2.2.1).before av s = true
  | .putfield ix => r1 < 10 ∧ r2 < (vcl r1).2.2 ∧ (Cond.fieldLink q.1.cls ix ((vcl r1).2.1 r2).1 ((vcl r1).2.1 r2).2.1 ((vcl r1).2.1 r2).2.2.1).before av s = true ∧ (finF r1 r2 = true → q.1.name = "<init>" ∧ ((vcl r1).2.1 r2).1 = q.1.cls)
  | .new ix => r1 < 10 ∧ (Cond.classLink q.1.cls ix (vcl r1).1).before av s = true ∧ (Cond.instantiable (vcl r1).1 (vcl r1).2.2).before av s = true ∧ (Cond.initialized (vcl r1).1).before av s = true
  | .anewarray ix => (r1 = 2 ∧ (Cond.classLink q.1.cls ix "PairGrammars$Row").before av s = true) ∨ (r1 = 3 ∧ (Cond.classLink q.1.cls ix "PairGrammars$Grammar").before av s = true)
  | _ => True
theorem W.bound {g : JFrame} (k : H.size ≤ s.heap.size + cells → W p l e R s m args below meth c H locs cells slots Q g) : W p l e R s m args below meth c H locs cells slots Q g := by
  intro T hT X
  refine k ?_ T hT X
  have h := X.same.2.2.1
  rw [← hT]
  exact h
theorem sz_low {H0 : Nat} (hP : va_P D vwCl (wsM cy b sz M) H) (hM : 1 ≤ M.length) (h0 : H0 ≤ H.size) (hcz : H0 + cells + 1 = sz + M.length) : M.length = 1 ∧ sz = H0 + cells ∧ H0 ≤ H.size ∨ sz + M.length ≤ H.size + 1 := by
  by_cases h1 : M.length = 1
  · exact Or.inl ⟨h1, by omega, h0⟩
  · right
    have hl : M.length - 2 + 1 < M.length := by omega
    have hg := List.getElem?_eq_getElem hl
    have := (hP _ _ (wsM_at hg)).lt
    show sz + M.length ≤ H.size + 1
    have h3 : sz + (M.length - 2) < H.size := this
    omega
theorem szM_set {j : Nat} {x y : PC} (hM : M[j]? = some x) (h : szC y = szC x) : szM (M.set j y) = szM M := by
  unfold szM
  rw [List.map_set, h]
  have e : (M.map szC).set j (szC x) = M.map szC := by
    apply List.ext_getElem?
    intro n
    by_cases hn : j = n
    · subst hn
      rw [List.getElem?_set_self (by rw [List.length_map]; exact (List.getElem?_eq_some_iff.mp hM).1), List.getElem?_map, hM]
      rfl
    · rw [List.getElem?_set_ne hn]
  rw [e]
theorem snF {q : MI} (X : Cx p s m args meth c q D cy b sz L xs) (w : Wd D cy b sz L xs s.heap M H locs) {i : Instr} (hd : decode q.2.1 pc = .ok (i, ln)) (hl : ln = sLen i) (h : gF i r1 r2 sk M = some (sk', M')) (hF : okF i r1 r2 args s q)
    (hcz : s.heap.size + cells + 1 = sz + M.length) (hc : cells + M'.length ≤ R.cells + M.length) (hsl : slots + szM M' ≤ R.slots + szM M)
    (k : ∀ (H1 : Heap) (locs1 : List Loc) (c1 s1 : Nat), Wd D cy b sz L xs s.heap M' H1 locs1 → s.heap.size + c1 + 1 = sz + M'.length → s1 + szM M = slots + szM M' → W p l e R s m args below meth c H1 locs1 c1 s1 Q (F0 m (pc + ln) ls (sk'.map (cv b sz)))) : W p l e R s m args below meth c H locs cells slots Q (F0 m pc ls (sk.map (cv b sz))) := by
  subst hl
  obtain ⟨hx, hb, hml, hown, hts, hK, hX, hbs, hss, hN, hini⟩ := X
  obtain ⟨hP, hS, h0⟩ := w
  have hD : va_D (fun q : Nat => sz ≤ q) (wsM cy b sz M) := wsM_D
  have hA : ∀ q : Nat, s.heap.size ≤ q → (fun q : Nat => sz ≤ q) q := fun q hq => Nat.le_trans hss hq
  unfold gF at h
  split at h
  · split at h
    · rename_i a r
      split at h
      · rename_i x ci fs hM
        split at h
        · rename_i hci
          have hci := Nat.eq_of_beq_eq_true hci
          subst hci
          split at h
          · rename_i v hv
            cases h
            obtain ⟨j, rfl⟩ := mem0 h0 hM
            obtain ⟨g1, g2, g3⟩ := hF
            refine va_get (q0 := j) (fs := fs.map (cv b sz)) (v := cv b sz v) hx hb hts (cls_at g1).1 hown hK hP (wsM_at hM) (vwCl_at g1) r2 g2 g3 (fun _ h9 => h9) (by rw [List.getElem?_map, hv]; rfl) hd ?_
            exact k H locs cells slots ⟨hP, hS, h0⟩ hcz rfl
          · cases h
        · cases h
      · cases h
    · cases h
  · split at h
    · rename_i v a r
      split at h
      · rename_i x ci fs hM
        split at h
        · rename_i hci
          simp only [Bool.and_eq_true, Nat.blt_eq] at hci
          obtain ⟨hci, hlt, hv⟩ := hci
          have hci := Nat.eq_of_beq_eq_true hci
          subst hci
          cases h
          obtain ⟨j, rfl⟩ := mem0 h0 hM
          obtain ⟨g1, g2, g3, g4⟩ := hF
          obtain ⟨t1, t2, t3, t4, t5⟩ := cls_at g1
          have ht := t3 r2 g2
          obtain ⟨f1, f2⟩ := okV_fit (b := b) (sz := sz) ht hv
          have hset : ∀ (H1 : Heap) (locs1 : List Loc), va_P D vwCl ((wsM cy b sz M).set j (sz + j, .inr (ci, (fs.map (cv b sz)).set r2 (cv b sz v)))) H1 → va_D (fun q : Nat => sz ≤ q) ((wsM cy b sz M).set j (sz + j, .inr (ci, (fs.map (cv b sz)).set r2 (cv b sz v)))) → va_S (fun q : Nat => sz ≤ q) s.heap H1 locs1 → W p l e R s m args below meth c H1 locs1 cells slots Q (F0 m (pc + 3) ls (sk'.map (cv b sz))) := by
            intro H1 locs1 hP1 _ hS1
            refine k H1 locs1 cells slots ⟨?_, hS1, set0 h0⟩ (by rw [List.length_set]; exact hcz) ?_
            · rw [← wsM_set]
              rw [← List.map_set] at hP1
              exact hP1
            · rw [szM_set hM (by simp [szC])]
          cases hf : finF ci r2 with
          | false =>
            refine va_put (q0 := j) (fs := fs.map (cv b sz)) (v := cv b sz v) hx hb hts (cls_at g1).1 (tyF ci) (fun a ha => (t3 a ha).1) t2 hown hK hP hD hS (wsM_at hM) (vwCl_at g1) r2 g2 g3 (fun _ h9 => h9) hf (ht.1) f1 f2 (by rw [List.length_map]; exact hlt) hd hset
          | true =>
            obtain ⟨g5, g6⟩ := g4 hf
            refine va_putF (q0 := j) (fs := fs.map (cv b sz)) (v := cv b sz v) hx hb hts (cls_at g1).1 (tyF ci) (fun a ha => (t3 a ha).1) t2 hown hK hP hD hS (wsM_at hM) (vwCl_at g1) r2 g2 g3 (fun _ h9 => h9) hf (hini g5) g6 (ht.1) f1 f2 (by rw [List.length_map]; exact hlt) hd hset
        · cases h
      · cases h
    · cases h
  · cases h
    rename_i ix
    obtain ⟨g1, g2, g3, g4⟩ := hF
    obtain ⟨t1, t2, t3, t4, t5⟩ := cls_at g1
    have hlen : (M ++ [Sum.inr (r1, nth [] dfl r1)]).length = M.length + 1 := by simp
    have hM1 : 1 ≤ M.length := by
      have := (List.getElem?_eq_some_iff.mp h0).1
      omega
    have hKn := hK.1 r1 _ (vwCl_at g1)
    refine W.bound fun hub => ?_
    have hsz : H.size = sz + (M.length - 1) := by
      rcases sz_low hP hM1 hS.1 hcz with ⟨q1, q2, q3⟩ | q <;> omega
    refine W.newcK hx hb hown g2 g3 g4 rfl hd (by rw [hlen] at hc; omega) (by rw [szM_app] at hsl; show slots + (vcl r1).2.2 ≤ R.slots; simp only [szC, t4] at hsl; omega) hKn.2.1 (h := sz + (M.length - 1)) hsz fun H1 kC hkC e1 z1 o1 => ?_
    have hk : ∀ (n : Nat) (x : Nat × va_E), (wsM cy b sz M)[n]? = some x → H1[x.1]? = H[x.1]? := fun n x hx => o1 x.1 (by have := (hP n x hx).lt; omega)
    have hP1 : va_P D vwCl (wsM cy b sz (M ++ [Sum.inr (r1, nth [] dfl r1)])) H1 := by
      rw [← wsM_push hM1]
      refine (hP.kept hk).app (fun n x hx => ?_)
      have hz : n < 1 := (List.getElem?_eq_some_iff.mp hx).1
      rw [show n = 0 by omega] at hx
      cases hx
      exact ⟨_, vwCl_at g1, (u_born (tyF r1) hts (cls_at g1).1 hKn hkC e1 (fun a ha => (t3 a ha).1)).to (dfl_at g1 b sz)⟩
    have e2 : ad b sz M.length = sz + (M.length - 1) := by
      cases hq : M.length with
      | zero => omega
      | succ n => rfl
    have K := k H1 locs (cells + 1) (slots + (vcl r1).2.2) ⟨hP1, ⟨Nat.le_trans hS.1 (by omega), fun x h1 h2 => (o1 x (by have := hS.1; omega)).trans (hS.2.1 x h1 h2), hS.2.2⟩, app0 h0⟩ (by rw [hlen]; omega) (by rw [szM_app]; simp only [szC, t4]; omega)
    rw [List.map_cons, show cv b sz (.ref M.length) = .ref (ad b sz M.length) from rfl, e2] at K
    exact K
  · cases h
end SNM
