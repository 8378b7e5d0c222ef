def rdRun : List Int → RS → Int → Int × RS
  | [], r, _ => (-6, r)
  | c :: cs, r, k => if (rdStep r c).1 = 5 then (k, rdStep r c) else rdRun cs (rdStep r c) (k + 1)
theorem rdStep_st {r : RS} {c : Int} : (rdStep r c).1 = 0 ∨ (rdStep r c).1 = 1 ∨ (rdStep r c).1 = 2 ∨ (rdStep r c).1 = 3 ∨ (rdStep r c).1 = 4 ∨ (rdStep r c).1 = 5 := by
  unfold rdStep rd0 rd3 grM grR
  repeat' split
  all_goals (dsimp only; omega)
def rdAns (xs : List Int) (R : Int × RS) : Int := if R.1 = -6 then (if R.2.1 = 4 then -6 else (xs.length : Int)) else R.1
abbrev readPost (M : PM) (b g : Nat) (xs : List Int) (R : Int × RS) : Option Value → PM → Prop := fun v M' => v = some (.int (I (rdAns xs R))) ∧ Fr (fun z => inG g z ∨ inY b z) M M' ∧ Rd M' b g R.2 ∧ (R.1 = -6 → GM M' g R.2.2.1)
section RD5
variable {M : PM} {b g t : Nat} {xs : List Int}
theorem lp_read (hcs : ∀ x ∈ xs, 0 ≤ x ∧ x < 256) (hd : b + 2 < g ∨ g + 59 ≤ b) (htg : t + 1 < g ∨ g + 59 ≤ t) (htb : t + 1 < b ∨ b + 2 < t) (ht : Pd M t xs) (R : Int × RS) (n : Nat) : ∀ (k st : Int) (G : GS) (ru : List Int) (M1 : PM), (0 ≤ k ∧ k ≤ xs.length ∧ xs.length - k < n ∧ (st = 0 ∨ st = 1 ∨ st = 2 ∨ st = 3 ∨ st = 4) ∧ Rd M1 b g (st, G, ru) ∧ Fr (fun z => inG g z ∨ inY b z) M M1 ∧ rdRun (xs.drop k.toNat) (st, G, ru) k = R) →
    Wp k_X5_read (9, [(0, .ref b), (1, .ref t), (2, .ref g), (3, .int (I st)), (4, .int (I k))], [], M1) (readPost M b g xs R) := by
  have hl := ht.len
  induction n with
  | zero => intro k st G ru M1 hi; exfalso; omega
  | succ n ih =>
    intro k st G ru M1 hi
    obtain ⟨i1, i2, i3, i4, i5, i6, i7⟩ := hi
    have ht1 := ht.fr i6 (by unfold inG inY; omega) (by unfold inG inY; omega)
    obtain ⟨gt, t1, -, -, -⟩ := id ht1
    obtain ⟨q1, q2, q3, q4, q5⟩ := id i5
    have hsz := c_Pad_size ht1
    repeat (refine wf rfl ?_; first | refine wq_iadd ?_ | refine wq_isub ?_ | refine wq_imul ?_ | refine wq_iinc rfl ?_ | refine wq_goto ?_ | refine wq_k rfl ?_ | refine wq_b rfl rfl ?_ | refine wq_getf (by assumption) rfl ?_ | refine wq_alen (by assumption) rfl ?_)
    refine wf rfl (wq_cv rfl rfl rfl t1 (hsz.mono ?_))
    rintro v M1 ⟨rfl, rfl⟩
    refine wf rfl (wq_ge ⟨by omega, by omega⟩ ⟨by omega, by omega⟩ (fun c2 => ?_) (fun c2 => ?_))
    · obtain ⟨p, X, lt, dp, us, W, h1, h2, h3⟩ := id q3
      dsimp only at h1 h3
      have hX : WFX G.1.length X := fun k hk s hs => h3.1 k hk s (by rw [← h2 k hk]; exact hs)
      have hme := c_Gr_measure h1 hX h3.2.1
      have hg1 := h1.obj
      rw [List.drop_eq_nil_of_le (by omega), rdRun] at i7
      repeat (refine wf rfl ?_; first | refine wq_iadd ?_ | refine wq_isub ?_ | refine wq_imul ?_ | refine wq_iinc rfl ?_ | refine wq_goto ?_ | refine wq_k rfl ?_ | refine wq_b rfl rfl ?_ | refine wq_getf (by assumption) rfl ?_ | refine wq_alen (by assumption) rfl ?_)
      refine wf rfl (wq_cv rfl rfl rfl hg1 (hme.mono ?_))
      rintro v M2 ⟨rfl, f2, lt', dp', us', W', h4, h5⟩
      have hGM : GM M2 g G := ⟨p, X, lt', dp', us', W', h4, h5, h2, h3⟩
      have ht2 := ht1.fr f2 (by omega) (by omega)
      obtain ⟨gt2, t2, -, -, -⟩ := id ht2
      have ff := i6.tr (f2.mono (fun z hz => Or.inl (by unfold inG; omega)))
      have hRd : Rd M2 b g (st, G, ru) := ⟨f2.at (by omega) q1, q2.fr f2 (by omega) (by omega), hGM.gl, q4, q5⟩
      by_cases h44 : st = 4
      · repeat' (refine wf rfl ?_; first | refine wq_iadd ?_ | refine wq_isub ?_ | refine wq_imul ?_ | refine wq_iinc rfl ?_ | refine wq_goto ?_ | refine wq_k rfl ?_ | refine wq_b rfl rfl ?_ | refine wq_getf (by assumption) rfl ?_ | refine wq_alen (by assumption) rfl ?_ | (refine wq_eq ⟨by omega, by omega⟩ ⟨by omega, by omega⟩ (fun _ => ?_) (fun _ => ?_) <;> try (exfalso; omega)) | (refine wq_ne ⟨by omega, by omega⟩ ⟨by omega, by omega⟩ (fun _ => ?_) (fun _ => ?_) <;> try (exfalso; omega)) | (refine wq_lt ⟨by omega, by omega⟩ ⟨by omega, by omega⟩ (fun _ => ?_) (fun _ => ?_) <;> try (exfalso; omega)) | (refine wq_ge ⟨by omega, by omega⟩ ⟨by omega, by omega⟩ (fun _ => ?_) (fun _ => ?_) <;> try (exfalso; omega)) | (refine wq_gt ⟨by omega, by omega⟩ ⟨by omega, by omega⟩ (fun _ => ?_) (fun _ => ?_) <;> try (exfalso; omega)) | (refine wq_le ⟨by omega, by omega⟩ ⟨by omega, by omega⟩ (fun _ => ?_) (fun _ => ?_) <;> try (exfalso; omega)) | (refine wq_ifeq ⟨by omega, by omega⟩ (fun _ => ?_) (fun _ => ?_) <;> try (exfalso; omega)) | (refine wq_ifne ⟨by omega, by omega⟩ (fun _ => ?_) (fun _ => ?_) <;> try (exfalso; omega)) | (refine wq_iflt ⟨by omega, by omega⟩ (fun _ => ?_) (fun _ => ?_) <;> try (exfalso; omega)) | (refine wq_ifge ⟨by omega, by omega⟩ (fun _ => ?_) (fun _ => ?_) <;> try (exfalso; omega)) | (refine wq_ifgt ⟨by omega, by omega⟩ (fun _ => ?_) (fun _ => ?_) <;> try (exfalso; omega)) | (refine wq_ifle ⟨by omega, by omega⟩ (fun _ => ?_) (fun _ => ?_) <;> try (exfalso; omega)) | refine wq_r rfl rfl rfl rfl rfl rfl ?_)
        subst i7
        refine ⟨?_, ff, hRd, fun _ => hGM⟩
        unfold rdAns
        rw [if_pos rfl, if_pos h44]
      · repeat (refine wf rfl ?_; first | refine wq_iadd ?_ | refine wq_isub ?_ | refine wq_imul ?_ | refine wq_iinc rfl ?_ | refine wq_goto ?_ | refine wq_k rfl ?_ | refine wq_b rfl rfl ?_ | refine wq_getf (by assumption) rfl ?_ | refine wq_alen (by assumption) rfl ?_)
        refine wf rfl (wq_ne ⟨by omega, by omega⟩ ⟨by omega, by omega⟩ (fun c4 => ?_) (fun c4 => absurd c4 h44))
        repeat (refine wf rfl ?_; first | refine wq_iadd ?_ | refine wq_isub ?_ | refine wq_imul ?_ | refine wq_iinc rfl ?_ | refine wq_goto ?_ | refine wq_k rfl ?_ | refine wq_b rfl rfl ?_ | refine wq_getf (by assumption) rfl ?_ | refine wq_alen (by assumption) rfl ?_)
        refine wf rfl (wq_cv rfl rfl rfl t2 ((c_Pad_size ht2).mono ?_))
        rintro v M2 ⟨rfl, rfl⟩
        repeat' (refine wf rfl ?_; first | refine wq_iadd ?_ | refine wq_isub ?_ | refine wq_imul ?_ | refine wq_iinc rfl ?_ | refine wq_goto ?_ | refine wq_k rfl ?_ | refine wq_b rfl rfl ?_ | refine wq_getf (by assumption) rfl ?_ | refine wq_alen (by assumption) rfl ?_ | (refine wq_eq ⟨by omega, by omega⟩ ⟨by omega, by omega⟩ (fun _ => ?_) (fun _ => ?_) <;> try (exfalso; omega)) | (refine wq_ne ⟨by omega, by omega⟩ ⟨by omega, by omega⟩ (fun _ => ?_) (fun _ => ?_) <;> try (exfalso; omega)) | (refine wq_lt ⟨by omega, by omega⟩ ⟨by omega, by omega⟩ (fun _ => ?_) (fun _ => ?_) <;> try (exfalso; omega)) | (refine wq_ge ⟨by omega, by omega⟩ ⟨by omega, by omega⟩ (fun _ => ?_) (fun _ => ?_) <;> try (exfalso; omega)) | (refine wq_gt ⟨by omega, by omega⟩ ⟨by omega, by omega⟩ (fun _ => ?_) (fun _ => ?_) <;> try (exfalso; omega)) | (refine wq_le ⟨by omega, by omega⟩ ⟨by omega, by omega⟩ (fun _ => ?_) (fun _ => ?_) <;> try (exfalso; omega)) | (refine wq_ifeq ⟨by omega, by omega⟩ (fun _ => ?_) (fun _ => ?_) <;> try (exfalso; omega)) | (refine wq_ifne ⟨by omega, by omega⟩ (fun _ => ?_) (fun _ => ?_) <;> try (exfalso; omega)) | (refine wq_iflt ⟨by omega, by omega⟩ (fun _ => ?_) (fun _ => ?_) <;> try (exfalso; omega)) | (refine wq_ifge ⟨by omega, by omega⟩ (fun _ => ?_) (fun _ => ?_) <;> try (exfalso; omega)) | (refine wq_ifgt ⟨by omega, by omega⟩ (fun _ => ?_) (fun _ => ?_) <;> try (exfalso; omega)) | (refine wq_ifle ⟨by omega, by omega⟩ (fun _ => ?_) (fun _ => ?_) <;> try (exfalso; omega)) | refine wq_r rfl rfl rfl rfl rfl rfl ?_)
        subst i7
        refine ⟨?_, ff, hRd, fun _ => hGM⟩
        unfold rdAns
        rw [if_pos rfl, if_neg h44]
    · have hx := hcs _ (rat_mem i1 c2)
      have hat := c_Pad_at (p := k) ⟨by omega, by omega⟩ ht1
      have e1 : ((k.toNat : Nat) : Int) = k := by omega
      have hdr := drop1 (xs := xs) (p := k.toNat) (by omega)
      rw [e1] at hdr
      rw [hdr, rdRun] at i7
      have hss := rdStep_st (r := (st, G, ru)) (c := rat xs k)
      repeat (refine wf rfl ?_; first | refine wq_iadd ?_ | refine wq_isub ?_ | refine wq_imul ?_ | refine wq_iinc rfl ?_ | refine wq_goto ?_ | refine wq_k rfl ?_ | refine wq_b rfl rfl ?_ | refine wq_getf (by assumption) rfl ?_ | refine wq_alen (by assumption) rfl ?_)
      refine wf rfl (wq_cv rfl rfl rfl t1 (hat.mono ?_))
      rintro v M1 ⟨rfl, rfl⟩
      repeat (refine wf rfl ?_; first | refine wq_iadd ?_ | refine wq_isub ?_ | refine wq_imul ?_ | refine wq_iinc rfl ?_ | refine wq_goto ?_ | refine wq_k rfl ?_ | refine wq_b rfl rfl ?_ | refine wq_getf (by assumption) rfl ?_ | refine wq_alen (by assumption) rfl ?_)
      refine wf rfl (wq_cv rfl rfl rfl q1 ((c_rd_next (c := rat xs k) i4 ⟨by omega, by omega⟩ i5 hd).mono ?_))
      rintro v M2 ⟨rfl, f2, h3⟩
      repeat (refine wf rfl ?_; first | refine wq_iadd ?_ | refine wq_isub ?_ | refine wq_imul ?_ | refine wq_iinc rfl ?_ | refine wq_goto ?_ | refine wq_k rfl ?_ | refine wq_b rfl rfl ?_ | refine wq_getf (by assumption) rfl ?_ | refine wq_alen (by assumption) rfl ?_)
      refine wf rfl (wq_ne ⟨by omega, by omega⟩ ⟨by omega, by omega⟩ (fun c4 => ?_) (fun c4 => ?_))
      · rw [if_neg c4] at i7
        have hst := fun (_ : True) => ih (k + 1) (rdStep (st, G, ru) (rat xs k)).1 (rdStep (st, G, ru) (rat xs k)).2.1 (rdStep (st, G, ru) (rat xs k)).2.2 M2 ⟨by omega, by omega, by omega, by omega, h3, i6.tr f2, by rw [show (k + 1).toNat = k.toNat + 1 by omega]; exact i7⟩
        repeat' (first | (refine Wp.sub (hst  ?_) ⟨rfl, rfl, rfl, rfl, rfl, trivial⟩ rfl) | (refine wf rfl ?_; first | refine wq_iadd ?_ | refine wq_isub ?_ | refine wq_imul ?_ | refine wq_iinc rfl ?_ | refine wq_goto ?_ | refine wq_k rfl ?_ | refine wq_b rfl rfl ?_ | refine wq_getf (by assumption) rfl ?_ | refine wq_alen (by assumption) rfl ?_ | fail | (refine wq_eq ⟨by omega, by omega⟩ ⟨by omega, by omega⟩ (fun _ => ?_) (fun _ => ?_) <;> try (exfalso; omega)) | (refine wq_ne ⟨by omega, by omega⟩ ⟨by omega, by omega⟩ (fun _ => ?_) (fun _ => ?_) <;> try (exfalso; omega)) | (refine wq_lt ⟨by omega, by omega⟩ ⟨by omega, by omega⟩ (fun _ => ?_) (fun _ => ?_) <;> try (exfalso; omega)) | (refine wq_ge ⟨by omega, by omega⟩ ⟨by omega, by omega⟩ (fun _ => ?_) (fun _ => ?_) <;> try (exfalso; omega)) | (refine wq_gt ⟨by omega, by omega⟩ ⟨by omega, by omega⟩ (fun _ => ?_) (fun _ => ?_) <;> try (exfalso; omega)) | (refine wq_le ⟨by omega, by omega⟩ ⟨by omega, by omega⟩ (fun _ => ?_) (fun _ => ?_) <;> try (exfalso; omega)) | (refine wq_ifeq ⟨by omega, by omega⟩ (fun _ => ?_) (fun _ => ?_) <;> try (exfalso; omega)) | (refine wq_ifne ⟨by omega, by omega⟩ (fun _ => ?_) (fun _ => ?_) <;> try (exfalso; omega)) | (refine wq_iflt ⟨by omega, by omega⟩ (fun _ => ?_) (fun _ => ?_) <;> try (exfalso; omega)) | (refine wq_ifge ⟨by omega, by omega⟩ (fun _ => ?_) (fun _ => ?_) <;> try (exfalso; omega)) | (refine wq_ifgt ⟨by omega, by omega⟩ (fun _ => ?_) (fun _ => ?_) <;> try (exfalso; omega)) | (refine wq_ifle ⟨by omega, by omega⟩ (fun _ => ?_) (fun _ => ?_) <;> try (exfalso; omega)) | refine wq_r rfl rfl rfl rfl rfl rfl ?_))
        trivial
      · rw [if_pos c4] at i7
        repeat' (refine wf rfl ?_; first | refine wq_iadd ?_ | refine wq_isub ?_ | refine wq_imul ?_ | refine wq_iinc rfl ?_ | refine wq_goto ?_ | refine wq_k rfl ?_ | refine wq_b rfl rfl ?_ | refine wq_getf (by assumption) rfl ?_ | refine wq_alen (by assumption) rfl ?_ | (refine wq_eq ⟨by omega, by omega⟩ ⟨by omega, by omega⟩ (fun _ => ?_) (fun _ => ?_) <;> try (exfalso; omega)) | (refine wq_ne ⟨by omega, by omega⟩ ⟨by omega, by omega⟩ (fun _ => ?_) (fun _ => ?_) <;> try (exfalso; omega)) | (refine wq_lt ⟨by omega, by omega⟩ ⟨by omega, by omega⟩ (fun _ => ?_) (fun _ => ?_) <;> try (exfalso; omega)) | (refine wq_ge ⟨by omega, by omega⟩ ⟨by omega, by omega⟩ (fun _ => ?_) (fun _ => ?_) <;> try (exfalso; omega)) | (refine wq_gt ⟨by omega, by omega⟩ ⟨by omega, by omega⟩ (fun _ => ?_) (fun _ => ?_) <;> try (exfalso; omega)) | (refine wq_le ⟨by omega, by omega⟩ ⟨by omega, by omega⟩ (fun _ => ?_) (fun _ => ?_) <;> try (exfalso; omega)) | (refine wq_ifeq ⟨by omega, by omega⟩ (fun _ => ?_) (fun _ => ?_) <;> try (exfalso; omega)) | (refine wq_ifne ⟨by omega, by omega⟩ (fun _ => ?_) (fun _ => ?_) <;> try (exfalso; omega)) | (refine wq_iflt ⟨by omega, by omega⟩ (fun _ => ?_) (fun _ => ?_) <;> try (exfalso; omega)) | (refine wq_ifge ⟨by omega, by omega⟩ (fun _ => ?_) (fun _ => ?_) <;> try (exfalso; omega)) | (refine wq_ifgt ⟨by omega, by omega⟩ (fun _ => ?_) (fun _ => ?_) <;> try (exfalso; omega)) | (refine wq_ifle ⟨by omega, by omega⟩ (fun _ => ?_) (fun _ => ?_) <;> try (exfalso; omega)) | refine wq_r rfl rfl rfl rfl rfl rfl ?_)
        subst i7
        refine ⟨?_, i6.tr f2, h3, fun z => ?_⟩
        · unfold rdAns
          rw [if_neg (by dsimp only; omega)]
        · exfalso
          dsimp only at z
          omega
end RD5
