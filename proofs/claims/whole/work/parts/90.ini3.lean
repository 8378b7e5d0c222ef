/-! The Model's constructor. -/
section INI3
variable {M : PM}
set_option maxHeartbeats 1000000 in
theorem c_Md_init {m : Nat} (h0 : M[m]? = some (.inr (10, [.null, .null, .null, .null, .int 0, .null, .null, .null, .null, .null, .null, .null, .null, .null, .int 0, .int 0, .null, .int 0, .int 0]))) (hl : M.length = m + 1) : Wm 122 [.ref m] M (fun v M' => v = none ∧ Kee (fun q => q = m) 14 60000 M M' ∧ MS M' m S0) := by
  refine wm_in (lv := _) rfl rfl rfl ?_
  repeat (refine wf rfl ?_; first | refine wq_oinit rfl ?_ | refine wq_iadd ?_ | refine wq_isub ?_ | refine wq_imul ?_ | refine wq_iinc rfl ?_ | refine wq_goto ?_ | refine wq_k rfl ?_ | refine wq_b rfl rfl ?_ | refine wq_getf (by assumption) rfl ?_ | refine wq_alen (by assumption) rfl ?_)
  refine wf rfl (wq_newa ⟨by omega, by omega⟩ (by omega) (by omega) ?_)
  refine wf rfl (wq_putf (getA h0) rfl (fun M1 e1 f1 => ?_))
  have k1 : Kee (fun q => q = m) 1 2188 M M1 := ((Kee.app _).tr f1.kee).mono rfl (by decide) (fun q hq => hq)
  have r1 : M1[m + 1]? = some (aJ 2188 (fun _ => 0)) := f1.at (by omega) (by rw [← hl]; exact getL)
  rw [hl] at e1
  have l1 : M1.length = m + 2 := by rw [k1.1, hl]
  repeat (refine wf rfl ?_; first | refine wq_iadd ?_ | refine wq_isub ?_ | refine wq_imul ?_ | refine wq_iinc rfl ?_ | refine wq_goto ?_ | refine wq_k rfl ?_ | refine wq_b rfl rfl ?_ | refine wq_getf (by assumption) rfl ?_ | refine wq_alen (by assumption) rfl ?_)
  refine wf rfl (wq_newa ⟨by omega, by omega⟩ (by omega) (by omega) ?_)
  refine wf rfl (wq_putf (getA e1) rfl (fun M2 e2 f2 => ?_))
  have k2 : Kee (fun q => q = m) 1 2188 M1 M2 := ((Kee.app _).tr f2.kee).mono rfl (by decide) (fun q hq => hq)
  have r2 : M2[m + 2]? = some (aJ 2188 (fun _ => 0)) := f2.at (by omega) (by rw [← l1]; exact getL)
  rw [l1] at e2
  have l2 : M2.length = m + 3 := by rw [k2.1, l1]
  repeat (refine wf rfl ?_; first | refine wq_iadd ?_ | refine wq_isub ?_ | refine wq_imul ?_ | refine wq_iinc rfl ?_ | refine wq_goto ?_ | refine wq_k rfl ?_ | refine wq_b rfl rfl ?_ | refine wq_getf (by assumption) rfl ?_ | refine wq_alen (by assumption) rfl ?_)
  refine wf rfl (wq_newa ⟨by omega, by omega⟩ (by omega) (by omega) ?_)
  refine wf rfl (wq_putf (getA e2) rfl (fun M3 e3 f3 => ?_))
  have k3 : Kee (fun q => q = m) 1 2188 M2 M3 := ((Kee.app _).tr f3.kee).mono rfl (by decide) (fun q hq => hq)
  have r3 : M3[m + 3]? = some (aJ 2188 (fun _ => 0)) := f3.at (by omega) (by rw [← l2]; exact getL)
  rw [l2] at e3
  have l3 : M3.length = m + 4 := by rw [k3.1, l2]
  repeat (refine wf rfl ?_; first | refine wq_iadd ?_ | refine wq_isub ?_ | refine wq_imul ?_ | refine wq_iinc rfl ?_ | refine wq_goto ?_ | refine wq_k rfl ?_ | refine wq_b rfl rfl ?_ | refine wq_getf (by assumption) rfl ?_ | refine wq_alen (by assumption) rfl ?_)
  refine wf rfl (wq_newa ⟨by omega, by omega⟩ (by omega) (by omega) ?_)
  refine wf rfl (wq_putf (getA e3) rfl (fun M4 e4 f4 => ?_))
  have k4 : Kee (fun q => q = m) 1 13128 M3 M4 := ((Kee.app _).tr f4.kee).mono rfl (by decide) (fun q hq => hq)
  have r4 : M4[m + 4]? = some (aJ 13128 (fun _ => 0)) := f4.at (by omega) (by rw [← l3]; exact getL)
  rw [l3] at e4
  have l4 : M4.length = m + 5 := by rw [k4.1, l3]
  repeat (refine wf rfl ?_; first | refine wq_iadd ?_ | refine wq_isub ?_ | refine wq_imul ?_ | refine wq_iinc rfl ?_ | refine wq_goto ?_ | refine wq_k rfl ?_ | refine wq_b rfl rfl ?_ | refine wq_getf (by assumption) rfl ?_ | refine wq_alen (by assumption) rfl ?_)
  refine wf rfl (wq_newa ⟨by omega, by omega⟩ (by omega) (by omega) ?_)
  refine wf rfl (wq_putf (getA e4) rfl (fun M5 e5 f5 => ?_))
  have k5 : Kee (fun q => q = m) 1 4376 M4 M5 := ((Kee.app _).tr f5.kee).mono rfl (by decide) (fun q hq => hq)
  have r5 : M5[m + 5]? = some (aJ 4376 (fun _ => 0)) := f5.at (by omega) (by rw [← l4]; exact getL)
  rw [l4] at e5
  have l5 : M5.length = m + 6 := by rw [k5.1, l4]
  repeat (refine wf rfl ?_; first | refine wq_iadd ?_ | refine wq_isub ?_ | refine wq_imul ?_ | refine wq_iinc rfl ?_ | refine wq_goto ?_ | refine wq_k rfl ?_ | refine wq_b rfl rfl ?_ | refine wq_getf (by assumption) rfl ?_ | refine wq_alen (by assumption) rfl ?_)
  refine wf rfl (wq_newa ⟨by omega, by omega⟩ (by omega) (by omega) ?_)
  refine wf rfl (wq_putf (getA e5) rfl (fun M6 e6 f6 => ?_))
  have k6 : Kee (fun q => q = m) 1 2 M5 M6 := ((Kee.app _).tr f6.kee).mono rfl (by decide) (fun q hq => hq)
  have r6 : M6[m + 6]? = some (aJ 2 (fun _ => 0)) := f6.at (by omega) (by rw [← l5]; exact getL)
  rw [l5] at e6
  have l6 : M6.length = m + 7 := by rw [k6.1, l5]
  repeat (refine wf rfl ?_; first | refine wq_iadd ?_ | refine wq_isub ?_ | refine wq_imul ?_ | refine wq_iinc rfl ?_ | refine wq_goto ?_ | refine wq_k rfl ?_ | refine wq_b rfl rfl ?_ | refine wq_getf (by assumption) rfl ?_ | refine wq_alen (by assumption) rfl ?_)
  refine wf rfl (wq_newa ⟨by omega, by omega⟩ (by omega) (by omega) ?_)
  refine wf rfl (wq_putf (getA e6) rfl (fun M7 e7 f7 => ?_))
  have k7 : Kee (fun q => q = m) 1 27 M6 M7 := ((Kee.app _).tr f7.kee).mono rfl (by decide) (fun q hq => hq)
  have r7 : M7[m + 7]? = some (aJ 27 (fun _ => 0)) := f7.at (by omega) (by rw [← l6]; exact getL)
  rw [l6] at e7
  have l7 : M7.length = m + 8 := by rw [k7.1, l6]
  repeat (refine wf rfl ?_; first | refine wq_iadd ?_ | refine wq_isub ?_ | refine wq_imul ?_ | refine wq_iinc rfl ?_ | refine wq_goto ?_ | refine wq_k rfl ?_ | refine wq_b rfl rfl ?_ | refine wq_getf (by assumption) rfl ?_ | refine wq_alen (by assumption) rfl ?_)
  refine wf rfl (wq_newa ⟨by omega, by omega⟩ (by omega) (by omega) ?_)
  refine wf rfl (wq_putf (getA e7) rfl (fun M8 e8 f8 => ?_))
  have k8 : Kee (fun q => q = m) 1 26 M7 M8 := ((Kee.app _).tr f8.kee).mono rfl (by decide) (fun q hq => hq)
  have r8 : M8[m + 8]? = some (aJ 26 (fun _ => 0)) := f8.at (by omega) (by rw [← l7]; exact getL)
  rw [l7] at e8
  have l8 : M8.length = m + 9 := by rw [k8.1, l7]
  repeat (refine wf rfl ?_; first | refine wq_iadd ?_ | refine wq_isub ?_ | refine wq_imul ?_ | refine wq_iinc rfl ?_ | refine wq_goto ?_ | refine wq_k rfl ?_ | refine wq_b rfl rfl ?_ | refine wq_getf (by assumption) rfl ?_ | refine wq_alen (by assumption) rfl ?_)
  refine wf rfl (wq_newa ⟨by omega, by omega⟩ (by omega) (by omega) ?_)
  refine wf rfl (wq_putf (getA e8) rfl (fun M9 e9 f9 => ?_))
  have k9 : Kee (fun q => q = m) 1 9999 M8 M9 := ((Kee.app _).tr f9.kee).mono rfl (by decide) (fun q hq => hq)
  have r9 : M9[m + 9]? = some (aJ 9999 (fun _ => 0)) := f9.at (by omega) (by rw [← l8]; exact getL)
  rw [l8] at e9
  have l9 : M9.length = m + 10 := by rw [k9.1, l8]
  repeat (refine wf rfl ?_; first | refine wq_iadd ?_ | refine wq_isub ?_ | refine wq_imul ?_ | refine wq_iinc rfl ?_ | refine wq_goto ?_ | refine wq_k rfl ?_ | refine wq_b rfl rfl ?_ | refine wq_getf (by assumption) rfl ?_ | refine wq_alen (by assumption) rfl ?_)
  refine wf rfl (wq_newa ⟨by omega, by omega⟩ (by omega) (by omega) ?_)
  refine wf rfl (wq_putf (getA e9) rfl (fun M10 e10 f10 => ?_))
  have k10 : Kee (fun q => q = m) 1 9999 M9 M10 := ((Kee.app _).tr f10.kee).mono rfl (by decide) (fun q hq => hq)
  have r10 : M10[m + 10]? = some (aJ 9999 (fun _ => 0)) := f10.at (by omega) (by rw [← l9]; exact getL)
  rw [l9] at e10
  have l10 : M10.length = m + 11 := by rw [k10.1, l9]
  repeat (refine wf rfl ?_; first | refine wq_iadd ?_ | refine wq_isub ?_ | refine wq_imul ?_ | refine wq_iinc rfl ?_ | refine wq_goto ?_ | refine wq_k rfl ?_ | refine wq_b rfl rfl ?_ | refine wq_getf (by assumption) rfl ?_ | refine wq_alen (by assumption) rfl ?_)
  refine wf rfl (wq_newa ⟨by omega, by omega⟩ (by omega) (by omega) ?_)
  refine wf rfl (wq_putf (getA e10) rfl (fun M11 e11 f11 => ?_))
  have k11 : Kee (fun q => q = m) 1 28 M10 M11 := ((Kee.app _).tr f11.kee).mono rfl (by decide) (fun q hq => hq)
  have r11 : M11[m + 11]? = some (aJ 28 (fun _ => 0)) := f11.at (by omega) (by rw [← l10]; exact getL)
  rw [l10] at e11
  have l11 : M11.length = m + 12 := by rw [k11.1, l10]
  repeat (refine wf rfl ?_; first | refine wq_iadd ?_ | refine wq_isub ?_ | refine wq_imul ?_ | refine wq_iinc rfl ?_ | refine wq_goto ?_ | refine wq_k rfl ?_ | refine wq_b rfl rfl ?_ | refine wq_getf (by assumption) rfl ?_ | refine wq_alen (by assumption) rfl ?_)
  refine wf rfl (wq_newa ⟨by omega, by omega⟩ (by omega) (by omega) ?_)
  refine wf rfl (wq_putf (getA e11) rfl (fun M12 e12 f12 => ?_))
  have k12 : Kee (fun q => q = m) 1 28 M11 M12 := ((Kee.app _).tr f12.kee).mono rfl (by decide) (fun q hq => hq)
  have r12 : M12[m + 12]? = some (aJ 28 (fun _ => 0)) := f12.at (by omega) (by rw [← l11]; exact getL)
  rw [l11] at e12
  have l12 : M12.length = m + 13 := by rw [k12.1, l11]
  repeat (refine wf rfl ?_; first | refine wq_iadd ?_ | refine wq_isub ?_ | refine wq_imul ?_ | refine wq_iinc rfl ?_ | refine wq_goto ?_ | refine wq_k rfl ?_ | refine wq_b rfl rfl ?_ | refine wq_getf (by assumption) rfl ?_ | refine wq_alen (by assumption) rfl ?_)
  refine wf rfl (wq_newa ⟨by omega, by omega⟩ (by omega) (by omega) ?_)
  refine wf rfl (wq_putf (getA e12) rfl (fun M13 e13 f13 => ?_))
  have k13 : Kee (fun q => q = m) 1 80 M12 M13 := ((Kee.app _).tr f13.kee).mono rfl (by decide) (fun q hq => hq)
  have r13 : M13[m + 13]? = some (aJ 80 (fun _ => 0)) := f13.at (by omega) (by rw [← l12]; exact getL)
  rw [l12] at e13
  have l13 : M13.length = m + 14 := by rw [k13.1, l12]
  repeat (refine wf rfl ?_; first | refine wq_iadd ?_ | refine wq_isub ?_ | refine wq_imul ?_ | refine wq_iinc rfl ?_ | refine wq_goto ?_ | refine wq_k rfl ?_ | refine wq_b rfl rfl ?_ | refine wq_getf (by assumption) rfl ?_ | refine wq_alen (by assumption) rfl ?_)
  refine wf rfl (wq_newa ⟨by omega, by omega⟩ (by omega) (by omega) ?_)
  refine wf rfl (wq_putf (getA e13) rfl (fun M14 e14 f14 => ?_))
  have k14 : Kee (fun q => q = m) 1 80 M13 M14 := ((Kee.app _).tr f14.kee).mono rfl (by decide) (fun q hq => hq)
  have r14 : M14[m + 14]? = some (aJ 80 (fun _ => 0)) := f14.at (by omega) (by rw [← l13]; exact getL)
  rw [l13] at e14
  have l14 : M14.length = m + 15 := by rw [k14.1, l13]
  have K14 := k14
  have K13 := k13.tr K14
  have K12 := k12.tr K13
  have K11 := k11.tr K12
  have K10 := k10.tr K11
  have K9 := k9.tr K10
  have K8 := k8.tr K9
  have K7 := k7.tr K8
  have K6 := k6.tr K7
  have K5 := k5.tr K6
  have K4 := k4.tr K5
  have K3 := k3.tr K4
  have K2 := k2.tr K3
  have K1 := k1.tr K2
  repeat' (refine wf rfl ?_; first | refine wq_iadd ?_ | refine wq_isub ?_ | refine wq_imul ?_ | refine wq_iinc rfl ?_ | refine wq_goto ?_ | refine wq_k rfl ?_ | refine wq_b rfl rfl ?_ | refine wq_getf (by assumption) rfl ?_ | refine wq_alen (by assumption) rfl ?_ | (refine wq_eq ⟨by omega, by omega⟩ ⟨by omega, by omega⟩ (fun _ => ?_) (fun _ => ?_) <;> try (exfalso; omega)) | (refine wq_ne ⟨by omega, by omega⟩ ⟨by omega, by omega⟩ (fun _ => ?_) (fun _ => ?_) <;> try (exfalso; omega)) | (refine wq_lt ⟨by omega, by omega⟩ ⟨by omega, by omega⟩ (fun _ => ?_) (fun _ => ?_) <;> try (exfalso; omega)) | (refine wq_ge ⟨by omega, by omega⟩ ⟨by omega, by omega⟩ (fun _ => ?_) (fun _ => ?_) <;> try (exfalso; omega)) | (refine wq_gt ⟨by omega, by omega⟩ ⟨by omega, by omega⟩ (fun _ => ?_) (fun _ => ?_) <;> try (exfalso; omega)) | (refine wq_le ⟨by omega, by omega⟩ ⟨by omega, by omega⟩ (fun _ => ?_) (fun _ => ?_) <;> try (exfalso; omega)) | (refine wq_ifeq ⟨by omega, by omega⟩ (fun _ => ?_) (fun _ => ?_) <;> try (exfalso; omega)) | (refine wq_ifne ⟨by omega, by omega⟩ (fun _ => ?_) (fun _ => ?_) <;> try (exfalso; omega)) | (refine wq_iflt ⟨by omega, by omega⟩ (fun _ => ?_) (fun _ => ?_) <;> try (exfalso; omega)) | (refine wq_ifge ⟨by omega, by omega⟩ (fun _ => ?_) (fun _ => ?_) <;> try (exfalso; omega)) | (refine wq_ifgt ⟨by omega, by omega⟩ (fun _ => ?_) (fun _ => ?_) <;> try (exfalso; omega)) | (refine wq_ifle ⟨by omega, by omega⟩ (fun _ => ?_) (fun _ => ?_) <;> try (exfalso; omega)) | refine wq_r rfl rfl rfl rfl rfl rfl ?_)
  exact ⟨rfl, K1.mono rfl (by decide) (fun q hq => hq), ⟨0, 0, 0, e14⟩, ⟨_, K2.at (by omega) r1, rfl, Nat.zero_le _, fun k hk => absurd hk (Nat.not_lt_zero k), rfl, Nat.zero_le _, fun k hk => absurd hk (Nat.not_lt_zero k)⟩, ⟨⟨_, r14, fun k hk => absurd hk (Nat.not_lt_zero k)⟩, Nat.zero_le _⟩, ⟨⟨_, K5.at (by omega) r4, fun k G hk => absurd hk (by show ¬ ([] : List GS)[k]? = some G; simp)⟩, Nat.zero_le _⟩, ⟨⟨_, K6.at (by omega) r5, fun i G hi hs => by cases hs⟩, ⟨_, K7.at (by omega) r6, fun i hi => by rfl⟩⟩, ⟨_, K3.at (by omega) r2⟩, ⟨_, K4.at (by omega) r3⟩, ⟨_, K8.at (by omega) r7⟩, ⟨_, K9.at (by omega) r8⟩, ⟨_, K10.at (by omega) r9⟩, ⟨_, K11.at (by omega) r10⟩, ⟨_, K12.at (by omega) r11⟩, ⟨_, K13.at (by omega) r12⟩, ⟨_, K14.at (by omega) r13⟩⟩
end INI3
