/-! The Model's calls that read. -/
section MD13
variable {M : PM} {m : Nat} {S : ST}
theorem wq_tsd {c : MM} {ln nx tg r1 r2 r3 pc pc' : Nat} {lv : LV} {r : List Value} {M : PM} {Q : Option Value → PM → Prop} {d lo hi : Int} {offs : Array Int} {w : Int} (hw : inR w) (h : w < lo ∨ hi < w) (hp : jTo pc d r = some (pc', r)) (k : Wp c (pc', lv, r, M) Q) : Wq c (.tableswitch d lo hi offs, ln, nx, tg, r1, r2, r3) pc lv (.int (I w) :: r) M Q := by
  refine wq_s (pc' := pc') (sk' := r) rfl rfl rfl rfl ?_ k
  have e : (I w).toInt = w := Int32.toInt_ofInt_of_le hw.1 hw.2
  have h1 : gS (.tableswitch d lo hi offs) pc (.int (I w) :: r) = jTo pc d r := by
    show (match decide ((I w).toInt < lo ∨ hi < (I w).toInt) with
      | true => jTo pc d r
      | false => match offs[((I w).toInt - lo).toNat]? with
        | some off => jTo pc off r
        | none => none) = jTo pc d r
    rw [e, decide_eq_true h]
  rw [h1, hp]
end MD13
