/-! THE MODEL, thirtieth part: must, isFigure -/
section REFT
variable {N n : Nat} {h : aH} {P : aP} {tx : Nat → Nat} {len : Nat} {ps la ma od : Int32} {d : Int64} {a : Nat}
def mstF (f : Option Nat) (b : Bool) (a : Nat) : Option Nat := match f with
  | some e => some e
  | none => if b then none else some a
theorem r_must {f : Option Nat} {b : Bool} (ha : a < 1000) (hf : ∀ e, f = some e → e < 1000) (hP : P none N (hs h 196 (modO ps (nI len) la ma (nI a) (fltI (mstF f b a)) od d))) : AM X8_must [.ref 196, .int (nI (b01 b))] N (hs h 196 (modO ps (nI len) la ma (nI a) (fltI f) od d)) P := by
  have y196 := hs_eq h 196 (modO ps (nI len) la ma (nI a) (fltI f) od d)
  refine AM.of0 rfl (Nat.le_of_ble_eq_true rfl) rfl [some (.ref 196), some (.int (nI (b01 b)))] rfl ?_
  refine AW.aload_n 1 dX8_must_0 rfl (by rfl) ?_
  refine AW.getfield 4 dX8_must_1 rfl fl_X8_225 (by assumption) (by rfl) ?_
  refine AW.iconst 5 dX8_must_4 rfl (-1) rfl ?_
  refine AW.icmp_ne 20 8 dX8_must_5 (by decide) rfl (fun c => ?_) (fun c => ?_)
  · rcases f with _ | e
    · exact absurd rfl c
    · refine AW.vret dX8_must_20 rfl ?_
      exact hP
  · rcases f with _ | e
    · refine AW.iload_n 9 dX8_must_8 rfl (by rfl) ?_
      refine AW.zne 20 12 dX8_must_9 (by decide) rfl (fun c2 => ?_) (fun c2 => ?_)
      · refine AW.vret dX8_must_20 rfl ?_
        rw [mstF, c2] at hP
        exact hP
      · rw [mstF, c2] at hP
        refine AW.aload_n 13 dX8_must_12 rfl (by rfl) ?_
        refine AW.aload_n 14 dX8_must_13 rfl (by rfl) ?_
        refine AW.getfield 17 dX8_must_14 rfl fl_X8_222 (by assumption) (by rfl) ?_
        refine AW.putfield 20 dX8_must_17 rfl fl_X8_225 (by assumption) (Nat.le_of_ble_eq_true rfl) (fun _ => ⟨rfl, rfl⟩) ?_
        rw [hs_hs]
        refine AW.vret dX8_must_20 rfl ?_
        exact hP
    · exfalso
      have := congrArg Int32.toInt c
      have he := hf e rfl
      rw [show fltI (some e) = nI e from rfl, nI_toInt (by omega), show (-1 : Int32).toInt = -1 from rfl] at this
      omega
theorem r_isFigure {f : Int32} (x201 : h 201 = iA 120 tx) (hl : len ≤ 120) (ht : ∀ i, tx i < 128) (ha : a < 1000) (hP : P (some (.int (nI (b01 (dgB tx len a))))) N (hs h 196 (modO ps (nI len) la ma (nI a) f od d))) : AM X8_isFigure [.ref 196] N (hs h 196 (modO ps (nI len) la ma (nI a) f od d)) P := by
  have y196 := hs_eq h 196 (modO ps (nI len) la ma (nI a) f od d)
  have y201 := at_ne (a := 196) (e := modO ps (nI len) la ma (nI a) f od d) x201 (by decide)
  have t1 := ht a
  refine AM.of0 rfl (Nat.le_of_ble_eq_true rfl) rfl [some (.ref 196)] rfl ?_
  refine AW.aload_n 1 dX8_isFigure_0 rfl (by rfl) ?_
  refine AW.getfield 4 dX8_isFigure_1 rfl fl_X8_222 (by assumption) (by rfl) ?_
  refine AW.aload_n 5 dX8_isFigure_4 rfl (by rfl) ?_
  refine AW.getfield 8 dX8_isFigure_5 rfl fl_X8_219 (by assumption) (by rfl) ?_
  refine AW.nge 34 11 dX8_isFigure_8 (by decide) rfl (by omega) (by omega) (fun c => ?_) (fun c => ?_)
  · refine AW.iconst 35 dX8_isFigure_34 rfl (nI 0) rfl ?_
    refine AW.zret dX8_isFigure_35 rfl (by first | exact z_0 | exact z_1 | exact z_b01 _ | assumption) ?_
    rw [dgB, decide_eq_false (by omega)] at hP
    exact hP
  · refine AW.aload_n 12 dX8_isFigure_11 rfl (by rfl) ?_
    refine AW.getfield 15 dX8_isFigure_12 rfl fl_X8_22 (by assumption) (by rfl) ?_
    refine AW.aload_n 16 dX8_isFigure_15 rfl (by rfl) ?_
    refine AW.getfield 19 dX8_isFigure_16 rfl fl_X8_222 (by assumption) (by rfl) ?_
    refine AW.iaload 20 _ dX8_isFigure_19 rfl (by assumption) (by first | exact Or.inl rfl | exact Or.inr rfl) (ix_nI (by omega)) (by omega) ?_
    refine AW.bipush 22 dX8_isFigure_20 rfl (nI 48) rfl ?_
    refine AW.bipush 24 dX8_isFigure_22 rfl (nI 57) rfl ?_
    refine AW.cS3 27 dX8_isFigure_24 rfl mi_X8_in ms_X8_in lk_X8_100 ⟨(Nat.le_of_ble_eq_true rfl), (Nat.le_of_ble_eq_true rfl)⟩ rfl (Nat.le_of_ble_eq_true rfl) (c_in ?_)
    have e : (decide (nI 48 ≤ nI (tx a)) && decide (nI (tx a) ≤ nI 57)) = dgB tx len a := by
      rw [dgB, decide_eq_true (show a < len by omega), Bool.true_and, Bool.eq_iff_iff, Bool.and_eq_true, decide_eq_true_iff, decide_eq_true_iff, decide_eq_true_iff, Int32.le_iff_toInt_le, Int32.le_iff_toInt_le, nI_toInt (by omega), nI_toInt (by omega), nI_toInt (by omega)]
      omega
    rw [e]
    refine AW.zeq 34 30 dX8_isFigure_27 (by decide) rfl (fun c2 => ?_) (fun c2 => ?_)
    · refine AW.iconst 35 dX8_isFigure_34 rfl (nI 0) rfl ?_
      refine AW.zret dX8_isFigure_35 rfl (by first | exact z_0 | exact z_1 | exact z_b01 _ | assumption) ?_
      rw [c2] at hP
      exact hP
    · refine AW.iconst 31 dX8_isFigure_30 rfl (nI 1) rfl ?_
      refine AW.goto 35 dX8_isFigure_31 (by decide) ?_
      refine AW.zret dX8_isFigure_35 rfl (by first | exact z_0 | exact z_1 | exact z_b01 _ | assumption) ?_
      rw [c2] at hP
      exact hP
end REFT
