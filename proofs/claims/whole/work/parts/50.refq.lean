/-! THE MODEL, twenty-seventh part: asOf, as -/
section REFQ
variable {N n : Nat} {h : aH} {P : aP} {X : aX}
theorem r_asOf {j k : Nat} (K0 : RfAt h X) (hj : j < 3) (hk : k < 3) (hn1 : 1 ≤ n) (hn : n ≤ 8) (hP : ∀ h', RfAt h' X → FrM h h' → P (some (.long (asF j k X.1.2.2 n))) N h') : AM X8_asOf [.ref 196, .int (nI j), .int (nI k), .int (nI n)] N h P := by
  obtain ⟨la, ma, at_, fa, od, d, x196, -⟩ := id K0.1
  have x197 : h 197 = .inl (0, (15, .inl (nowF X.1))) := K0.2.1
  refine AM.of0 rfl (Nat.le_of_ble_eq_true rfl) rfl [some (.ref 196), some (.int (nI j)), some (.int (nI k)), some (.int (nI n)), none, none] rfl ?_
  refine AW.iload_n 1 dX8_asOf_0 rfl (by rfl) ?_
  refine AW.iload_n 2 dX8_asOf_1 rfl (by rfl) ?_
  refine AW.nne 18 5 dX8_asOf_2 (by decide) rfl (by omega) (by omega) (fun c1 => ?_) (fun c1 => ?_)
  · refine r_asMom (k := k) K0 hj hn ?_
    intro H m c p v4 v5 S hm
    have y196 : H 196 = modO (nI X.2.1.1) (nI X.2.2.2.2) la ma at_ fa od d := by rw [S.2.2.2 _ (by decide) (by decide) (by decide), x196]
    have y207 := S.1
    refine AW.iload_n 133 dX8_asOf_132 rfl (by rfl) ?_
    refine AW.ine 143 136 dX8_asOf_133 (by decide) rfl (by omega) (fun c2 => ?_) (fun c2 => ?_)
    · exact r_asCum K0 (by omega) hn hn1 S hm (fun H m c p S => hP H (K0.ser S) S.frm)
    · refine AW.aload_n 137 dX8_asOf_136 rfl (by rfl) ?_
      refine AW.getfield 140 dX8_asOf_137 rfl fl_X8_40 (by assumption) (by rfl) ?_
      refine AW.iload_n 141 dX8_asOf_140 rfl (by rfl) ?_
      refine AW.laload 142 _ dX8_asOf_141 rfl (by assumption) rfl (ix_nI (by omega)) (by omega) ?_
      refine AW.lret dX8_asOf_142 rfl ?_
      have := hP H (K0.ser S) S.frm
      unfold asF at this
      rw [cumF_s hn1 hn, c2, remF, if_pos rfl, Int64.sub_zero, ← hm n (Nat.le_refl _)] at this
      exact this
  · subst c1
    refine AW.aload_n 6 dX8_asOf_5 rfl (by rfl) ?_
    refine AW.getfield 9 dX8_asOf_6 rfl fl_X8_7 (by assumption) (by rfl) ?_
    refine AW.bipush 11 dX8_asOf_9 rfl (nI 7) rfl ?_
    refine AW.iload_n 12 dX8_asOf_11 rfl (by rfl) ?_
    first | refine AW.iaddN 13 dX8_asOf_12 rfl ?_ | refine AW.iadd 13 dX8_asOf_12 rfl ?_
    refine AW.iconst 14 dX8_asOf_13 rfl (nI 1) rfl ?_
    first | refine AW.isubN 15 dX8_asOf_14 rfl (by omega) ?_ | refine AW.isub 15 dX8_asOf_14 rfl ?_
    refine AW.iaload 16 _ dX8_asOf_15 rfl (by assumption) (by first | exact Or.inl rfl | exact Or.inr rfl) (ix_nI (by omega)) (by omega) ?_
    refine AW.i2l 17 dX8_asOf_16 rfl ?_
    refine AW.lret dX8_asOf_17 rfl ?_
    rw [show (nowF X.1 (7 + n - 1)).toInt64 = asF j j X.1.2.2 n by rw [asF_jj n hn1 hn, show 7 + n - 1 = 7 + (n - 1) by omega, nowF_v (by omega)]; rfl]
    exact hP h K0 FrM.refl
end REFQ
