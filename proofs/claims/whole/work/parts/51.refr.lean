/-! THE MODEL, twenty-eighth part: as -/
section REFR
variable {N n : Nat} {h : aH} {P : aP} {X : aX}
theorem r_as {j k m : Int32} (K : RfAt h X) (hP : ∀ h', RfAt h' (asR X j k m).2 → FrR h h' → P (some (.long (asR X j k m).1)) N h') : AM X8_as [.ref 196, .int j, .int k, .int m] N h P := by
  obtain ⟨_, _, _, _, _, _, x196, -⟩ := id K.1
  have x200 := K.2.2.2.1
  rw [asR] at hP
  refine AM.of0 rfl (Nat.le_of_ble_eq_true rfl) rfl [some (.ref 196), some (.int j), some (.int k), some (.int m)] rfl ?_
  have F : (inB 3 j && (inB 3 k && rgB 1 8 m)) = false → AW X8_as 28 [some (.ref 196), some (.int j), some (.int k), some (.int m)] [] N (0, 0) h P := by
    intro e
    rw [e] at hP
    refine AW.aload_n 29 dX8_as_28 rfl (by rfl) ?_
    refine AW.getfield 32 dX8_as_29 rfl fl_X8_19 (by assumption) (by rfl) ?_
    refine AW.iconst 33 dX8_as_32 rfl (nI 0) rfl ?_
    refine AW.dup2 34 dX8_as_33 rfl rfl rfl ?_
    refine AW.iaload 35 _ dX8_as_34 rfl (by assumption) (by first | exact Or.inl rfl | exact Or.inr rfl) (ix_nI (by omega)) (by omega) ?_
    refine AW.iconst 36 dX8_as_35 rfl (nI 1) rfl ?_
    first | refine AW.iaddN 37 dX8_as_36 rfl ?_ | refine AW.iadd 37 dX8_as_36 rfl ?_
    refine AW.iastore 38 _ dX8_as_37 rfl (by assumption) (ix_nI (by omega)) (by omega) ?_
    rw [upd_nI, (refA_up _).1]
    refine AW.ldc2 41 dX8_as_38 rfl kl_X8_214 ?_
    refine AW.lret dX8_as_41 rfl ?_
    exact hP _ K.cnt (fun z hz => hs_ne (by omega))
  refine AW.iload_n 1 dX8_as_0 rfl (by rfl) ?_
  refine AW.iconst 2 dX8_as_1 rfl (nI 0) rfl ?_
  refine AW.iconst 3 dX8_as_2 rfl (nI 2) rfl ?_
  refine AW.cS3 6 dX8_as_3 rfl mi_X8_in ms_X8_in lk_X8_100 ⟨(Nat.le_of_ble_eq_true rfl), (Nat.le_of_ble_eq_true rfl)⟩ rfl (Nat.le_of_ble_eq_true rfl) (c_in ?_)
  rw [inB_eq (m := 2) (by omega)]
  refine AW.zeq 28 9 dX8_as_6 (by decide) rfl (fun c1 => ?_) (fun c1 => ?_)
  · exact F (by rw [c1]; rfl)
  · refine AW.iload_n 10 dX8_as_9 rfl (by rfl) ?_
    refine AW.iconst 11 dX8_as_10 rfl (nI 0) rfl ?_
    refine AW.iconst 12 dX8_as_11 rfl (nI 2) rfl ?_
    refine AW.cS3 15 dX8_as_12 rfl mi_X8_in ms_X8_in lk_X8_100 ⟨(Nat.le_of_ble_eq_true rfl), (Nat.le_of_ble_eq_true rfl)⟩ rfl (Nat.le_of_ble_eq_true rfl) (c_in ?_)
    rw [inB_eq (m := 2) (by omega)]
    refine AW.zeq 28 18 dX8_as_15 (by decide) rfl (fun c2 => ?_) (fun c2 => ?_)
    · exact F (by rw [c2, Bool.false_and, Bool.and_false])
    · refine AW.iload_n 19 dX8_as_18 rfl (by rfl) ?_
      refine AW.iconst 20 dX8_as_19 rfl (nI 1) rfl ?_
      refine AW.bipush 22 dX8_as_20 rfl (nI 8) rfl ?_
      refine AW.cS3 25 dX8_as_22 rfl mi_X8_in ms_X8_in lk_X8_100 ⟨(Nat.le_of_ble_eq_true rfl), (Nat.le_of_ble_eq_true rfl)⟩ rfl (Nat.le_of_ble_eq_true rfl) (c_in ?_)
      rw [rgB_eq, show (nI 1).toInt = 1 from rfl, show (nI 8).toInt = 8 from rfl]
      refine AW.zne 42 28 dX8_as_25 (by decide) rfl (fun c3 => ?_) (fun c3 => ?_)
      · rcases inB_cases (m := 3) (by omega) j with ⟨j', hj', rfl, e1⟩ | ⟨-, e1⟩
        · rcases inB_cases (m := 3) (by omega) k with ⟨k', hk', rfl, e2⟩ | ⟨-, e2⟩
          · have q1 := of_decide_eq_true (show decide (1 ≤ m.toInt ∧ m.toInt ≤ 8) = true from c3)
            obtain ⟨l, hl, hl1, rfl⟩ : ∃ l, l ≤ 8 ∧ 1 ≤ l ∧ m = nI l := by
              refine ⟨m.toInt.toNat, by omega, by omega, ?_⟩
              apply Int32.toInt_inj.mp
              rw [nI_toInt (by omega)]
              omega
            rw [c1, c2, c3, cl_nI (by omega), cl_nI (by omega), cl_nI (by omega)] at hP
            refine AW.aload_n 43 dX8_as_42 rfl (by rfl) ?_
            refine AW.iload_n 44 dX8_as_43 rfl (by rfl) ?_
            refine AW.iload_n 45 dX8_as_44 rfl (by rfl) ?_
            refine AW.iload_n 46 dX8_as_45 rfl (by rfl) ?_
            refine AW.cV3 49 dX8_as_46 rfl mi_X8_asOf mv_X8_asOf lk_X8_216 ⟨(Nat.le_of_ble_eq_true rfl), (Nat.le_of_ble_eq_true rfl)⟩ rfl (by assumption) rfl (Nat.le_of_ble_eq_true rfl) (r_asOf K hj' hk' hl1 hl ?_)
            intro h' K' F
            refine AW.lret dX8_as_49 rfl ?_
            exact hP h' K' F.c
          · rw [e2] at c2; exact absurd c2 (by decide)
        · rw [e1] at c1; exact absurd c1 (by decide)
      · exact F (by rw [c3, Bool.and_false, Bool.and_false])
end REFR
