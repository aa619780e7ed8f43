/-! THE MODEL, tenth part: the other changes of the state now -/
section REF9
variable {N n : Nat} {h : aH} {P : aP} {X : aX}
theorem r_doJoins {s a b : Int32} (K : RfAt h X) (hP : Chg h X N P (joinM X.1 s a b)) : AM X8_doJoins [.ref 196, .int s, .int a, .int b] N h P := by
  obtain ⟨_, _, _, _, _, _, x196, -⟩ := id K.1
  have x197 : h 197 = .inl (0, (15, .inl (nowF X.1))) := K.2.1
  have w := K.2.2.2.2.2.2.2.2
  refine AM.of0 rfl (Nat.le_of_ble_eq_true rfl) rfl [some (.ref 196), some (.int s), some (.int a), some (.int b)] rfl ?_
  have F : (inB 6 s && (inB 6 a && inB 6 b)) = false → AW X8_doJoins 49 [some (.ref 196), some (.int s), some (.int a), some (.int b)] [] N (0, 0) h P := by
    intro e
    unfold Chg at hP
    rw [joinM, e] at hP
    refine AW.bipush 51 dX8_doJoins_49 rfl (-2) rfl ?_
    refine AW.iret dX8_doJoins_51 rfl ?_
    exact hP h K FrM.refl
  refine AW.iload_n 1 dX8_doJoins_0 rfl (by rfl) ?_
  refine AW.cS1 4 dX8_doJoins_1 rfl mi_X8_isSlot ms_X8_isSlot lk_X8_104 ⟨(Nat.le_of_ble_eq_true rfl), (Nat.le_of_ble_eq_true rfl)⟩ rfl (Nat.le_of_ble_eq_true rfl) (r_isSlot ?_)
  refine AW.zeq 49 7 dX8_doJoins_4 (by decide) rfl (fun c1 => ?_) (fun c1 => ?_)
  · exact F (by rw [c1]; rfl)
  · refine AW.iload_n 8 dX8_doJoins_7 rfl (by rfl) ?_
    refine AW.cS1 11 dX8_doJoins_8 rfl mi_X8_isSlot ms_X8_isSlot lk_X8_104 ⟨(Nat.le_of_ble_eq_true rfl), (Nat.le_of_ble_eq_true rfl)⟩ rfl (Nat.le_of_ble_eq_true rfl) (r_isSlot ?_)
    refine AW.zeq 49 14 dX8_doJoins_11 (by decide) rfl (fun c2 => ?_) (fun c2 => ?_)
    · exact F (by rw [c2, Bool.false_and, Bool.and_false])
    · refine AW.iload_n 15 dX8_doJoins_14 rfl (by rfl) ?_
      refine AW.cS1 18 dX8_doJoins_15 rfl mi_X8_isSlot ms_X8_isSlot lk_X8_104 ⟨(Nat.le_of_ble_eq_true rfl), (Nat.le_of_ble_eq_true rfl)⟩ rfl (Nat.le_of_ble_eq_true rfl) (r_isSlot ?_)
      refine AW.zeq 49 21 dX8_doJoins_18 (by decide) rfl (fun c3 => ?_) (fun c3 => ?_)
      · exact F (by rw [c3, Bool.and_false, Bool.and_false])
      · rcases inB_cases (m := 6) (by omega) s with ⟨s', hs', rfl, e1⟩ | ⟨-, e1⟩
        · rcases inB_cases (m := 6) (by omega) a with ⟨a', ha', rfl, e2⟩ | ⟨-, e2⟩
          · rcases inB_cases (m := 6) (by omega) b with ⟨b', hb', rfl, e3⟩ | ⟨-, e3⟩
            · have wa := w.2.2 a' ha'
              have wb := w.2.2 b' hb'
              obtain ⟨g, G⟩ := K.grp
              refine AW.aload_n 22 dX8_doJoins_21 rfl (by rfl) ?_
              refine AW.iload_n 23 dX8_doJoins_22 rfl (by rfl) ?_
              refine AW.aload_n 24 dX8_doJoins_23 rfl (by rfl) ?_
              refine AW.aload_n 25 dX8_doJoins_24 rfl (by rfl) ?_
              refine AW.getfield 28 dX8_doJoins_25 rfl fl_X8_7 (by assumption) (by rfl) ?_
              refine AW.iconst 29 dX8_doJoins_28 rfl (nI 1) rfl ?_
              refine AW.iload_n 30 dX8_doJoins_29 rfl (by rfl) ?_
              first | refine AW.iaddN 31 dX8_doJoins_30 rfl ?_ | refine AW.iadd 31 dX8_doJoins_30 rfl ?_
              refine AW.iaload 32 _ dX8_doJoins_31 rfl (by assumption) (by first | exact Or.inl rfl | exact Or.inr rfl) (ix_nI (by omega)) (by omega) ?_
              rw [nowF_c ha']
              refine AW.aload_n 33 dX8_doJoins_32 rfl (by rfl) ?_
              refine AW.getfield 36 dX8_doJoins_33 rfl fl_X8_7 (by assumption) (by rfl) ?_
              refine AW.iconst 37 dX8_doJoins_36 rfl (nI 1) rfl ?_
              refine AW.iload_n 38 dX8_doJoins_37 rfl (by rfl) ?_
              first | refine AW.iaddN 39 dX8_doJoins_38 rfl ?_ | refine AW.iadd 39 dX8_doJoins_38 rfl ?_
              refine AW.iaload 40 _ dX8_doJoins_39 rfl (by assumption) (by first | exact Or.inl rfl | exact Or.inr rfl) (ix_nI (by omega)) (by omega) ?_
              rw [nowF_c hb']
              refine AW.cV2 43 dX8_doJoins_40 rfl mi_X8_joined mv_X8_joined lk_X8_110 ⟨(Nat.le_of_ble_eq_true rfl), (Nat.le_of_ble_eq_true rfl)⟩ rfl (by assumption) rfl (Nat.le_of_ble_eq_true rfl) (c_joined G wa.1 wb.1 (fun x hx => by have := (wb.2 x hx).1; omega) ?_)
              intro g' hg'
              have K' := K.g202 hg'
              obtain ⟨_, _, _, _, _, _, y196, -⟩ := id K'.1
              refine AW.cV2 46 dX8_doJoins_43 rfl mi_X8_put mv_X8_put lk_X8_113 ⟨(Nat.le_of_ble_eq_true rfl), (Nat.le_of_ble_eq_true rfl)⟩ rfl (by assumption) rfl (Nat.le_of_ble_eq_true rfl) (r_put K' hs' (WfC_pk w.2.1) ?_)
              intro h' K2 F2
              refine AW.goto 51 dX8_doJoins_46 (by decide) ?_
              refine AW.iret dX8_doJoins_51 rfl ?_
              unfold Chg at hP
              rw [joinM, c1, c2, c3, cl_nI (by omega), cl_nI (by omega), cl_nI (by omega)] at hP
              exact hP h' K2 (FrM.trans (FrM.at (by omega)) F2)
            · rw [e3] at c3; exact absurd c3 (by decide)
          · rw [e2] at c2; exact absurd c2 (by decide)
        · rw [e1] at c1; exact absurd c1 (by decide)
theorem r_doComplements {s a : Int32} (K : RfAt h X) (hP : Chg h X N P (compM X.1 s a)) : AM X8_doComplements [.ref 196, .int s, .int a] N h P := by
  obtain ⟨_, _, _, _, _, _, x196, -⟩ := id K.1
  have x197 : h 197 = .inl (0, (15, .inl (nowF X.1))) := K.2.1
  have w := K.2.2.2.2.2.2.2.2
  refine AM.of0 rfl (Nat.le_of_ble_eq_true rfl) rfl [some (.ref 196), some (.int s), some (.int a)] rfl ?_
  have F : (inB 6 s && inB 6 a) = false → AW X8_doComplements 34 [some (.ref 196), some (.int s), some (.int a)] [] N (0, 0) h P := by
    intro e
    unfold Chg at hP
    rw [compM, e] at hP
    refine AW.bipush 36 dX8_doComplements_34 rfl (-2) rfl ?_
    refine AW.iret dX8_doComplements_36 rfl ?_
    exact hP h K FrM.refl
  refine AW.iload_n 1 dX8_doComplements_0 rfl (by rfl) ?_
  refine AW.cS1 4 dX8_doComplements_1 rfl mi_X8_isSlot ms_X8_isSlot lk_X8_104 ⟨(Nat.le_of_ble_eq_true rfl), (Nat.le_of_ble_eq_true rfl)⟩ rfl (Nat.le_of_ble_eq_true rfl) (r_isSlot ?_)
  refine AW.zeq 34 7 dX8_doComplements_4 (by decide) rfl (fun c1 => ?_) (fun c1 => ?_)
  · exact F (by rw [c1]; rfl)
  · refine AW.iload_n 8 dX8_doComplements_7 rfl (by rfl) ?_
    refine AW.cS1 11 dX8_doComplements_8 rfl mi_X8_isSlot ms_X8_isSlot lk_X8_104 ⟨(Nat.le_of_ble_eq_true rfl), (Nat.le_of_ble_eq_true rfl)⟩ rfl (Nat.le_of_ble_eq_true rfl) (r_isSlot ?_)
    refine AW.zeq 34 14 dX8_doComplements_11 (by decide) rfl (fun c2 => ?_) (fun c2 => ?_)
    · exact F (by rw [c2, Bool.and_false])
    · rcases inB_cases (m := 6) (by omega) s with ⟨s', hs', rfl, e1⟩ | ⟨-, e1⟩
      · rcases inB_cases (m := 6) (by omega) a with ⟨a', ha', rfl, e2⟩ | ⟨-, e2⟩
        · have wa := w.2.2 a' ha'
          obtain ⟨g, G⟩ := K.grp
          refine AW.aload_n 15 dX8_doComplements_14 rfl (by rfl) ?_
          refine AW.iload_n 16 dX8_doComplements_15 rfl (by rfl) ?_
          refine AW.aload_n 17 dX8_doComplements_16 rfl (by rfl) ?_
          refine AW.aload_n 18 dX8_doComplements_17 rfl (by rfl) ?_
          refine AW.getfield 21 dX8_doComplements_18 rfl fl_X8_7 (by assumption) (by rfl) ?_
          refine AW.iconst 22 dX8_doComplements_21 rfl (nI 1) rfl ?_
          refine AW.iload_n 23 dX8_doComplements_22 rfl (by rfl) ?_
          first | refine AW.iaddN 24 dX8_doComplements_23 rfl ?_ | refine AW.iadd 24 dX8_doComplements_23 rfl ?_
          refine AW.iaload 25 _ dX8_doComplements_24 rfl (by assumption) (by first | exact Or.inl rfl | exact Or.inr rfl) (ix_nI (by omega)) (by omega) ?_
          rw [nowF_c ha']
          refine AW.cV1 28 dX8_doComplements_25 rfl mi_X8_complement mv_X8_complement lk_X8_119 ⟨(Nat.le_of_ble_eq_true rfl), (Nat.le_of_ble_eq_true rfl)⟩ rfl (by assumption) rfl (Nat.le_of_ble_eq_true rfl) (r_complement G wa.1 ?_)
          intro g' hg'
          have K' := K.g202 hg'
          obtain ⟨_, _, _, _, _, _, y196, -⟩ := id K'.1
          refine AW.cV2 31 dX8_doComplements_28 rfl mi_X8_put mv_X8_put lk_X8_113 ⟨(Nat.le_of_ble_eq_true rfl), (Nat.le_of_ble_eq_true rfl)⟩ rfl (by assumption) rfl (Nat.le_of_ble_eq_true rfl) (r_put K' hs' (WfC_pk w.2.1) ?_)
          intro h' K2 F2
          refine AW.goto 36 dX8_doComplements_31 (by decide) ?_
          refine AW.iret dX8_doComplements_36 rfl ?_
          unfold Chg at hP
          rw [compM, c1, c2, cl_nI (by omega), cl_nI (by omega)] at hP
          exact hP h' K2 (FrM.trans (FrM.at (by omega)) F2)
        · rw [e2] at c2; exact absurd c2 (by decide)
      · rw [e1] at c1; exact absurd c1 (by decide)
theorem r_doTurns {s a : Int32} (K : RfAt h X) (hP : Chg h X N P (turnM X.1 s a)) : AM X8_doTurns [.ref 196, .int s, .int a] N h P := by
  obtain ⟨_, _, _, _, _, _, x196, -⟩ := id K.1
  have x197 : h 197 = .inl (0, (15, .inl (nowF X.1))) := K.2.1
  have w := K.2.2.2.2.2.2.2.2
  refine AM.of0 rfl (Nat.le_of_ble_eq_true rfl) rfl [some (.ref 196), some (.int s), some (.int a)] rfl ?_
  have F : (inB 6 s && inB 6 a) = false → AW X8_doTurns 14 [some (.ref 196), some (.int s), some (.int a)] [] N (0, 0) h P := by
    intro e
    unfold Chg at hP
    rw [turnM, e] at hP
    refine AW.bipush 16 dX8_doTurns_14 rfl (-2) rfl ?_
    refine AW.iret dX8_doTurns_16 rfl ?_
    exact hP h K FrM.refl
  refine AW.iload_n 1 dX8_doTurns_0 rfl (by rfl) ?_
  refine AW.cS1 4 dX8_doTurns_1 rfl mi_X8_isSlot ms_X8_isSlot lk_X8_104 ⟨(Nat.le_of_ble_eq_true rfl), (Nat.le_of_ble_eq_true rfl)⟩ rfl (Nat.le_of_ble_eq_true rfl) (r_isSlot ?_)
  refine AW.zeq 14 7 dX8_doTurns_4 (by decide) rfl (fun c1 => ?_) (fun c1 => ?_)
  · exact F (by rw [c1]; rfl)
  · refine AW.iload_n 8 dX8_doTurns_7 rfl (by rfl) ?_
    refine AW.cS1 11 dX8_doTurns_8 rfl mi_X8_isSlot ms_X8_isSlot lk_X8_104 ⟨(Nat.le_of_ble_eq_true rfl), (Nat.le_of_ble_eq_true rfl)⟩ rfl (Nat.le_of_ble_eq_true rfl) (r_isSlot ?_)
    refine AW.zne 17 14 dX8_doTurns_11 (by decide) rfl (fun c2 => ?_) (fun c2 => ?_)
    · rcases inB_cases (m := 6) (by omega) s with ⟨s', hs', rfl, e1⟩ | ⟨-, e1⟩
      · rcases inB_cases (m := 6) (by omega) a with ⟨a', ha', rfl, e2⟩ | ⟨-, e2⟩
        · have wa := w.2.2 a' ha'
          obtain ⟨g, G⟩ := K.grp
          refine AW.aload_n 18 dX8_doTurns_17 rfl (by rfl) ?_
          refine AW.getfield 21 dX8_doTurns_18 rfl fl_X8_7 (by assumption) (by rfl) ?_
          refine AW.iconst 22 dX8_doTurns_21 rfl (nI 1) rfl ?_
          refine AW.iload_n 23 dX8_doTurns_22 rfl (by rfl) ?_
          first | refine AW.iaddN 24 dX8_doTurns_23 rfl ?_ | refine AW.iadd 24 dX8_doTurns_23 rfl ?_
          refine AW.aload_n 25 dX8_doTurns_24 rfl (by rfl) ?_
          refine AW.aload_n 26 dX8_doTurns_25 rfl (by rfl) ?_
          refine AW.getfield 29 dX8_doTurns_26 rfl fl_X8_7 (by assumption) (by rfl) ?_
          refine AW.iconst 30 dX8_doTurns_29 rfl (nI 1) rfl ?_
          refine AW.iload_n 31 dX8_doTurns_30 rfl (by rfl) ?_
          first | refine AW.iaddN 32 dX8_doTurns_31 rfl ?_ | refine AW.iadd 32 dX8_doTurns_31 rfl ?_
          refine AW.iaload 33 _ dX8_doTurns_32 rfl (by assumption) (by first | exact Or.inl rfl | exact Or.inr rfl) (ix_nI (by omega)) (by omega) ?_
          rw [nowF_c ha']
          refine AW.cV1 36 dX8_doTurns_33 rfl mi_X8_turned mv_X8_turned lk_X8_122 ⟨(Nat.le_of_ble_eq_true rfl), (Nat.le_of_ble_eq_true rfl)⟩ rfl (by assumption) rfl (Nat.le_of_ble_eq_true rfl) (c_turned G wa.1 ?_)
          intro g' hg'
          have K' := K.g202 hg'
          have z197 : hs h 202 (iA 8 g') 197 = .inl (0, (15, .inl (nowF X.1))) := K'.2.1
          refine AW.iastore 37 _ dX8_doTurns_36 rfl (by assumption) (ix_nI (by omega)) (by omega) ?_
          rw [nowF_up hs']
          have K2 := K'.n197 (w.up (s := s') (WfC_pk (g := fun x => rw8 (X.1.2.1 a') (bfo X.1.1 x)) w.2.1))
          refine AW.heap (hs (hs h 202 (iA 8 g')) 197 (nowA (upC X.1 s' (tuM X.1.1 (X.1.2.1 a'))))) rfl ?_
          have K2 : RfAt (hs (hs h 202 (iA 8 g')) 197 (nowA (upC X.1 s' (tuM X.1.1 (X.1.2.1 a'))))) (upC X.1 s' (tuM X.1.1 (X.1.2.1 a')), X.2) := K2
          obtain ⟨_, _, _, _, _, _, y196, -⟩ := id K2.1
          have y197 : hs (hs h 202 (iA 8 g')) 197 (nowA (upC X.1 s' (tuM X.1.1 (X.1.2.1 a')))) 197 = .inl (0, (15, .inl (nowF (upC X.1 s' (tuM X.1.1 (X.1.2.1 a')))))) := K2.2.1
          refine AW.aload_n 38 dX8_doTurns_37 rfl (by rfl) ?_
          refine AW.aload_n 39 dX8_doTurns_38 rfl (by rfl) ?_
          refine AW.getfield 42 dX8_doTurns_39 rfl fl_X8_7 (by assumption) (by rfl) ?_
          refine AW.iconst 43 dX8_doTurns_42 rfl (nI 1) rfl ?_
          refine AW.iload_n 44 dX8_doTurns_43 rfl (by rfl) ?_
          first | refine AW.iaddN 45 dX8_doTurns_44 rfl ?_ | refine AW.iadd 45 dX8_doTurns_44 rfl ?_
          refine AW.iaload 46 _ dX8_doTurns_45 rfl (by assumption) (by first | exact Or.inl rfl | exact Or.inr rfl) (ix_nI (by omega)) (by omega) ?_
          rw [nowF_c hs', show (upC X.1 s' (tuM X.1.1 (X.1.2.1 a'))).2.1 s' = tuM X.1.1 (X.1.2.1 a') from if_pos rfl]
          refine AW.cV1 49 dX8_doTurns_46 rfl mi_X8_numberOf mv_X8_numberOf lk_X8_125 ⟨(Nat.le_of_ble_eq_true rfl), (Nat.le_of_ble_eq_true rfl)⟩ rfl (by assumption) rfl (Nat.le_of_ble_eq_true rfl) (r_numberOf K2 (pkF_lt w.2.1 _) ?_)
          intro h' K3 _ F3
          refine AW.iret dX8_doTurns_49 rfl ?_
          unfold Chg at hP
          rw [turnM, c1, c2, cl_nI (by omega), cl_nI (by omega)] at hP
          exact hP h' K3 (FrM.trans (FrM.trans (FrM.at (by omega)) (FrM.at (by omega))) F3)
        · rw [e2] at c2; exact absurd c2 (by decide)
      · rw [e1] at c1; exact absurd c1 (by decide)
    · exact F (by rw [c2, Bool.and_false])
theorem r_doTakes {s k : Int32} (K0 : RfAt h X) (hP : Chg h X N P (takeM X.1 s k)) : AM X8_doTakes [.ref 196, .int s, .int k] N h P := by
  obtain ⟨_, _, _, _, _, _, x196, -⟩ := id K0.1
  have w := K0.2.2.2.2.2.2.2.2
  refine AM.of0 rfl (Nat.le_of_ble_eq_true rfl) rfl [some (.ref 196), some (.int s), some (.int k)] rfl ?_
  refine AW.aload_n 1 dX8_doTakes_0 rfl (by rfl) ?_
  refine AW.cV0 4 dX8_doTakes_1 rfl mi_X8_lay mv_X8_lay lk_X8_97 ⟨(Nat.le_of_ble_eq_true rfl), (Nat.le_of_ble_eq_true rfl)⟩ rfl (by assumption) rfl (Nat.le_of_ble_eq_true rfl) (r_lay K0 ?_)
  intro H K D F1
  obtain ⟨⟨_, _, _, _, _, _, y196⟩, f, r, y2, y3, y4⟩ := id D
  have F : (inB 6 s && inB (catN X.1.1) k) = false → AW X8_doTakes 39 [some (.ref 196), some (.int s), some (.int k)] [] N (0, 0) H P := by
    intro e
    unfold Chg at hP
    rw [takeM, e] at hP
    refine AW.bipush 41 dX8_doTakes_39 rfl (-2) rfl ?_
    refine AW.iret dX8_doTakes_41 rfl ?_
    exact hP H K F1
  have c5 := catN_pos X.1.1 w.2.1
  have c6 := catN_le X.1.1 w.2.1
  refine AW.iload_n 5 dX8_doTakes_4 rfl (by rfl) ?_
  refine AW.cS1 8 dX8_doTakes_5 rfl mi_X8_isSlot ms_X8_isSlot lk_X8_104 ⟨(Nat.le_of_ble_eq_true rfl), (Nat.le_of_ble_eq_true rfl)⟩ rfl (Nat.le_of_ble_eq_true rfl) (r_isSlot ?_)
  refine AW.zeq 39 11 dX8_doTakes_8 (by decide) rfl (fun c1 => ?_) (fun c1 => ?_)
  · exact F (by rw [c1]; rfl)
  · refine AW.iload_n 12 dX8_doTakes_11 rfl (by rfl) ?_
    refine AW.iconst 13 dX8_doTakes_12 rfl (nI 0) rfl ?_
    refine AW.aload_n 14 dX8_doTakes_13 rfl (by rfl) ?_
    refine AW.getfield 17 dX8_doTakes_14 rfl fl_X8_87 (by assumption) (by rfl) ?_
    refine AW.iconst 18 dX8_doTakes_17 rfl (nI 1) rfl ?_
    first | refine AW.isubN 19 dX8_doTakes_18 rfl (by omega) ?_ | refine AW.isub 19 dX8_doTakes_18 rfl ?_
    refine AW.cS3 22 dX8_doTakes_19 rfl mi_X8_in ms_X8_in lk_X8_100 ⟨(Nat.le_of_ble_eq_true rfl), (Nat.le_of_ble_eq_true rfl)⟩ rfl (Nat.le_of_ble_eq_true rfl) (c_in ?_)
    rw [inB_eq (by omega), show catN X.1.1 - 1 + 1 = catN X.1.1 by omega]
    refine AW.zeq 39 25 dX8_doTakes_22 (by decide) rfl (fun c2 => ?_) (fun c2 => ?_)
    · exact F (by rw [c2, Bool.and_false])
    · rcases inB_cases (m := 6) (by omega) s with ⟨s', hs', rfl, e1⟩ | ⟨-, e1⟩
      · rcases inB_cases (m := catN X.1.1) (by omega) k with ⟨k', hk', rfl, e2⟩ | ⟨-, e2⟩
        · refine AW.aload_n 26 dX8_doTakes_25 rfl (by rfl) ?_
          refine AW.iload_n 27 dX8_doTakes_26 rfl (by rfl) ?_
          refine AW.aload_n 28 dX8_doTakes_27 rfl (by rfl) ?_
          refine AW.getfield 31 dX8_doTakes_28 rfl fl_X8_28 (by assumption) (by rfl) ?_
          refine AW.iload_n 32 dX8_doTakes_31 rfl (by rfl) ?_
          refine AW.iaload 33 _ dX8_doTakes_32 rfl (by assumption) (by first | exact Or.inl rfl | exact Or.inr rfl) (ix_nI (by omega)) (by omega) ?_
          rw [(y4 k' hk').1]
          refine AW.cV2 36 dX8_doTakes_33 rfl mi_X8_put mv_X8_put lk_X8_113 ⟨(Nat.le_of_ble_eq_true rfl), (Nat.le_of_ble_eq_true rfl)⟩ rfl (by assumption) rfl (Nat.le_of_ble_eq_true rfl) (r_put K hs' (WfC_tb w.1 w.2.1 hk') ?_)
          intro h' K2 F2
          refine AW.goto 41 dX8_doTakes_36 (by decide) ?_
          refine AW.iret dX8_doTakes_41 rfl ?_
          unfold Chg at hP
          rw [takeM, c1, c2, cl_nI (by omega), cl_nI (by omega)] at hP
          exact hP h' K2 (F1.trans F2)
        · rw [e2] at c2; exact absurd c2 (by decide)
      · rw [e1] at c1; exact absurd c1 (by decide)
theorem nowF_uv {σ : aS} {s : Nat} {v : Int32} (hs : s < 8) : upd (nowF σ) (7 + s) v = nowF (σ.1, σ.2.1, fun i => if i = s then v else σ.2.2 i) := by
  funext i
  unfold upd nowF
  by_cases e : i = 7 + s
  · subst e
    rw [if_pos rfl, if_neg (by omega), if_neg (by omega), if_pos (by omega)]
    simp
  · rw [if_neg e]
    by_cases e0 : i = 0
    · rw [if_pos e0, if_pos e0]
    · rw [if_neg e0, if_neg e0]
      by_cases e7 : i < 7
      · rw [if_pos e7, if_pos e7]
      · rw [if_neg e7, if_neg e7]
        simp [show i - 7 ≠ s by omega]
theorem r_doNumber {m v : Int32} (K : RfAt h X) (hP : Chg h X N P (numR X.1 m v)) : AM X8_doNumber [.ref 196, .int m, .int v] N h P := by
  obtain ⟨_, _, _, _, _, _, x196, -⟩ := id K.1
  have x197 : h 197 = .inl (0, (15, .inl (nowF X.1))) := K.2.1
  have w := K.2.2.2.2.2.2.2.2
  refine AM.of0 rfl (Nat.le_of_ble_eq_true rfl) rfl [some (.ref 196), some (.int m), some (.int v), none] rfl ?_
  have F : (rgB 1 8 m && rgB (-9) 9 v) = false → AW X8_doNumber 21 [some (.ref 196), some (.int m), some (.int v), none] [] N (0, 0) h P := by
    intro e
    unfold Chg at hP
    rw [numR, e] at hP
    refine AW.bipush 23 dX8_doNumber_21 rfl (-2) rfl ?_
    refine AW.iret dX8_doNumber_23 rfl ?_
    exact hP h K FrM.refl
  refine AW.iload_n 1 dX8_doNumber_0 rfl (by rfl) ?_
  refine AW.iconst 2 dX8_doNumber_1 rfl (nI 1) rfl ?_
  refine AW.bipush 4 dX8_doNumber_2 rfl (nI 8) rfl ?_
  refine AW.cS3 7 dX8_doNumber_4 rfl mi_X8_in ms_X8_in lk_X8_100 ⟨(Nat.le_of_ble_eq_true rfl), (Nat.le_of_ble_eq_true rfl)⟩ rfl (Nat.le_of_ble_eq_true rfl) (c_in ?_)
  rw [rgB_eq, show (nI 1).toInt = 1 from rfl, show (nI 8).toInt = 8 from rfl]
  refine AW.zeq 21 10 dX8_doNumber_7 (by decide) rfl (fun c1 => ?_) (fun c1 => ?_)
  · exact F (by rw [c1]; rfl)
  · refine AW.iload_n 11 dX8_doNumber_10 rfl (by rfl) ?_
    refine AW.bipush 13 dX8_doNumber_11 rfl (-9) rfl ?_
    refine AW.bipush 15 dX8_doNumber_13 rfl (nI 9) rfl ?_
    refine AW.cS3 18 dX8_doNumber_15 rfl mi_X8_in ms_X8_in lk_X8_100 ⟨(Nat.le_of_ble_eq_true rfl), (Nat.le_of_ble_eq_true rfl)⟩ rfl (Nat.le_of_ble_eq_true rfl) (c_in ?_)
    rw [rgB_eq, show (-9 : Int32).toInt = -9 from rfl, show (nI 9).toInt = 9 from rfl]
    refine AW.zne 24 21 dX8_doNumber_18 (by decide) rfl (fun c2 => ?_) (fun c2 => ?_)
    · have q1 := of_decide_eq_true (show decide (1 ≤ m.toInt ∧ m.toInt ≤ 8) = true from c1)
      obtain ⟨j, hj, rfl⟩ : ∃ j, j < 8 ∧ m = nI (j + 1) := by
        refine ⟨m.toInt.toNat - 1, by omega, ?_⟩
        apply Int32.toInt_inj.mp
        rw [nI_toInt (by omega)]
        omega
      unfold Chg at hP
      rw [numR, c1, c2, cl_nI (by omega)] at hP
      simp only [Bool.and_self, if_true, Nat.add_sub_cancel] at hP
      refine AW.aload_n 25 dX8_doNumber_24 rfl (by rfl) ?_
      refine AW.getfield 28 dX8_doNumber_25 rfl fl_X8_7 (by assumption) (by rfl) ?_
      refine AW.bipush 30 dX8_doNumber_28 rfl (nI 7) rfl ?_
      refine AW.iload_n 31 dX8_doNumber_30 rfl (by rfl) ?_
      first | refine AW.iaddN 32 dX8_doNumber_31 rfl ?_ | refine AW.iadd 32 dX8_doNumber_31 rfl ?_
      refine AW.iconst 33 dX8_doNumber_32 rfl (nI 1) rfl ?_
      first | refine AW.isubN 34 dX8_doNumber_33 rfl (by omega) ?_ | refine AW.isub 34 dX8_doNumber_33 rfl ?_
      refine AW.stk [.int (nI (7 + j)), .ref 197] (by rw [show 7 + (j + 1) - 1 = 7 + j by omega]) ?_
      refine AW.iaload 35 _ dX8_doNumber_34 rfl (by assumption) (by first | exact Or.inl rfl | exact Or.inr rfl) (ix_nI (by omega)) (by omega) ?_
      rw [nowF_v hj]
      refine AW.istore_n 36 dX8_doNumber_35 rfl (Nat.le_of_ble_eq_true rfl) rfl ?_
      refine AW.aload_n 37 dX8_doNumber_36 rfl (by rfl) ?_
      refine AW.getfield 40 dX8_doNumber_37 rfl fl_X8_7 (by assumption) (by rfl) ?_
      refine AW.bipush 42 dX8_doNumber_40 rfl (nI 7) rfl ?_
      refine AW.iload_n 43 dX8_doNumber_42 rfl (by rfl) ?_
      first | refine AW.iaddN 44 dX8_doNumber_43 rfl ?_ | refine AW.iadd 44 dX8_doNumber_43 rfl ?_
      refine AW.iconst 45 dX8_doNumber_44 rfl (nI 1) rfl ?_
      first | refine AW.isubN 46 dX8_doNumber_45 rfl (by omega) ?_ | refine AW.isub 46 dX8_doNumber_45 rfl ?_
      refine AW.stk [.int (nI (7 + j)), .ref 197] (by rw [show 7 + (j + 1) - 1 = 7 + j by omega]) ?_
      refine AW.iload_n 47 dX8_doNumber_46 rfl (by rfl) ?_
      refine AW.iastore 48 _ dX8_doNumber_47 rfl (by assumption) (ix_nI (by omega)) (by omega) ?_
      rw [nowF_uv hj]
      refine AW.iload_n 49 dX8_doNumber_48 rfl (by rfl) ?_
      refine AW.bipush 51 dX8_doNumber_49 rfl (nI 100) rfl ?_
      first | refine AW.iaddN 52 dX8_doNumber_51 rfl ?_ | refine AW.iadd 52 dX8_doNumber_51 rfl ?_
      refine AW.iret dX8_doNumber_52 rfl ?_
      exact hP _ (K.n197 (σ := (X.1.1, X.1.2.1, fun i => if i = j then v else X.1.2.2 i)) w) (FrM.at (by omega))
    · exact F (by rw [c2, Bool.and_false])
end REF9
