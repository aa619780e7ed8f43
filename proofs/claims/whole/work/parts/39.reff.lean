/-! THE MODEL, sixteenth part: the answers evens, covers, mark -/
theorem tuM_lt {n c : Nat} (hn : n ≤ 8) : tuM n c < 16777216 := pkF_lt hn _
theorem ituM_lt {n c : Nat} (hn : n ≤ 8) (hc : c < 16777216) : ∀ x, ituM n x c < 16777216 := by
  intro x
  cases x with
  | zero => exact hc
  | succ x => exact tuM_lt hn
/-- the first point that is least in a and not in b; the last before it in a's block of b's least there -/
def mk1 (n a b : Nat) : Nat := fnd (fun s => decide (rw8 a s = s) && !decide (rw8 b s = s)) n n 0
def mkM (n a b : Nat) : Nat := fndD (fun m => decide (rw8 a m = rw8 b (mk1 n a b))) 0 (mk1 n a b) (mk1 n a b - 1)
section REFF
variable {N n : Nat} {h : aH} {P : aP} {X : aX}
theorem r_evens (K0 : RfAt h X) (hP : ∀ h', RfAt h' (evensM X).2 → FrR h h' → P (some (.int (evensM X).1)) N h') : AM X8_evens [.ref 196] N h P := by
  obtain ⟨_, _, _, _, _, _, x196, -⟩ := id K0.1
  have x197 : h 197 = .inl (0, (15, .inl (nowF X.1))) := K0.2.1
  have n0 : nowF X.1 0 = nI X.1.1 := rfl
  have w := K0.2.2.2.2.2.2.2.2
  have w2 := w.2.1
  rw [evensM] at hP
  refine AM.of0 rfl (Nat.le_of_ble_eq_true rfl) rfl [some (.ref 196), none, none, none, none] rfl ?_
  refine AW.aload_n 1 dX8_evens_0 rfl (by rfl) ?_
  refine AW.getfield 4 dX8_evens_1 rfl fl_X8_7 (by assumption) (by rfl) ?_
  refine AW.iconst 5 dX8_evens_4 rfl (nI 0) rfl ?_
  refine AW.iaload 6 _ dX8_evens_5 rfl (by assumption) (by first | exact Or.inl rfl | exact Or.inr rfl) (ix_nI (by omega)) (by omega) ?_
  rw [n0]
  refine AW.iconst 7 dX8_evens_6 rfl (nI 2) rfl ?_
  refine AW.iremN 8 dX8_evens_7 rfl (by omega) (by omega) (by omega) ?_
  refine AW.iconst 9 dX8_evens_8 rfl (nI 1) rfl ?_
  have hm := Nat.mod_lt X.1.1 (show 0 < 2 by decide)
  refine AW.nne 19 12 dX8_evens_9 (by decide) rfl (by omega) (by omega) (fun c0 => ?_) (fun c0 => ?_)
  · rw [if_neg c0] at hP
    refine AW.aload_n 20 dX8_evens_19 rfl (by rfl) ?_
    refine AW.cV0 23 dX8_evens_20 rfl mi_X8_lay mv_X8_lay lk_X8_97 ⟨(Nat.le_of_ble_eq_true rfl), (Nat.le_of_ble_eq_true rfl)⟩ rfl (by assumption) rfl (Nat.le_of_ble_eq_true rfl) (r_lay K0 ?_)
    intro H K D F1
    have c6 := catN_le X.1.1 w.2.1
    refine AW.iconst 24 dX8_evens_23 rfl (nI 0) rfl ?_
    refine AW.istore_n 25 dX8_evens_24 rfl (Nat.le_of_ble_eq_true rfl) rfl ?_
    refine AW.iconst 26 dX8_evens_25 rfl (nI 0) rfl ?_
    refine AW.istore_n 27 dX8_evens_26 rfl (Nat.le_of_ble_eq_true rfl) rfl ?_
    have L : ∀ j x, x + j = catN X.1.1 → ∀ v3 v4 H, RfAt H X → LdAt H X.1.1 → FrM h H → AW X8_evens 27 [some (.ref 196), some (.int (nI (cnt (fun k => if ituM X.1.1 (X.1.1 / 2) (tb X.1.1 k) = tb X.1.1 k then 1 else 0) x))), some (.int (nI x)), v3, v4] [] N (0, 0) H P := by
      intro j
      induction j with
      | zero =>
        intro x hx v3 v4 H K D F1
        obtain ⟨⟨_, _, _, _, _, _, y196⟩, f, r, y2, y3, y4⟩ := id D
        refine AW.iload_n 28 dX8_evens_27 rfl (by rfl) ?_
        refine AW.aload_n 29 dX8_evens_28 rfl (by rfl) ?_
        refine AW.getfield 32 dX8_evens_29 rfl fl_X8_87 (by assumption) (by rfl) ?_
        refine AW.nge 94 35 dX8_evens_32 (by decide) rfl (by omega) (by omega) (fun c2 => ?_) (fun c2 => ?_)
        · obtain rfl : x = catN X.1.1 := by omega
          refine AW.iload_n 95 dX8_evens_94 rfl (by rfl) ?_
          refine AW.iret dX8_evens_95 rfl ?_
          exact hP H K F1.c
        · omega
      | succ j ih =>
        intro x hx v3 v4 H K D F1
        obtain ⟨⟨_, _, _, _, _, _, y196⟩, f, r, y2, y3, y4⟩ := id D
        have t1 := tb_lt X.1.1 x
        obtain ⟨y5, y6⟩ := y4 x (by omega)
        refine AW.iload_n 28 dX8_evens_27 rfl (by rfl) ?_
        refine AW.aload_n 29 dX8_evens_28 rfl (by rfl) ?_
        refine AW.getfield 32 dX8_evens_29 rfl fl_X8_87 (by assumption) (by rfl) ?_
        refine AW.nge 94 35 dX8_evens_32 (by decide) rfl (by omega) (by omega) (fun c2 => ?_) (fun c2 => ?_)
        · omega
        · refine AW.aload_n 36 dX8_evens_35 rfl (by rfl) ?_
          refine AW.getfield 39 dX8_evens_36 rfl fl_X8_28 (by assumption) (by rfl) ?_
          refine AW.iload_n 40 dX8_evens_39 rfl (by rfl) ?_
          refine AW.iaload 41 _ dX8_evens_40 rfl (by assumption) (by first | exact Or.inl rfl | exact Or.inr rfl) (ix_nI (by omega)) (by omega) ?_
          rw [y5]
          refine AW.istore_n 42 dX8_evens_41 rfl (Nat.le_of_ble_eq_true rfl) rfl ?_
          refine AW.iconst 43 dX8_evens_42 rfl (nI 0) rfl ?_
          refine AW.istore 45 dX8_evens_43 rfl (Nat.le_of_ble_eq_true rfl) rfl ?_
          have M : ∀ j z, z + j = X.1.1 / 2 → ∀ H, RfAt H X → LdAt H X.1.1 → FrM h H → AW X8_evens 45 [some (.ref 196), some (.int (nI (cnt (fun k => if ituM X.1.1 (X.1.1 / 2) (tb X.1.1 k) = tb X.1.1 k then 1 else 0) x))), some (.int (nI x)), some (.int (nI (ituM X.1.1 z (tb X.1.1 x)))), some (.int (nI z))] [] N (0, 0) H P := by
            intro j
            induction j with
            | zero =>
              intro z hz H K D F1
              obtain ⟨⟨_, _, _, _, _, _, y196⟩, f, r, y2, y3, y4⟩ := id D
              have y197 : H 197 = .inl (0, (15, .inl (nowF X.1))) := K.2.1
              obtain ⟨y5, y6⟩ := y4 x (by omega)
              have t2 := @ituM_lt X.1.1 (tb X.1.1 x) w2 t1 z
              refine AW.iload 47 dX8_evens_45 rfl (by rfl) ?_
              refine AW.aload_n 48 dX8_evens_47 rfl (by rfl) ?_
              refine AW.getfield 51 dX8_evens_48 rfl fl_X8_7 (by assumption) (by rfl) ?_
              refine AW.iconst 52 dX8_evens_51 rfl (nI 0) rfl ?_
              refine AW.iaload 53 _ dX8_evens_52 rfl (by assumption) (by first | exact Or.inl rfl | exact Or.inr rfl) (ix_nI (by omega)) (by omega) ?_
              rw [n0]
              refine AW.iconst 54 dX8_evens_53 rfl (nI 2) rfl ?_
              refine AW.idivN 55 dX8_evens_54 rfl (by omega) (by omega) (by omega) ?_
              refine AW.nge 70 58 dX8_evens_55 (by decide) rfl (by omega) (by omega) (fun c3 => ?_) (fun c3 => ?_)
              · obtain rfl : z = X.1.1 / 2 := by omega
                refine AW.iload_n 71 dX8_evens_70 rfl (by rfl) ?_
                refine AW.iload_n 72 dX8_evens_71 rfl (by rfl) ?_
                refine AW.aload_n 73 dX8_evens_72 rfl (by rfl) ?_
                refine AW.getfield 76 dX8_evens_73 rfl fl_X8_28 (by assumption) (by rfl) ?_
                refine AW.iload_n 77 dX8_evens_76 rfl (by rfl) ?_
                refine AW.iaload 78 _ dX8_evens_77 rfl (by assumption) (by first | exact Or.inl rfl | exact Or.inr rfl) (ix_nI (by omega)) (by omega) ?_
                rw [y5]
                have J : ∀ v, v = (if ituM X.1.1 (X.1.1 / 2) (tb X.1.1 x) = tb X.1.1 x then 1 else 0) → AW X8_evens 86 [some (.ref 196), some (.int (nI (cnt (fun k => if ituM X.1.1 (X.1.1 / 2) (tb X.1.1 k) = tb X.1.1 k then 1 else 0) x))), some (.int (nI x)), some (.int (nI (ituM X.1.1 (X.1.1 / 2) (tb X.1.1 x)))), some (.int (nI (X.1.1 / 2)))] [.int (nI v), .int (nI (cnt (fun k => if ituM X.1.1 (X.1.1 / 2) (tb X.1.1 k) = tb X.1.1 k then 1 else 0) x))] N (0, 0) H P := by
                  intro v hv
                  first | refine AW.iaddN 87 dX8_evens_86 rfl ?_ | refine AW.iadd 87 dX8_evens_86 rfl ?_
                  refine AW.istore_n 88 dX8_evens_87 rfl (Nat.le_of_ble_eq_true rfl) rfl ?_
                  refine AW.iinc1 91 dX8_evens_88 rfl (by rfl) rfl ?_
                  refine AW.goto 27 dX8_evens_91 (by decide) ?_
                  rw [hv]
                  exact ih (x + 1) (by omega) _ _ H K D F1
                refine AW.nne 85 81 dX8_evens_78 (by decide) rfl (by omega) (by omega) (fun c4 => ?_) (fun c4 => ?_)
                · refine AW.iconst 86 dX8_evens_85 rfl (nI 0) rfl ?_
                  exact J _ (by rw [if_neg c4])
                · refine AW.iconst 82 dX8_evens_81 rfl (nI 1) rfl ?_
                  refine AW.goto 86 dX8_evens_82 (by decide) ?_
                  exact J _ (by rw [if_pos c4])
              · omega
            | succ j ihz =>
              intro z hz H K D F1
              obtain ⟨⟨_, _, _, _, _, _, y196⟩, f, r, y2, y3, y4⟩ := id D
              have y197 : H 197 = .inl (0, (15, .inl (nowF X.1))) := K.2.1
              have t2 := @ituM_lt X.1.1 (tb X.1.1 x) w2 t1 z
              obtain ⟨g, G⟩ := K.grp
              refine AW.iload 47 dX8_evens_45 rfl (by rfl) ?_
              refine AW.aload_n 48 dX8_evens_47 rfl (by rfl) ?_
              refine AW.getfield 51 dX8_evens_48 rfl fl_X8_7 (by assumption) (by rfl) ?_
              refine AW.iconst 52 dX8_evens_51 rfl (nI 0) rfl ?_
              refine AW.iaload 53 _ dX8_evens_52 rfl (by assumption) (by first | exact Or.inl rfl | exact Or.inr rfl) (ix_nI (by omega)) (by omega) ?_
              rw [n0]
              refine AW.iconst 54 dX8_evens_53 rfl (nI 2) rfl ?_
              refine AW.idivN 55 dX8_evens_54 rfl (by omega) (by omega) (by omega) ?_
              refine AW.nge 70 58 dX8_evens_55 (by decide) rfl (by omega) (by omega) (fun c3 => ?_) (fun c3 => ?_)
              · omega
              · refine AW.aload_n 59 dX8_evens_58 rfl (by rfl) ?_
                refine AW.iload_n 60 dX8_evens_59 rfl (by rfl) ?_
                refine AW.cV1 63 dX8_evens_60 rfl mi_X8_turned mv_X8_turned lk_X8_122 ⟨(Nat.le_of_ble_eq_true rfl), (Nat.le_of_ble_eq_true rfl)⟩ rfl (by assumption) rfl (Nat.le_of_ble_eq_true rfl) (c_turned G t2 ?_)
                intro g' hg'
                refine AW.istore_n 64 dX8_evens_63 rfl (Nat.le_of_ble_eq_true rfl) rfl ?_
                refine AW.iinc1 67 dX8_evens_64 rfl (by rfl) rfl ?_
                refine AW.goto 45 dX8_evens_67 (by decide) ?_
                exact ihz (z + 1) (by omega) _ (K.g202 hg') D.g202 (F1.trans (FrM.at (by omega)))
          exact M (X.1.1 / 2) 0 (by omega) H K D F1
    exact L (catN X.1.1) 0 (by omega) none none H K D F1
  · rw [if_pos c0] at hP
    refine AW.aload_n 13 dX8_evens_12 rfl (by rfl) ?_
    refine AW.bipush 15 dX8_evens_13 rfl (-3) rfl ?_
    refine AW.cV1 18 dX8_evens_15 rfl mi_X8_refuses mv_X8_refuses lk_X8_131 ⟨(Nat.le_of_ble_eq_true rfl), (Nat.le_of_ble_eq_true rfl)⟩ rfl (by assumption) rfl (Nat.le_of_ble_eq_true rfl) (r_no K0 ?_)
    intro h' K' F
    refine AW.iret dX8_evens_18 rfl ?_
    exact hP h' K' F
theorem r_covers {s i : Int32} (K0 : RfAt h X) (hP : ∀ h', RfAt h' (coversM X s i).2 → FrR h h' → P (some (.int (coversM X s i).1)) N h') : AM X8_covers [.ref 196, .int s, .int i] N h P := by
  obtain ⟨_, _, _, _, _, _, x196, -⟩ := id K0.1
  have w := K0.2.2.2.2.2.2.2.2
  have w2 := w.2.1
  rw [coversM] at hP
  refine AM.of0 rfl (Nat.le_of_ble_eq_true rfl) rfl [some (.ref 196), some (.int s), some (.int i), none, none, none] rfl ?_
  have F : (inB 6 s && decide (0 ≤ i.toInt)) = false → AW X8_covers 11 [some (.ref 196), some (.int s), some (.int i), none, none, none] [] N (0, 0) h P := by
    intro e
    rw [e] at hP
    refine AW.aload_n 12 dX8_covers_11 rfl (by rfl) ?_
    refine AW.bipush 14 dX8_covers_12 rfl (-2) rfl ?_
    refine AW.cV1 17 dX8_covers_14 rfl mi_X8_refuses mv_X8_refuses lk_X8_131 ⟨(Nat.le_of_ble_eq_true rfl), (Nat.le_of_ble_eq_true rfl)⟩ rfl (by assumption) rfl (Nat.le_of_ble_eq_true rfl) (r_bad K0 ?_)
    intro h' K' F
    refine AW.iret dX8_covers_17 rfl ?_
    exact hP h' K' F
  refine AW.iload_n 1 dX8_covers_0 rfl (by rfl) ?_
  refine AW.cS1 4 dX8_covers_1 rfl mi_X8_isSlot ms_X8_isSlot lk_X8_104 ⟨(Nat.le_of_ble_eq_true rfl), (Nat.le_of_ble_eq_true rfl)⟩ rfl (Nat.le_of_ble_eq_true rfl) (r_isSlot ?_)
  refine AW.zeq 11 7 dX8_covers_4 (by decide) rfl (fun c1 => ?_) (fun c1 => ?_)
  · exact F (by rw [c1]; rfl)
  · refine AW.iload_n 8 dX8_covers_7 rfl (by rfl) ?_
    refine AW.if_ge 18 11 dX8_covers_8 (by decide) rfl (fun c2 => ?_) (fun c2 => ?_)
    · have c2' : 0 ≤ i.toInt := Int32.le_iff_toInt_le.mp c2
      obtain ⟨j, hj, rfl⟩ : ∃ j, j < 2147483648 ∧ i = nI j := by
        have := i.toInt_lt
        refine ⟨i.toInt.toNat, by omega, ?_⟩
        apply Int32.toInt_inj.mp
        rw [nI_toInt (by omega)]
        omega
      rcases inB_cases (m := 6) (by omega) s with ⟨s', hs', rfl, e1⟩ | ⟨-, e1⟩
      · have hc := (w.2.2 s' hs').1
        rw [c1, decide_eq_true c2', cl_nI (by omega), cl_nI hj] at hP
        refine AW.aload_n 19 dX8_covers_18 rfl (by rfl) ?_
        refine AW.cV0 22 dX8_covers_19 rfl mi_X8_lay mv_X8_lay lk_X8_97 ⟨(Nat.le_of_ble_eq_true rfl), (Nat.le_of_ble_eq_true rfl)⟩ rfl (by assumption) rfl (Nat.le_of_ble_eq_true rfl) (r_lay K0 ?_)
        intro H K D F1
        obtain ⟨⟨_, _, _, _, _, _, y196⟩, f, r, y2, y3, y4⟩ := id D
        have y197 : H 197 = .inl (0, (15, .inl (nowF X.1))) := K.2.1
        have c6 := catN_le X.1.1 w.2.1
        have r1 := rkM_le X.1.1 (X.1.2.1 s')
        have G := K.now
        refine AW.aload_n 23 dX8_covers_22 rfl (by rfl) ?_
        refine AW.getfield 26 dX8_covers_23 rfl fl_X8_7 (by assumption) (by rfl) ?_
        refine AW.iconst 27 dX8_covers_26 rfl (nI 1) rfl ?_
        refine AW.iload_n 28 dX8_covers_27 rfl (by rfl) ?_
        first | refine AW.iaddN 29 dX8_covers_28 rfl ?_ | refine AW.iadd 29 dX8_covers_28 rfl ?_
        refine AW.iaload 30 _ dX8_covers_29 rfl (by assumption) (by first | exact Or.inl rfl | exact Or.inr rfl) (ix_nI (by omega)) (by omega) ?_
        rw [nowF_c hs']
        refine AW.istore_n 31 dX8_covers_30 rfl (Nat.le_of_ble_eq_true rfl) rfl ?_
        refine AW.iload_n 32 dX8_covers_31 rfl (by rfl) ?_
        refine AW.istore 34 dX8_covers_32 rfl (Nat.le_of_ble_eq_true rfl) rfl ?_
        refine AW.iconst 35 dX8_covers_34 rfl (nI 0) rfl ?_
        refine AW.istore 37 dX8_covers_35 rfl (Nat.le_of_ble_eq_true rfl) rfl ?_
        have L : ∀ m k left, k + m = catN X.1.1 → left < 2147483648 → clM X.1.1 (X.1.2.1 s') m k left = clM X.1.1 (X.1.2.1 s') (catN X.1.1) 0 j → AW X8_covers 37 [some (.ref 196), some (.int (nI s')), some (.int (nI j)), some (.int (nI (X.1.2.1 s'))), some (.int (nI left)), some (.int (nI k))] [] N (0, 0) H P := by
          intro m
          induction m with
          | zero =>
            intro k left hk hl e
            refine AW.iload 39 dX8_covers_37 rfl (by rfl) ?_
            refine AW.aload_n 40 dX8_covers_39 rfl (by rfl) ?_
            refine AW.getfield 43 dX8_covers_40 rfl fl_X8_87 (by assumption) (by rfl) ?_
            refine AW.nge 95 46 dX8_covers_43 (by decide) rfl (by omega) (by omega) (fun c4 => ?_) (fun c4 => ?_)
            · refine AW.iconst 96 dX8_covers_95 rfl (-1) rfl ?_
              refine AW.iret dX8_covers_96 rfl ?_
              have := hP H K F1.c
              rw [clM] at e
              simp only [Bool.and_self, if_true, cvlM, ← e] at this
              exact this
            · omega
          | succ m ih =>
            intro k left hk hl e
            rw [clM] at e
            have r2 := rkM_le X.1.1 (tb X.1.1 k)
            have t1 := tb_lt X.1.1 k
            obtain ⟨y5, y6⟩ := y4 k (by omega)
            have no : cvB X.1.1 (X.1.2.1 s') true k = false → AW X8_covers 89 [some (.ref 196), some (.int (nI s')), some (.int (nI j)), some (.int (nI (X.1.2.1 s'))), some (.int (nI left)), some (.int (nI k))] [] N (0, 0) H P := by
              intro e2
              rw [e2, if_neg (by decide)] at e
              refine AW.iinc1 92 dX8_covers_89 rfl (by rfl) rfl ?_
              refine AW.goto 37 dX8_covers_92 (by decide) ?_
              exact ih (k + 1) left (by omega) hl e
            refine AW.iload 39 dX8_covers_37 rfl (by rfl) ?_
            refine AW.aload_n 40 dX8_covers_39 rfl (by rfl) ?_
            refine AW.getfield 43 dX8_covers_40 rfl fl_X8_87 (by assumption) (by rfl) ?_
            refine AW.nge 95 46 dX8_covers_43 (by decide) rfl (by omega) (by omega) (fun c4 => ?_) (fun c4 => ?_)
            · omega
            · refine AW.aload_n 47 dX8_covers_46 rfl (by rfl) ?_
              refine AW.getfield 50 dX8_covers_47 rfl fl_X8_31 (by assumption) (by rfl) ?_
              refine AW.iload 52 dX8_covers_50 rfl (by rfl) ?_
              refine AW.iaload 53 _ dX8_covers_52 rfl (by assumption) (by first | exact Or.inl rfl | exact Or.inr rfl) (ix_nI (by omega)) (by omega) ?_
              rw [y6]
              refine AW.aload_n 54 dX8_covers_53 rfl (by rfl) ?_
              refine AW.iload_n 55 dX8_covers_54 rfl (by rfl) ?_
              refine AW.cV1 58 dX8_covers_55 rfl mi_X8_rankOf mv_X8_rankOf lk_X8_93 ⟨(Nat.le_of_ble_eq_true rfl), (Nat.le_of_ble_eq_true rfl)⟩ rfl (by assumption) rfl (Nat.le_of_ble_eq_true rfl) (c_rankOf G hc ?_)
              refine AW.iconst 59 dX8_covers_58 rfl (nI 1) rfl ?_
              first | refine AW.iaddN 60 dX8_covers_59 rfl ?_ | refine AW.iadd 60 dX8_covers_59 rfl ?_
              refine AW.nne 89 63 dX8_covers_60 (by decide) rfl (by omega) (by omega) (fun c5 => ?_) (fun c5 => ?_)
              · exact no (by rw [cvB, if_pos rfl, decide_eq_false c5]; rfl)
              · refine AW.aload_n 64 dX8_covers_63 rfl (by rfl) ?_
                refine AW.iload_n 65 dX8_covers_64 rfl (by rfl) ?_
                refine AW.aload_n 66 dX8_covers_65 rfl (by rfl) ?_
                refine AW.getfield 69 dX8_covers_66 rfl fl_X8_28 (by assumption) (by rfl) ?_
                refine AW.iload 71 dX8_covers_69 rfl (by rfl) ?_
                refine AW.iaload 72 _ dX8_covers_71 rfl (by assumption) (by first | exact Or.inl rfl | exact Or.inr rfl) (ix_nI (by omega)) (by omega) ?_
                rw [y5]
                refine AW.cV2 75 dX8_covers_72 rfl mi_X8_isBelow mv_X8_isBelow lk_X8_171 ⟨(Nat.le_of_ble_eq_true rfl), (Nat.le_of_ble_eq_true rfl)⟩ rfl (by assumption) rfl (Nat.le_of_ble_eq_true rfl) (c_isBelow G hc t1 ?_)
                refine AW.zeq 89 78 dX8_covers_75 (by decide) rfl (fun c7 => ?_) (fun c7 => ?_)
                · exact no (by rw [cvB, if_pos rfl, c7, Bool.and_false])
                · have e2 : cvB X.1.1 (X.1.2.1 s') true k = true := by rw [cvB, if_pos rfl, c7, decide_eq_true c5]; rfl
                  rw [e2, if_pos rfl] at e
                  refine AW.iload 80 dX8_covers_78 rfl (by rfl) ?_
                  refine AW.ine 86 83 dX8_covers_80 (by decide) rfl (by omega) (fun c8 => ?_) (fun c8 => ?_)
                  · rw [if_neg c8] at e
                    refine AW.iincm 89 dX8_covers_86 rfl (by rfl) rfl ?_
                    obtain ⟨l, rfl⟩ : ∃ l, left = l + 1 := ⟨left - 1, by omega⟩
                    rw [show nI (l + 1) - nI 1 = nI l from nI_pred l]
                    refine AW.iinc1 92 dX8_covers_89 rfl (by rfl) rfl ?_
                    refine AW.goto 37 dX8_covers_92 (by decide) ?_
                    exact ih (k + 1) l (by omega) (by omega) e
                  · rw [if_pos c8] at e
                    refine AW.iload 85 dX8_covers_83 rfl (by rfl) ?_
                    refine AW.iret dX8_covers_85 rfl ?_
                    have := hP H K F1.c
                    simp only [Bool.and_self, if_true, cvlM, ← e] at this
                    exact this
        exact L (catN X.1.1) 0 j (by omega) hj rfl
      · rw [e1] at c1; exact absurd c1 (by decide)
    · have c2' : ¬ (0 : Int) ≤ i.toInt := fun q => c2 (Int32.le_iff_toInt_le.mpr q)
      exact F (by rw [decide_eq_false c2', Bool.and_false])
theorem r_markOf {a b : Nat} {s : Nat} (G : NowAt h n) (ha : a < 16777216) (hb : b < 16777216) (hs : s < n) (hs1 : rw8 a s = s ∧ rw8 b s ≠ s) (hm : ∀ s, s < n → rw8 a s = s → rw8 b s ≠ s → ∃ m, m < s ∧ rw8 a m = rw8 b s) (hP : P (some (.int (nI (mkM n a b)))) N h) : AM X8_markOf [.ref 196, .int (nI a), .int (nI b)] N h P := by
  have G6 := G.2.2.2
  refine AM.of0 rfl (Nat.le_of_ble_eq_true rfl) rfl [some (.ref 196), some (.int (nI a)), some (.int (nI b)), none, none] rfl ?_
  refine AW.iconst 1 dX8_markOf_0 rfl (nI 0) rfl ?_
  refine AW.istore_n 2 dX8_markOf_1 rfl (Nat.le_of_ble_eq_true rfl) rfl ?_
  have M : ∀ k x, x ≤ mk1 n a b → mk1 n a b < n → (∃ m, m ≤ x ∧ x = m + k ∧ 0 < k ∧ rw8 a m = rw8 b (mk1 n a b)) → fndD (fun m => decide (rw8 a m = rw8 b (mk1 n a b))) 0 x (x - 1) = mkM n a b → AW X8_markOf 31 [some (.ref 196), some (.int (nI a)), some (.int (nI b)), some (.int (nI (mk1 n a b))), some (.int (nI (x - 1)))] [] N (0, 0) h P := by
    intro k
    induction k with
    | zero => intro x _ _ ⟨m, _, _, q, _⟩; omega
    | succ k ih =>
      intro x hx hmk ⟨m, m1, m2, m3, m4⟩ e
      have r1 := rw8_lt a (x - 1)
      have r2 := rw8_lt b (mk1 n a b)
      obtain ⟨y, rfl⟩ : ∃ y, x = y + 1 := ⟨x - 1, by omega⟩
      rw [fndD, Nat.add_sub_cancel] at e
      rw [Nat.add_sub_cancel] at r1 ⊢
      refine AW.iload_n 32 dX8_markOf_31 rfl (by rfl) ?_
      refine AW.iload 34 dX8_markOf_32 rfl (by rfl) ?_
      refine AW.cS2 37 dX8_markOf_34 rfl mi_X8_rowOf ms_X8_rowOf lk_X8_64 ⟨(Nat.le_of_ble_eq_true rfl), (Nat.le_of_ble_eq_true rfl)⟩ rfl (Nat.le_of_ble_eq_true rfl) (c_rowOf (by omega) ha ?_)
      refine AW.iload_n 38 dX8_markOf_37 rfl (by rfl) ?_
      refine AW.iload_n 39 dX8_markOf_38 rfl (by rfl) ?_
      refine AW.cS2 42 dX8_markOf_39 rfl mi_X8_rowOf ms_X8_rowOf lk_X8_64 ⟨(Nat.le_of_ble_eq_true rfl), (Nat.le_of_ble_eq_true rfl)⟩ rfl (Nat.le_of_ble_eq_true rfl) (c_rowOf (by omega) hb ?_)
      refine AW.neq 51 45 dX8_markOf_42 (by decide) rfl (by omega) (by omega) (fun c2 => ?_) (fun c2 => ?_)
      · rw [if_pos (decide_eq_true c2)] at e
        refine AW.iload 53 dX8_markOf_51 rfl (by rfl) ?_
        refine AW.iret dX8_markOf_53 rfl ?_
        rw [e]
        exact hP
      · rw [if_neg (by rw [decide_eq_false c2]; decide)] at e
        obtain ⟨k', rfl⟩ : ∃ k', k = k' + 1 := by
          rcases k with _ | k
          · exact absurd (show rw8 a y = rw8 b (mk1 n a b) by rw [← m4]; congr 1; omega) c2
          · exact ⟨k, rfl⟩
        refine AW.iincm 48 dX8_markOf_45 rfl (by rfl) rfl ?_
        have q := ih y (by omega) hmk ⟨m, by omega, by omega, by omega, m4⟩ e
        obtain ⟨z, rfl⟩ : ∃ z, y = z + 1 := ⟨y - 1, by omega⟩
        rw [show nI (z + 1) - nI 1 = nI z from nI_pred z]
        refine AW.goto 31 dX8_markOf_48 (by decide) ?_
        exact q
  have L : ∀ k x, x + k = n → x ≤ s → fnd (fun s => decide (rw8 a s = s) && !decide (rw8 b s = s)) n k x = mk1 n a b → AW X8_markOf 2 [some (.ref 196), some (.int (nI a)), some (.int (nI b)), some (.int (nI x)), none] [] N (0, 0) h P := by
    intro k
    induction k with
    | zero => intro x hx hxs; omega
    | succ k ih =>
      intro x hx hxs e
      rw [fnd] at e
      have r1 := rw8_lt a x
      have r2 := rw8_lt b x
      have no : (decide (rw8 a x = x) && !decide (rw8 b x = x)) = false → AW X8_markOf 20 [some (.ref 196), some (.int (nI a)), some (.int (nI b)), some (.int (nI x)), none] [] N (0, 0) h P := by
        intro e2
        rw [e2, if_neg (by decide)] at e
        refine AW.iinc1 23 dX8_markOf_20 rfl (by rfl) rfl ?_
        refine AW.goto 2 dX8_markOf_23 (by decide) ?_
        refine ih (x + 1) (by omega) ?_ e
        rcases Nat.lt_or_ge x s with z | z
        · exact z
        · have : x = s := by omega
          subst this
          rw [decide_eq_true hs1.1, decide_eq_false hs1.2] at e2
          exact absurd e2 (by decide)
      refine AW.iload_n 3 dX8_markOf_2 rfl (by rfl) ?_
      refine AW.iload_n 4 dX8_markOf_3 rfl (by rfl) ?_
      refine AW.cS2 7 dX8_markOf_4 rfl mi_X8_rowOf ms_X8_rowOf lk_X8_64 ⟨(Nat.le_of_ble_eq_true rfl), (Nat.le_of_ble_eq_true rfl)⟩ rfl (Nat.le_of_ble_eq_true rfl) (c_rowOf (by omega) ha ?_)
      refine AW.iload_n 8 dX8_markOf_7 rfl (by rfl) ?_
      refine AW.nne 20 11 dX8_markOf_8 (by decide) rfl (by omega) (by omega) (fun c2 => ?_) (fun c2 => ?_)
      · exact no (by rw [decide_eq_false c2]; rfl)
      · refine AW.iload_n 12 dX8_markOf_11 rfl (by rfl) ?_
        refine AW.iload_n 13 dX8_markOf_12 rfl (by rfl) ?_
        refine AW.cS2 16 dX8_markOf_13 rfl mi_X8_rowOf ms_X8_rowOf lk_X8_64 ⟨(Nat.le_of_ble_eq_true rfl), (Nat.le_of_ble_eq_true rfl)⟩ rfl (Nat.le_of_ble_eq_true rfl) (c_rowOf (by omega) hb ?_)
        refine AW.iload_n 17 dX8_markOf_16 rfl (by rfl) ?_
        refine AW.nne 26 20 dX8_markOf_17 (by decide) rfl (by omega) (by omega) (fun c3 => ?_) (fun c3 => ?_)
        · have e2 : (decide (rw8 a x = x) && !decide (rw8 b x = x)) = true := by rw [decide_eq_true c2, decide_eq_false c3]; rfl
          rw [e2, if_pos rfl] at e
          obtain ⟨m, m1, m2⟩ := hm x (by omega) c2 c3
          refine AW.iload_n 27 dX8_markOf_26 rfl (by rfl) ?_
          refine AW.iconst 28 dX8_markOf_27 rfl (nI 1) rfl ?_
          first | refine AW.isubN 29 dX8_markOf_28 rfl (by omega) ?_ | refine AW.isub 29 dX8_markOf_28 rfl ?_
          refine AW.istore 31 dX8_markOf_29 rfl (Nat.le_of_ble_eq_true rfl) rfl ?_
          have q := M (x - m) x (by omega) (by omega) ⟨m, by omega, by omega, by omega, by rw [m2, ← e]⟩ (by rw [mkM, ← e])
          rw [← e] at q
          exact q
        · exact no (by rw [decide_eq_true c3, Bool.not_true, Bool.and_false])
  exact L n 0 (by omega) (Nat.zero_le _) rfl
end REFF
