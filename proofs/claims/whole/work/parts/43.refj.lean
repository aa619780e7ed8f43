/-! THE MODEL, twentieth part: marked, signed -/
section REFJ
variable {N n : Nat} {h : aH} {P : aP} {X : aX}
theorem r_signTo {k : Nat} {S : Nat → Int32} (K : RfAt h X) (D : LdAt h X.1.1) (hS : h 206 = .inl (0, (1430, .inl S))) (hk : k < catN X.1.1) (hP : P (some (.int (sgT X.1.1 S k (catN X.1.1)))) N h) : AM X8_signTo [.ref 196, .int (nI k)] N h P := by
  obtain ⟨⟨_, _, _, _, _, _, y196⟩, f, q, y2, y3, y4⟩ := id D
  have w := K.2.2.2.2.2.2.2.2
  have w2 := w.2.1
  have c6 := catN_le X.1.1 w.2.1
  have G := K.now
  have tk := tb_lt X.1.1 k
  obtain ⟨k5, k6⟩ := y4 k hk
  refine AM.of0 rfl (Nat.le_of_ble_eq_true rfl) rfl [some (.ref 196), some (.int (nI k)), none, none] rfl ?_
  refine AW.iconst 1 dX8_signTo_0 rfl (nI 0) rfl ?_
  refine AW.istore_n 2 dX8_signTo_1 rfl (Nat.le_of_ble_eq_true rfl) rfl ?_
  refine AW.iconst 3 dX8_signTo_2 rfl (nI 0) rfl ?_
  refine AW.istore_n 4 dX8_signTo_3 rfl (Nat.le_of_ble_eq_true rfl) rfl ?_
  have L : ∀ i j, j + i = catN X.1.1 → AW X8_signTo 4 [some (.ref 196), some (.int (nI k)), some (.int (sgT X.1.1 S k j)), some (.int (nI j))] [] N (0, 0) h P := by
    intro i
    induction i with
    | zero =>
      intro j hj
      refine AW.iload_n 5 dX8_signTo_4 rfl (by rfl) ?_
      refine AW.aload_n 6 dX8_signTo_5 rfl (by rfl) ?_
      refine AW.getfield 9 dX8_signTo_6 rfl fl_X8_87 (by assumption) (by rfl) ?_
      refine AW.nge 64 12 dX8_signTo_9 (by decide) rfl (by omega) (by omega) (fun c2 => ?_) (fun c2 => ?_)
      · obtain rfl : j = catN X.1.1 := by omega
        refine AW.iload_n 65 dX8_signTo_64 rfl (by rfl) ?_
        refine AW.iret dX8_signTo_65 rfl ?_
        exact hP
      · omega
    | succ i ih =>
      intro j hj
      have t1 := tb_lt X.1.1 j
      obtain ⟨y5, y6⟩ := y4 j (by omega)
      have nx := ih (j + 1) (by omega)
      rw [sgT] at nx
      have J : ∀ v, v = (if S j ≠ 0 ∧ j ≠ k ∧ blM X.1.1 (tb X.1.1 j) (tb X.1.1 k) = true then S j else nI 0) → AW X8_signTo 56 [some (.ref 196), some (.int (nI k)), some (.int (sgT X.1.1 S k j)), some (.int (nI j))] [.int v, .int (sgT X.1.1 S k j)] N (0, 0) h P := by
        intro v hv
        subst hv
        refine AW.isub 57 dX8_signTo_56 rfl ?_
        refine AW.istore_n 58 dX8_signTo_57 rfl (Nat.le_of_ble_eq_true rfl) rfl ?_
        refine AW.iinc1 61 dX8_signTo_58 rfl (by rfl) rfl ?_
        refine AW.goto 4 dX8_signTo_61 (by decide) ?_
        exact nx
      have no : ¬ (S j ≠ 0 ∧ j ≠ k ∧ blM X.1.1 (tb X.1.1 j) (tb X.1.1 k) = true) → AW X8_signTo 55 [some (.ref 196), some (.int (nI k)), some (.int (sgT X.1.1 S k j)), some (.int (nI j))] [.int (sgT X.1.1 S k j)] N (0, 0) h P := by
        intro e
        refine AW.iconst 56 dX8_signTo_55 rfl (nI 0) rfl ?_
        exact J _ (by rw [if_neg e])
      refine AW.iload_n 5 dX8_signTo_4 rfl (by rfl) ?_
      refine AW.aload_n 6 dX8_signTo_5 rfl (by rfl) ?_
      refine AW.getfield 9 dX8_signTo_6 rfl fl_X8_87 (by assumption) (by rfl) ?_
      refine AW.nge 64 12 dX8_signTo_9 (by decide) rfl (by omega) (by omega) (fun c2 => ?_) (fun c2 => ?_)
      · omega
      · refine AW.iload_n 13 dX8_signTo_12 rfl (by rfl) ?_
        refine AW.aload_n 14 dX8_signTo_13 rfl (by rfl) ?_
        refine AW.getfield 17 dX8_signTo_14 rfl fl_X8_37 (by assumption) (by rfl) ?_
        refine AW.iload_n 18 dX8_signTo_17 rfl (by rfl) ?_
        refine AW.iaload 19 _ dX8_signTo_18 rfl (by assumption) (by first | exact Or.inl rfl | exact Or.inr rfl) (ix_nI (by omega)) (by omega) ?_
        refine AW.if_eq 55 22 dX8_signTo_19 (by decide) rfl (fun c3 => ?_) (fun c3 => ?_)
        · exact no (fun z => z.1 c3)
        · refine AW.iload_n 23 dX8_signTo_22 rfl (by rfl) ?_
          refine AW.iload_n 24 dX8_signTo_23 rfl (by rfl) ?_
          refine AW.neq 55 27 dX8_signTo_24 (by decide) rfl (by omega) (by omega) (fun c4 => ?_) (fun c4 => ?_)
          · exact no (fun z => z.2.1 c4)
          · refine AW.aload_n 28 dX8_signTo_27 rfl (by rfl) ?_
            refine AW.aload_n 29 dX8_signTo_28 rfl (by rfl) ?_
            refine AW.getfield 32 dX8_signTo_29 rfl fl_X8_28 (by assumption) (by rfl) ?_
            refine AW.iload_n 33 dX8_signTo_32 rfl (by rfl) ?_
            refine AW.iaload 34 _ dX8_signTo_33 rfl (by assumption) (by first | exact Or.inl rfl | exact Or.inr rfl) (ix_nI (by omega)) (by omega) ?_
            rw [y5]
            refine AW.aload_n 35 dX8_signTo_34 rfl (by rfl) ?_
            refine AW.getfield 38 dX8_signTo_35 rfl fl_X8_28 (by assumption) (by rfl) ?_
            refine AW.iload_n 39 dX8_signTo_38 rfl (by rfl) ?_
            refine AW.iaload 40 _ dX8_signTo_39 rfl (by assumption) (by first | exact Or.inl rfl | exact Or.inr rfl) (ix_nI (by omega)) (by omega) ?_
            rw [k5]
            refine AW.cV2 43 dX8_signTo_40 rfl mi_X8_isBelow mv_X8_isBelow lk_X8_171 ⟨(Nat.le_of_ble_eq_true rfl), (Nat.le_of_ble_eq_true rfl)⟩ rfl (by assumption) rfl (Nat.le_of_ble_eq_true rfl) (c_isBelow G t1 tk ?_)
            refine AW.zeq 55 46 dX8_signTo_43 (by decide) rfl (fun c5 => ?_) (fun c5 => ?_)
            · exact no (fun z => by rw [z.2.2] at c5; exact absurd c5 (by decide))
            · refine AW.aload_n 47 dX8_signTo_46 rfl (by rfl) ?_
              refine AW.getfield 50 dX8_signTo_47 rfl fl_X8_37 (by assumption) (by rfl) ?_
              refine AW.iload_n 51 dX8_signTo_50 rfl (by rfl) ?_
              refine AW.iaload 52 _ dX8_signTo_51 rfl (by assumption) (by first | exact Or.inl rfl | exact Or.inr rfl) (ix_nI (by omega)) (by omega) ?_
              refine AW.goto 56 dX8_signTo_52 (by decide) ?_
              exact J _ (by rw [if_pos ⟨c3, c4, c5⟩])
  exact L (catN X.1.1) 0 (by omega)
theorem r_signedIn {a b : Nat} {v1 v2 v3 : Option Value} (K0 : RfAt h X) (D0 : LdAt h X.1.1) (wa : WfC X.1.1 a) (wb : WfC X.1.1 b) (hP : ∀ h', RfAt h' X → FrM h h' → P (some (.int (sgM X.1.1 a b))) N h') : AW X8_signed 37 [some (.ref 196), v1, v2, v3, some (.int (nI a)), some (.int (nI b)), none, none] [] N (0, 0) h P := by
  have w := K0.2.2.2.2.2.2.2.2
  have w2 := w.2.1
  have ra := rkM_le X.1.1 a
  have rb := rkM_le X.1.1 b
  have a1 := wa.1
  have b1 := wb.1
  have c6 := catN_le X.1.1 w.2.1
  obtain ⟨g0, x206⟩ := K0.2.2.2.2.2.2.2.1.2.2.1
  have fin : ∀ W v6 v7 H, RfAt H X → FrM h H → H 206 = .inl (0, (1430, .inl W)) → W (numM X.1.1 b) = sgM X.1.1 a b → AW X8_signed 179 [some (.ref 196), v1, v2, v3, some (.int (nI a)), some (.int (nI b)), v6, v7] [] N (0, 0) H P := by
    intro W v6 v7 H K F z206 e
    obtain ⟨_, _, _, _, _, _, z196, -⟩ := id K.1
    have nb := numM_lt X.1.1 b w2
    refine AW.aload_n 180 dX8_signed_179 rfl (by rfl) ?_
    refine AW.getfield 183 dX8_signed_180 rfl fl_X8_37 (by assumption) (by rfl) ?_
    refine AW.aload_n 184 dX8_signed_183 rfl (by rfl) ?_
    refine AW.iload 186 dX8_signed_184 rfl (by rfl) ?_
    refine AW.cV1 189 dX8_signed_186 rfl mi_X8_numberOf mv_X8_numberOf lk_X8_125 ⟨(Nat.le_of_ble_eq_true rfl), (Nat.le_of_ble_eq_true rfl)⟩ rfl (by assumption) rfl (Nat.le_of_ble_eq_true rfl) (r_numberOfL K wb.1 ?_)
    intro h' K' D' F'
    have z206' : h' 206 = .inl (0, (1430, .inl W)) := by rw [F'.1 _ (by decide) (by decide) (by decide) (by decide), z206]
    refine AW.iaload 190 _ dX8_signed_189 rfl (by assumption) (by first | exact Or.inl rfl | exact Or.inr rfl) (ix_nI (by omega)) (by omega) ?_
    rw [e]
    refine AW.iret dX8_signed_190 rfl ?_
    exact hP h' K' (F.trans F'.m)
  have R : ∀ j r W v7 H, RfAt H X → LdAt H X.1.1 → FrM h H → H 206 = .inl (0, (1430, .inl W)) → rkM X.1.1 b + 1 - r = j → r ≤ 9 → (sgR X.1.1 a b j r W) (numM X.1.1 b) = sgM X.1.1 a b → AW X8_signed 71 [some (.ref 196), v1, v2, v3, some (.int (nI a)), some (.int (nI b)), some (.int (nI r)), v7] [] N (0, 0) H P := by
    intro j
    induction j with
    | zero =>
      intro r W v7 H K D F z206 hj hr9 e
      obtain ⟨_, _, _, _, _, _, z196, -⟩ := id K.1
      refine AW.iload 73 dX8_signed_71 rfl (by rfl) ?_
      refine AW.aload_n 74 dX8_signed_73 rfl (by rfl) ?_
      refine AW.iload 76 dX8_signed_74 rfl (by rfl) ?_
      refine AW.cV1 79 dX8_signed_76 rfl mi_X8_rankOf mv_X8_rankOf lk_X8_93 ⟨(Nat.le_of_ble_eq_true rfl), (Nat.le_of_ble_eq_true rfl)⟩ rfl (by assumption) rfl (Nat.le_of_ble_eq_true rfl) (c_rankOf K.now wb.1 ?_)
      refine AW.ngt 179 82 dX8_signed_79 (by decide) rfl (by omega) (by omega) (fun c1 => ?_) (fun c1 => ?_)
      · exact fin W _ _ H K F z206 e
      · omega
    | succ j ih =>
      intro r W v7 H K D F z206 hj hr9 e
      obtain ⟨_, _, _, _, _, _, z196, -⟩ := id K.1
      refine AW.iload 73 dX8_signed_71 rfl (by rfl) ?_
      refine AW.aload_n 74 dX8_signed_73 rfl (by rfl) ?_
      refine AW.iload 76 dX8_signed_74 rfl (by rfl) ?_
      refine AW.cV1 79 dX8_signed_76 rfl mi_X8_rankOf mv_X8_rankOf lk_X8_93 ⟨(Nat.le_of_ble_eq_true rfl), (Nat.le_of_ble_eq_true rfl)⟩ rfl (by assumption) rfl (Nat.le_of_ble_eq_true rfl) (c_rankOf K.now wb.1 ?_)
      refine AW.ngt 179 82 dX8_signed_79 (by decide) rfl (by omega) (by omega) (fun c1 => ?_) (fun c1 => ?_)
      · omega
      · refine AW.iconst 83 dX8_signed_82 rfl (nI 0) rfl ?_
        refine AW.istore 85 dX8_signed_83 rfl (Nat.le_of_ble_eq_true rfl) rfl ?_
        have C : ∀ i k H, k + i = catN X.1.1 → RfAt H X → LdAt H X.1.1 → FrM h H → H 206 = .inl (0, (1430, .inl (sgK X.1.1 a b r k W))) → AW X8_signed 85 [some (.ref 196), v1, v2, v3, some (.int (nI a)), some (.int (nI b)), some (.int (nI r)), some (.int (nI k))] [] N (0, 0) H P := by
          intro i
          induction i with
          | zero =>
            intro k H hk K D F z206
            obtain ⟨⟨_, _, _, _, _, _, z196⟩, f, q, y2, y3, y4⟩ := id D
            refine AW.iload 87 dX8_signed_85 rfl (by rfl) ?_
            refine AW.aload_n 88 dX8_signed_87 rfl (by rfl) ?_
            refine AW.getfield 91 dX8_signed_88 rfl fl_X8_87 (by assumption) (by rfl) ?_
            refine AW.nge 173 94 dX8_signed_91 (by decide) rfl (by omega) (by omega) (fun c2 => ?_) (fun c2 => ?_)
            · obtain rfl : k = catN X.1.1 := by omega
              refine AW.iinc1 176 dX8_signed_173 rfl (by rfl) rfl ?_
              refine AW.goto 71 dX8_signed_176 (by decide) ?_
              exact ih (r + 1) _ _ H K D F z206 (by omega) (by omega) e
            · omega
          | succ i ihk =>
            intro k H hk K D F z206
            obtain ⟨⟨_, _, _, _, _, _, z196⟩, f, q, y2, y3, y4⟩ := id D
            obtain ⟨y5, y6⟩ := y4 k (by omega)
            have t1 := tb_lt X.1.1 k
            have r2 := rkM_le X.1.1 (tb X.1.1 k)
            have G := K.now
            have no : ¬ (rkM X.1.1 (tb X.1.1 k) = r ∧ blM X.1.1 a (tb X.1.1 k) = true ∧ blM X.1.1 (tb X.1.1 k) b = true) → AW X8_signed 167 [some (.ref 196), v1, v2, v3, some (.int (nI a)), some (.int (nI b)), some (.int (nI r)), some (.int (nI k))] [] N (0, 0) H P := by
              intro e
              refine AW.iinc1 170 dX8_signed_167 rfl (by rfl) rfl ?_
              refine AW.goto 85 dX8_signed_170 (by decide) ?_
              refine ihk (k + 1) H (by omega) K D F ?_
              rw [sgK, if_neg e, z206]
            refine AW.iload 87 dX8_signed_85 rfl (by rfl) ?_
            refine AW.aload_n 88 dX8_signed_87 rfl (by rfl) ?_
            refine AW.getfield 91 dX8_signed_88 rfl fl_X8_87 (by assumption) (by rfl) ?_
            refine AW.nge 173 94 dX8_signed_91 (by decide) rfl (by omega) (by omega) (fun c2 => ?_) (fun c2 => ?_)
            · omega
            · refine AW.aload_n 95 dX8_signed_94 rfl (by rfl) ?_
              refine AW.getfield 98 dX8_signed_95 rfl fl_X8_31 (by assumption) (by rfl) ?_
              refine AW.iload 100 dX8_signed_98 rfl (by rfl) ?_
              refine AW.iaload 101 _ dX8_signed_100 rfl (by assumption) (by first | exact Or.inl rfl | exact Or.inr rfl) (ix_nI (by omega)) (by omega) ?_
              rw [y6]
              refine AW.iload 103 dX8_signed_101 rfl (by rfl) ?_
              refine AW.nne 167 106 dX8_signed_103 (by decide) rfl (by omega) (by omega) (fun c3 => ?_) (fun c3 => ?_)
              · exact no (fun z => c3 z.1)
              · refine AW.aload_n 107 dX8_signed_106 rfl (by rfl) ?_
                refine AW.iload 109 dX8_signed_107 rfl (by rfl) ?_
                refine AW.aload_n 110 dX8_signed_109 rfl (by rfl) ?_
                refine AW.getfield 113 dX8_signed_110 rfl fl_X8_28 (by assumption) (by rfl) ?_
                refine AW.iload 115 dX8_signed_113 rfl (by rfl) ?_
                refine AW.iaload 116 _ dX8_signed_115 rfl (by assumption) (by first | exact Or.inl rfl | exact Or.inr rfl) (ix_nI (by omega)) (by omega) ?_
                rw [y5]
                refine AW.cV2 119 dX8_signed_116 rfl mi_X8_isBelow mv_X8_isBelow lk_X8_171 ⟨(Nat.le_of_ble_eq_true rfl), (Nat.le_of_ble_eq_true rfl)⟩ rfl (by assumption) rfl (Nat.le_of_ble_eq_true rfl) (c_isBelow G a1 t1 ?_)
                refine AW.zeq 167 122 dX8_signed_119 (by decide) rfl (fun c4 => ?_) (fun c4 => ?_)
                · exact no (fun z => by rw [z.2.1] at c4; exact absurd c4 (by decide))
                · refine AW.aload_n 123 dX8_signed_122 rfl (by rfl) ?_
                  refine AW.aload_n 124 dX8_signed_123 rfl (by rfl) ?_
                  refine AW.getfield 127 dX8_signed_124 rfl fl_X8_28 (by assumption) (by rfl) ?_
                  refine AW.iload 129 dX8_signed_127 rfl (by rfl) ?_
                  refine AW.iaload 130 _ dX8_signed_129 rfl (by assumption) (by first | exact Or.inl rfl | exact Or.inr rfl) (ix_nI (by omega)) (by omega) ?_
                  rw [y5]
                  refine AW.iload 132 dX8_signed_130 rfl (by rfl) ?_
                  refine AW.cV2 135 dX8_signed_132 rfl mi_X8_isBelow mv_X8_isBelow lk_X8_171 ⟨(Nat.le_of_ble_eq_true rfl), (Nat.le_of_ble_eq_true rfl)⟩ rfl (by assumption) rfl (Nat.le_of_ble_eq_true rfl) (c_isBelow G t1 b1 ?_)
                  refine AW.zeq 167 138 dX8_signed_135 (by decide) rfl (fun c5 => ?_) (fun c5 => ?_)
                  · exact no (fun z => by rw [z.2.2] at c5; exact absurd c5 (by decide))
                  · have J : ∀ v, v = (if tb X.1.1 k = a then nI 1 else sgT X.1.1 (sgK X.1.1 a b r k W) k (catN X.1.1)) → AW X8_signed 166 [some (.ref 196), v1, v2, v3, some (.int (nI a)), some (.int (nI b)), some (.int (nI r)), some (.int (nI k))] [.int v, .int (nI k), .ref 206] N (0, 0) H P := by
                      intro v hv
                      subst hv
                      refine AW.iastore 167 _ dX8_signed_166 rfl (by assumption) (ix_nI (by omega)) (by omega) ?_
                      refine AW.iinc1 170 dX8_signed_167 rfl (by rfl) rfl ?_
                      refine AW.goto 85 dX8_signed_170 (by decide) ?_
                      refine ihk (k + 1) _ (by omega) K.n206 (D.ne (by decide)) (F.trans (FrM.at (by omega))) ?_
                      rw [hs_eq, sgK, if_pos (show rkM X.1.1 (tb X.1.1 k) = r ∧ blM X.1.1 a (tb X.1.1 k) = true ∧ blM X.1.1 (tb X.1.1 k) b = true from ⟨c3, c4, c5⟩)]
                    refine AW.aload_n 139 dX8_signed_138 rfl (by rfl) ?_
                    refine AW.getfield 142 dX8_signed_139 rfl fl_X8_37 (by assumption) (by rfl) ?_
                    refine AW.iload 144 dX8_signed_142 rfl (by rfl) ?_
                    refine AW.aload_n 145 dX8_signed_144 rfl (by rfl) ?_
                    refine AW.getfield 148 dX8_signed_145 rfl fl_X8_28 (by assumption) (by rfl) ?_
                    refine AW.iload 150 dX8_signed_148 rfl (by rfl) ?_
                    refine AW.iaload 151 _ dX8_signed_150 rfl (by assumption) (by first | exact Or.inl rfl | exact Or.inr rfl) (ix_nI (by omega)) (by omega) ?_
                    rw [y5]
                    refine AW.iload 153 dX8_signed_151 rfl (by rfl) ?_
                    refine AW.nne 160 156 dX8_signed_153 (by decide) rfl (by omega) (by omega) (fun c7 => ?_) (fun c7 => ?_)
                    · refine AW.aload_n 161 dX8_signed_160 rfl (by rfl) ?_
                      refine AW.iload 163 dX8_signed_161 rfl (by rfl) ?_
                      refine AW.cV1 166 dX8_signed_163 rfl mi_X8_signTo mv_X8_signTo lk_X8_200 ⟨(Nat.le_of_ble_eq_true rfl), (Nat.le_of_ble_eq_true rfl)⟩ rfl (by assumption) rfl (Nat.le_of_ble_eq_true rfl) (r_signTo K D z206 (by omega) ?_)
                      exact J _ (by rw [if_neg c7])
                    · refine AW.iconst 157 dX8_signed_156 rfl (nI 1) rfl ?_
                      refine AW.goto 166 dX8_signed_157 (by decide) ?_
                      exact J _ (by rw [if_pos c7])
        exact C (catN X.1.1) 0 H (by omega) K D F z206
  refine AW.iconst 38 dX8_signed_37 rfl (nI 0) rfl ?_
  refine AW.istore 40 dX8_signed_38 rfl (Nat.le_of_ble_eq_true rfl) rfl ?_
  have S : ∀ i k, k + i = catN X.1.1 → AW X8_signed 40 [some (.ref 196), v1, v2, v3, some (.int (nI a)), some (.int (nI b)), some (.int (nI k)), none] [] N (0, 0) (hs h 206 (.inl (0, (1430, .inl (fun x => if x < k then nI 0 else g0 x))))) P := by
    intro i
    induction i with
    | zero =>
      intro k hk
      have K2 := K0.n206 (f := fun x => if x < k then nI 0 else g0 x)
      have D2 := D0.ne (k := 206) (e := .inl (0, (1430, .inl (fun x => if x < k then nI 0 else g0 x)))) (by decide)
      obtain ⟨⟨_, _, _, _, _, _, z196⟩, f, q, y2, y3, y4⟩ := id D2
      refine AW.iload 42 dX8_signed_40 rfl (by rfl) ?_
      refine AW.aload_n 43 dX8_signed_42 rfl (by rfl) ?_
      refine AW.getfield 46 dX8_signed_43 rfl fl_X8_87 (by assumption) (by rfl) ?_
      refine AW.nge 63 49 dX8_signed_46 (by decide) rfl (by omega) (by omega) (fun c2 => ?_) (fun c2 => ?_)
      · refine AW.aload_n 64 dX8_signed_63 rfl (by rfl) ?_
        refine AW.iload 66 dX8_signed_64 rfl (by rfl) ?_
        refine AW.cV1 69 dX8_signed_66 rfl mi_X8_rankOf mv_X8_rankOf lk_X8_93 ⟨(Nat.le_of_ble_eq_true rfl), (Nat.le_of_ble_eq_true rfl)⟩ rfl (by assumption) rfl (Nat.le_of_ble_eq_true rfl) (c_rankOf K2.now wa.1 ?_)
        refine AW.istore 71 dX8_signed_69 rfl (Nat.le_of_ble_eq_true rfl) rfl ?_
        refine R (rkM X.1.1 b + 1 - rkM X.1.1 a) (rkM X.1.1 a) _ none _ K2 D2 (FrM.at (by omega)) (hs_eq _ _ _) rfl (by omega) ?_
        have nb := numM_lt X.1.1 b w2
        exact sgR_congr (M := catN X.1.1) (Nat.le_refl _) _ _ _ _ (fun i hi => by show (if i < k then _ else _) = _; rw [if_pos (by omega)]) _ nb
      · omega
    | succ i ih =>
      intro k hk
      have D2 := D0.ne (k := 206) (e := .inl (0, (1430, .inl (fun x => if x < k then nI 0 else g0 x)))) (by decide)
      obtain ⟨⟨_, _, _, _, _, _, z196⟩, f, q, y2, y3, y4⟩ := id D2
      have z206 : hs h 206 (.inl (0, (1430, .inl (fun x => if x < k then nI 0 else g0 x)))) 206 = .inl (0, (1430, .inl (fun x => if x < k then nI 0 else g0 x))) := hs_eq _ _ _
      refine AW.iload 42 dX8_signed_40 rfl (by rfl) ?_
      refine AW.aload_n 43 dX8_signed_42 rfl (by rfl) ?_
      refine AW.getfield 46 dX8_signed_43 rfl fl_X8_87 (by assumption) (by rfl) ?_
      refine AW.nge 63 49 dX8_signed_46 (by decide) rfl (by omega) (by omega) (fun c2 => ?_) (fun c2 => ?_)
      · omega
      · refine AW.aload_n 50 dX8_signed_49 rfl (by rfl) ?_
        refine AW.getfield 53 dX8_signed_50 rfl fl_X8_37 (by assumption) (by rfl) ?_
        refine AW.iload 55 dX8_signed_53 rfl (by rfl) ?_
        refine AW.iconst 56 dX8_signed_55 rfl (nI 0) rfl ?_
        refine AW.iastore 57 _ dX8_signed_56 rfl (by assumption) (ix_nI (by omega)) (by omega) ?_
        refine AW.iinc1 60 dX8_signed_57 rfl (by rfl) rfl ?_
        refine AW.goto 40 dX8_signed_60 (by decide) ?_
        rw [hs_hs, show upd (fun x => if x < k then nI 0 else g0 x) k (nI 0) = (fun x => if x < k + 1 then nI 0 else g0 x) from funext fun x => by
          show (if x = k then nI 0 else if x < k then nI 0 else g0 x) = if x < k + 1 then nI 0 else g0 x
          by_cases e : x = k
          · rw [if_pos e, if_pos (by omega)]
          · rw [if_neg e]
            by_cases e2 : x < k
            · rw [if_pos e2, if_pos (by omega)]
            · rw [if_neg e2, if_neg (by omega)]]
        exact ih (k + 1) (by omega)
  have := S (catN X.1.1) 0 (by omega)
  rw [show (fun x => if x < 0 then nI 0 else g0 x) = g0 from funext fun x => by simp, hs_self x206] at this
  exact this
theorem r_signed {a b : Int32} (K0 : RfAt h X) (hP : ∀ h', RfAt h' (intM sgM X a b).2 → FrR h h' → P (some (.int (intM sgM X a b).1)) N h') : AM X8_signed [.ref 196, .int a, .int b] N h P := by
  obtain ⟨_, _, _, _, _, _, x196, -⟩ := id K0.1
  have w := K0.2.2.2.2.2.2.2.2
  refine AM.of0 rfl (Nat.le_of_ble_eq_true rfl) rfl [some (.ref 196), some (.int a), some (.int b), none, none, none, none, none] rfl ?_
  refine AW.aload_n 1 dX8_signed_0 rfl (by rfl) ?_
  refine AW.iload_n 2 dX8_signed_1 rfl (by rfl) ?_
  refine AW.iload_n 3 dX8_signed_2 rfl (by rfl) ?_
  refine AW.cV2 6 dX8_signed_3 rfl mi_X8_refusedOf mv_X8_refusedOf lk_X8_194 ⟨(Nat.le_of_ble_eq_true rfl), (Nat.le_of_ble_eq_true rfl)⟩ rfl (by assumption) rfl (Nat.le_of_ble_eq_true rfl) (r_refusedOf K0 ?_ ?_ ?_)
  · intro e h' K' F
    rw [intM_bad e] at hP
    refine AW.istore_n 7 dX8_signed_6 rfl (Nat.le_of_ble_eq_true rfl) rfl ?_
    refine AW.iload_n 8 dX8_signed_7 rfl (by rfl) ?_
    refine AW.if_ge 13 11 dX8_signed_8 (by decide) rfl (fun c => ?_) (fun c => ?_)
    · exact absurd c (by decide)
    · refine AW.iload_n 12 dX8_signed_11 rfl (by rfl) ?_
      refine AW.iret dX8_signed_12 rfl ?_
      exact hP h' K' F
  · intro a' b' ha' hb' ea eb e h' K' F
    subst ea eb
    rw [intM_no ha' hb' e] at hP
    refine AW.istore_n 7 dX8_signed_6 rfl (Nat.le_of_ble_eq_true rfl) rfl ?_
    refine AW.iload_n 8 dX8_signed_7 rfl (by rfl) ?_
    refine AW.if_ge 13 11 dX8_signed_8 (by decide) rfl (fun c => ?_) (fun c => ?_)
    · exact absurd c (by decide)
    · refine AW.iload_n 12 dX8_signed_11 rfl (by rfl) ?_
      refine AW.iret dX8_signed_12 rfl ?_
      exact hP h' K' F
  · intro a' b' ha' hb' ea eb e
    subst ea eb
    rw [intM_ok ha' hb' e] at hP
    refine AW.istore_n 7 dX8_signed_6 rfl (Nat.le_of_ble_eq_true rfl) rfl ?_
    refine AW.iload_n 8 dX8_signed_7 rfl (by rfl) ?_
    refine AW.if_ge 13 11 dX8_signed_8 (by decide) rfl (fun c => ?_) (fun c => ?_)
    · refine AW.aload_n 14 dX8_signed_13 rfl (by rfl) ?_
      refine AW.cV0 17 dX8_signed_14 rfl mi_X8_lay mv_X8_lay lk_X8_97 ⟨(Nat.le_of_ble_eq_true rfl), (Nat.le_of_ble_eq_true rfl)⟩ rfl (by assumption) rfl (Nat.le_of_ble_eq_true rfl) (r_lay K0 ?_)
      intro H K D F1
      obtain ⟨⟨_, _, _, _, _, _, y196⟩, f, q, y2, y3, y4⟩ := id D
      have y197 : H 197 = .inl (0, (15, .inl (nowF X.1))) := K.2.1
      refine AW.aload_n 18 dX8_signed_17 rfl (by rfl) ?_
      refine AW.getfield 21 dX8_signed_18 rfl fl_X8_7 (by assumption) (by rfl) ?_
      refine AW.iconst 22 dX8_signed_21 rfl (nI 1) rfl ?_
      refine AW.iload_n 23 dX8_signed_22 rfl (by rfl) ?_
      first | refine AW.iaddN 24 dX8_signed_23 rfl ?_ | refine AW.iadd 24 dX8_signed_23 rfl ?_
      refine AW.iaload 25 _ dX8_signed_24 rfl (by assumption) (by first | exact Or.inl rfl | exact Or.inr rfl) (ix_nI (by omega)) (by omega) ?_
      rw [nowF_c ha']
      refine AW.istore 27 dX8_signed_25 rfl (Nat.le_of_ble_eq_true rfl) rfl ?_
      refine AW.aload_n 28 dX8_signed_27 rfl (by rfl) ?_
      refine AW.getfield 31 dX8_signed_28 rfl fl_X8_7 (by assumption) (by rfl) ?_
      refine AW.iconst 32 dX8_signed_31 rfl (nI 1) rfl ?_
      refine AW.iload_n 33 dX8_signed_32 rfl (by rfl) ?_
      first | refine AW.iaddN 34 dX8_signed_33 rfl ?_ | refine AW.iadd 34 dX8_signed_33 rfl ?_
      refine AW.iaload 35 _ dX8_signed_34 rfl (by assumption) (by first | exact Or.inl rfl | exact Or.inr rfl) (ix_nI (by omega)) (by omega) ?_
      rw [nowF_c hb']
      refine AW.istore 37 dX8_signed_35 rfl (Nat.le_of_ble_eq_true rfl) rfl ?_
      refine r_signedIn K D (w.2.2 a' ha') (w.2.2 b' hb') ?_
      intro h' K' F
      exact hP h' K' (F1.trans F).c
    · exact absurd (show (0 : Int32) ≤ nI 0 by decide) c
theorem r_marked {v : Int32} (K : RfAt h X) (hP : ∀ h', RfAt h' (markedM X v).2 → FrR h h' → P (some (.int (markedM X v).1)) N h') : AM X8_marked [.ref 196, .int v] N h P := by
  obtain ⟨_, _, _, _, _, _, x196, -⟩ := id K.1
  have x197 : h 197 = .inl (0, (15, .inl (nowF X.1))) := K.2.1
  have n0 : nowF X.1 0 = nI X.1.1 := rfl
  have w := K.2.2.2.2.2.2.2.2
  have w1 := w.1
  have w2 := w.2.1
  have c5 := catN_pos X.1.1 w2
  have c6 := catN_le X.1.1 w2
  rw [markedM] at hP
  have pt : ∀ x, x ≤ 8 → 10 ^ x ≤ 100000000 := fun x hx => Nat.pow_le_pow_right (by decide) hx
  refine AM.of0 rfl (Nat.le_of_ble_eq_true rfl) rfl [some (.ref 196), some (.int v), none, none, none, none] rfl ?_
  have F : (decide (0 ≤ v.toInt) && mdB X.1.1 (cl v)) = false → ∀ v2 v3 v4 v5, AW X8_marked 76 [some (.ref 196), some (.int v), v2, v3, v4, v5] [] N (0, 0) h P := by
    intro e v2 v3 v4 v5
    rw [e] at hP
    refine AW.aload_n 77 dX8_marked_76 rfl (by rfl) ?_
    refine AW.bipush 79 dX8_marked_77 rfl (-2) rfl ?_
    refine AW.cV1 82 dX8_marked_79 rfl mi_X8_refuses mv_X8_refuses lk_X8_131 ⟨(Nat.le_of_ble_eq_true rfl), (Nat.le_of_ble_eq_true rfl)⟩ rfl (by assumption) rfl (Nat.le_of_ble_eq_true rfl) (r_bad K ?_)
    intro h' K' F
    refine AW.iret dX8_marked_82 rfl ?_
    exact hP h' K' F
  refine AW.iconst 1 dX8_marked_0 rfl (nI 1) rfl ?_
  refine AW.istore_n 2 dX8_marked_1 rfl (Nat.le_of_ble_eq_true rfl) rfl ?_
  refine AW.iload_n 3 dX8_marked_2 rfl (by rfl) ?_
  refine AW.if_lt 10 6 dX8_marked_3 (by decide) rfl (fun c0 => ?_) (fun c0 => ?_)
  · have c0' : ¬ (0 : Int) ≤ v.toInt := fun q => absurd (show (0 : Int32) ≤ v from Int32.le_iff_toInt_le.mpr q) (Int32.not_le.mpr c0)
    refine AW.iconst 11 dX8_marked_10 rfl (nI 0) rfl ?_
    refine AW.istore_n 12 dX8_marked_11 rfl (Nat.le_of_ble_eq_true rfl) rfl ?_
    refine AW.iload_n 13 dX8_marked_12 rfl (by rfl) ?_
    refine AW.istore 15 dX8_marked_13 rfl (Nat.le_of_ble_eq_true rfl) rfl ?_
    refine AW.iconst 16 dX8_marked_15 rfl (nI 1) rfl ?_
    refine AW.istore 18 dX8_marked_16 rfl (Nat.le_of_ble_eq_true rfl) rfl ?_
    have L : ∀ i x left, x + i = X.1.1 → 1 ≤ x → AW X8_marked 18 [some (.ref 196), some (.int v), some (.int (nI (10 ^ (x - 1)))), some (.int (nI 0)), some (.int left), some (.int (nI x))] [] N (0, 0) h P := by
      intro i
      induction i with
      | zero =>
        intro x left hx hx1
        refine AW.iload 20 dX8_marked_18 rfl (by rfl) ?_
        refine AW.aload_n 21 dX8_marked_20 rfl (by rfl) ?_
        refine AW.getfield 24 dX8_marked_21 rfl fl_X8_7 (by assumption) (by rfl) ?_
        refine AW.iconst 25 dX8_marked_24 rfl (nI 0) rfl ?_
        refine AW.iaload 26 _ dX8_marked_25 rfl (by assumption) (by first | exact Or.inl rfl | exact Or.inr rfl) (ix_nI (by omega)) (by omega) ?_
        rw [n0]
        refine AW.nge 67 29 dX8_marked_26 (by decide) rfl (by omega) (by omega) (fun c => ?_) (fun c => ?_)
        · refine AW.iload_n 68 dX8_marked_67 rfl (by rfl) ?_
          refine AW.if_eq 76 71 dX8_marked_68 (by decide) rfl (fun c2 => ?_) (fun c2 => ?_)
          · exact F (by rw [decide_eq_false c0']; rfl) _ _ _ _
          · exact absurd rfl c2
        · omega
      | succ i ih =>
        intro x left hx hx1
        refine AW.iload 20 dX8_marked_18 rfl (by rfl) ?_
        refine AW.aload_n 21 dX8_marked_20 rfl (by rfl) ?_
        refine AW.getfield 24 dX8_marked_21 rfl fl_X8_7 (by assumption) (by rfl) ?_
        refine AW.iconst 25 dX8_marked_24 rfl (nI 0) rfl ?_
        refine AW.iaload 26 _ dX8_marked_25 rfl (by assumption) (by first | exact Or.inl rfl | exact Or.inr rfl) (ix_nI (by omega)) (by omega) ?_
        rw [n0]
        refine AW.nge 67 29 dX8_marked_26 (by decide) rfl (by omega) (by omega) (fun c => ?_) (fun c => ?_)
        · omega
        · refine AW.iload_n 30 dX8_marked_29 rfl (by rfl) ?_
          refine AW.bipush 32 dX8_marked_30 rfl (nI 10) rfl ?_
          first | refine AW.imulN 33 dX8_marked_32 rfl ?_ | refine AW.imul 33 dX8_marked_32 rfl ?_
          refine AW.istore_n 34 dX8_marked_33 rfl (Nat.le_of_ble_eq_true rfl) rfl ?_
          refine AW.iload_n 35 dX8_marked_34 rfl (by rfl) ?_
          refine AW.if_eq 52 38 dX8_marked_35 (by decide) rfl (fun c2 => ?_) (fun c2 => ?_)
          · refine AW.iconst 53 dX8_marked_52 rfl (nI 0) rfl ?_
            refine AW.istore_n 54 dX8_marked_53 rfl (Nat.le_of_ble_eq_true rfl) rfl ?_
            refine AW.iload 56 dX8_marked_54 rfl (by rfl) ?_
            refine AW.bipush 58 dX8_marked_56 rfl (nI 10) rfl ?_
            refine AW.idiv 59 dX8_marked_58 rfl (by decide) ?_
            refine AW.istore 61 dX8_marked_59 rfl (Nat.le_of_ble_eq_true rfl) rfl ?_
            refine AW.iinc1 64 dX8_marked_61 rfl (by rfl) rfl ?_
            refine AW.goto 18 dX8_marked_64 (by decide) ?_
            have := ih (x + 1) (left / nI 10) (by omega) (by omega)
            rw [show x + 1 - 1 = (x - 1) + 1 by omega, Nat.pow_succ] at this
            exact this
          · exact absurd rfl c2
    exact L (X.1.1 - 1) 1 v (by omega) (Nat.le_refl _)
  · have c0' : (0 : Int) ≤ v.toInt := Int32.le_iff_toInt_le.mp (Int32.not_lt.mp c0)
    obtain ⟨j, hj, rfl⟩ : ∃ j, j < 2147483648 ∧ v = nI j := by
      have := v.toInt_lt
      refine ⟨v.toInt.toNat, by omega, ?_⟩
      apply Int32.toInt_inj.mp
      rw [nI_toInt (by omega)]
      omega
    rw [decide_eq_true c0', cl_nI hj, Bool.true_and] at hP
    rw [decide_eq_true c0', cl_nI hj, Bool.true_and] at F
    refine AW.iconst 7 dX8_marked_6 rfl (nI 1) rfl ?_
    refine AW.goto 11 dX8_marked_7 (by decide) ?_
    refine AW.istore_n 12 dX8_marked_11 rfl (Nat.le_of_ble_eq_true rfl) rfl ?_
    refine AW.iload_n 13 dX8_marked_12 rfl (by rfl) ?_
    refine AW.istore 15 dX8_marked_13 rfl (Nat.le_of_ble_eq_true rfl) rfl ?_
    refine AW.iconst 16 dX8_marked_15 rfl (nI 1) rfl ?_
    refine AW.istore 18 dX8_marked_16 rfl (Nat.le_of_ble_eq_true rfl) rfl ?_
    have L : ∀ i x, x + i = X.1.1 → 1 ≤ x → ∀ t, t = alln (fun k => decide (j / 10 ^ k % 10 < 8)) (x - 1) → AW X8_marked 18 [some (.ref 196), some (.int (nI j)), some (.int (nI (10 ^ (x - 1)))), some (.int (nI (b01 t))), some (.int (nI (j / 10 ^ (x - 1)))), some (.int (nI x))] [] N (0, 0) h P := by
      intro i
      induction i with
      | zero =>
        intro x hx hx1 t ht
        have p8 := pt (x - 1) (by omega)
        obtain rfl : x = X.1.1 := by omega
        refine AW.iload 20 dX8_marked_18 rfl (by rfl) ?_
        refine AW.aload_n 21 dX8_marked_20 rfl (by rfl) ?_
        refine AW.getfield 24 dX8_marked_21 rfl fl_X8_7 (by assumption) (by rfl) ?_
        refine AW.iconst 25 dX8_marked_24 rfl (nI 0) rfl ?_
        refine AW.iaload 26 _ dX8_marked_25 rfl (by assumption) (by first | exact Or.inl rfl | exact Or.inr rfl) (ix_nI (by omega)) (by omega) ?_
        rw [n0]
        refine AW.nge 67 29 dX8_marked_26 (by decide) rfl (by omega) (by omega) (fun c => ?_) (fun c => ?_)
        · refine AW.iload_n 68 dX8_marked_67 rfl (by rfl) ?_
          refine AW.zeq 76 71 dX8_marked_68 (by decide) rfl (fun c2 => ?_) (fun c2 => ?_)
          · exact F (by rw [mdB, ← ht, c2]; rfl) _ _ _ _
          · refine AW.iload_n 72 dX8_marked_71 rfl (by rfl) ?_
            refine AW.iload_n 73 dX8_marked_72 rfl (by rfl) ?_
            refine AW.nlt 83 76 dX8_marked_73 (by decide) rfl (by omega) (by omega) (fun c3 => ?_) (fun c3 => ?_)
            · have e : mdB X.1.1 j = true := by rw [mdB, ← ht, c2, decide_eq_true c3]; rfl
              rw [e] at hP
              refine AW.aload_n 84 dX8_marked_83 rfl (by rfl) ?_
              refine AW.cV0 87 dX8_marked_84 rfl mi_X8_lay mv_X8_lay lk_X8_97 ⟨(Nat.le_of_ble_eq_true rfl), (Nat.le_of_ble_eq_true rfl)⟩ rfl (by assumption) rfl (Nat.le_of_ble_eq_true rfl) (r_lay K ?_)
              intro H K2 D F1
              obtain ⟨⟨_, _, _, _, _, _, y196⟩, f, q, y2, y3, y4⟩ := id D
              refine AW.aload_n 88 dX8_marked_87 rfl (by rfl) ?_
              refine AW.aload_n 89 dX8_marked_88 rfl (by rfl) ?_
              refine AW.getfield 92 dX8_marked_89 rfl fl_X8_28 (by assumption) (by rfl) ?_
              refine AW.aload_n 93 dX8_marked_92 rfl (by rfl) ?_
              refine AW.getfield 96 dX8_marked_93 rfl fl_X8_87 (by assumption) (by rfl) ?_
              refine AW.iconst 97 dX8_marked_96 rfl (nI 1) rfl ?_
              first | refine AW.isubN 98 dX8_marked_97 rfl (by omega) ?_ | refine AW.isub 98 dX8_marked_97 rfl ?_
              refine AW.iaload 99 _ dX8_marked_98 rfl (by assumption) (by first | exact Or.inl rfl | exact Or.inr rfl) (ix_nI (by omega)) (by omega) ?_
              rw [(y4 (catN X.1.1 - 1) (by omega)).1]
              refine AW.aload_n 100 dX8_marked_99 rfl (by rfl) ?_
              refine AW.getfield 103 dX8_marked_100 rfl fl_X8_28 (by assumption) (by rfl) ?_
              refine AW.iconst 104 dX8_marked_103 rfl (nI 0) rfl ?_
              refine AW.iaload 105 _ dX8_marked_104 rfl (by assumption) (by first | exact Or.inl rfl | exact Or.inr rfl) (ix_nI (by omega)) (by omega) ?_
              rw [(y4 0 (by omega)).1]
              refine AW.iload_n 106 dX8_marked_105 rfl (by rfl) ?_
              refine AW.cV3 109 dX8_marked_106 rfl mi_X8_chainsBy mv_X8_chainsBy lk_X8_197 ⟨(Nat.le_of_ble_eq_true rfl), (Nat.le_of_ble_eq_true rfl)⟩ rfl (by assumption) rfl (Nat.le_of_ble_eq_true rfl) (r_chainsBy (mo := some j) K2 (WfC_tb w1 w2 (by omega)) (WfC_tb w1 w2 (by omega)) (fun v q => by injection q with q; omega) ?_)
              intro h' K' F2
              refine AW.iret dX8_marked_109 rfl ?_
              exact hP h' K' (F1.trans F2).c
            · exact F (by rw [mdB, decide_eq_false (by omega), Bool.and_false]) _ _ _ _
        · omega
      | succ i ih =>
        intro x hx hx1 t ht
        have p8 := pt (x - 1) (by omega)
        have dv := Nat.div_le_self j (10 ^ (x - 1))
        have nx : ∀ t2, t2 = alln (fun k => decide (j / 10 ^ k % 10 < 8)) x → AW X8_marked 53 [some (.ref 196), some (.int (nI j)), some (.int (nI (10 ^ (x - 1) * 10))), some (.int (nI (b01 t))), some (.int (nI (j / 10 ^ (x - 1)))), some (.int (nI x))] [.int (nI (b01 t2))] N (0, 0) h P := by
          intro t2 ht2
          refine AW.istore_n 54 dX8_marked_53 rfl (Nat.le_of_ble_eq_true rfl) rfl ?_
          refine AW.iload 56 dX8_marked_54 rfl (by rfl) ?_
          refine AW.bipush 58 dX8_marked_56 rfl (nI 10) rfl ?_
          refine AW.idivN 59 dX8_marked_58 rfl (by omega) (by omega) (by omega) ?_
          refine AW.istore 61 dX8_marked_59 rfl (Nat.le_of_ble_eq_true rfl) rfl ?_
          refine AW.iinc1 64 dX8_marked_61 rfl (by rfl) rfl ?_
          refine AW.goto 18 dX8_marked_64 (by decide) ?_
          have := ih (x + 1) (by omega) (by omega) t2 (by rw [ht2]; rfl)
          rw [show x + 1 - 1 = (x - 1) + 1 by omega, Nat.pow_succ, ← Nat.div_div_eq_div_mul] at this
          exact this
        have ea : alln (fun k => decide (j / 10 ^ k % 10 < 8)) x = (t && decide (j / 10 ^ (x - 1) % 10 < 8)) := by
          rw [ht]
          have : x = (x - 1) + 1 := by omega
          conv => lhs; rw [this]
          rfl
        refine AW.iload 20 dX8_marked_18 rfl (by rfl) ?_
        refine AW.aload_n 21 dX8_marked_20 rfl (by rfl) ?_
        refine AW.getfield 24 dX8_marked_21 rfl fl_X8_7 (by assumption) (by rfl) ?_
        refine AW.iconst 25 dX8_marked_24 rfl (nI 0) rfl ?_
        refine AW.iaload 26 _ dX8_marked_25 rfl (by assumption) (by first | exact Or.inl rfl | exact Or.inr rfl) (ix_nI (by omega)) (by omega) ?_
        rw [n0]
        refine AW.nge 67 29 dX8_marked_26 (by decide) rfl (by omega) (by omega) (fun c => ?_) (fun c => ?_)
        · omega
        · refine AW.iload_n 30 dX8_marked_29 rfl (by rfl) ?_
          refine AW.bipush 32 dX8_marked_30 rfl (nI 10) rfl ?_
          first | refine AW.imulN 33 dX8_marked_32 rfl ?_ | refine AW.imul 33 dX8_marked_32 rfl ?_
          refine AW.istore_n 34 dX8_marked_33 rfl (Nat.le_of_ble_eq_true rfl) rfl ?_
          refine AW.iload_n 35 dX8_marked_34 rfl (by rfl) ?_
          refine AW.zeq 52 38 dX8_marked_35 (by decide) rfl (fun c2 => ?_) (fun c2 => ?_)
          · refine AW.iconst 53 dX8_marked_52 rfl (nI 0) rfl ?_
            exact nx false (by rw [ea, c2]; rfl)
          · refine AW.iload 40 dX8_marked_38 rfl (by rfl) ?_
            refine AW.bipush 42 dX8_marked_40 rfl (nI 10) rfl ?_
            refine AW.iremN 43 dX8_marked_42 rfl (by omega) (by omega) (by omega) ?_
            refine AW.bipush 45 dX8_marked_43 rfl (nI 8) rfl ?_
            have := Nat.mod_lt (j / 10 ^ (x - 1)) (show 0 < 10 by decide)
            refine AW.nge 52 48 dX8_marked_45 (by decide) rfl (by omega) (by omega) (fun c3 => ?_) (fun c3 => ?_)
            · refine AW.iconst 53 dX8_marked_52 rfl (nI 0) rfl ?_
              exact nx false (by rw [ea, decide_eq_false (by omega), Bool.and_false])
            · refine AW.iconst 49 dX8_marked_48 rfl (nI 1) rfl ?_
              refine AW.goto 53 dX8_marked_49 (by decide) ?_
              exact nx true (by rw [ea, c2, decide_eq_true c3]; rfl)
    have := L (X.1.1 - 1) 1 (by omega) (Nat.le_refl _) true rfl
    rw [show (1 - 1 : Nat) = 0 from rfl, Nat.pow_zero, Nat.div_one] at this
    exact this
end REFJ
