/-! THE MODEL, eighteenth part: chainsBy, chains, marked -/
def moI (mo : Option Nat) : Int32 := match mo with | none => -1 | some v => nI v
section REFH
variable {N n : Nat} {h : aH} {P : aP} {X : aX}
theorem RfAt.n205 {f : Nat → Int32} (K : RfAt h X) : RfAt (hs h 205 (.inl (0, (1430, .inl f)))) X := by
  obtain ⟨la, ma, at_, fa, od, d, k1, l⟩ := K.1
  obtain ⟨s1, s2, s3, s4, s5, s6, s7, s8⟩ := K.2.2.2.2.2.2.2.1
  obtain ⟨g, g1, g2⟩ := K.2.2.2.2.2.2.1
  exact K.same (fun z hz => hs_ne (by omega)) ⟨la, ma, at_, fa, od, d, by rw [hs_ne (by decide), k1], l.same (hs_ne (by decide)) (hs_ne (by decide))⟩ ⟨g, by rw [hs_ne (by decide), g1], g2⟩ ⟨s1.ne (by decide), ⟨f, hs_eq _ _ _⟩, s3.ne (by decide), s4.ne (by decide), s5.ne (by decide), s6.ne (by decide), s7.ne (by decide), s8.ne (by decide)⟩
theorem RfAt.n206 {f : Nat → Int32} (K : RfAt h X) : RfAt (hs h 206 (.inl (0, (1430, .inl f)))) X := by
  obtain ⟨la, ma, at_, fa, od, d, k1, l⟩ := K.1
  obtain ⟨s1, s2, s3, s4, s5, s6, s7, s8⟩ := K.2.2.2.2.2.2.2.1
  obtain ⟨g, g1, g2⟩ := K.2.2.2.2.2.2.1
  exact K.same (fun z hz => hs_ne (by omega)) ⟨la, ma, at_, fa, od, d, by rw [hs_ne (by decide), k1], l.same (hs_ne (by decide)) (hs_ne (by decide))⟩ ⟨g, by rw [hs_ne (by decide), g1], g2⟩ ⟨s1.ne (by decide), s2.ne (by decide), ⟨f, hs_eq _ _ _⟩, s4.ne (by decide), s5.ne (by decide), s6.ne (by decide), s7.ne (by decide), s8.ne (by decide)⟩
theorem LdAt.ne {k : Nat} {e : aE} (D : LdAt h n) (hk : 205 ≤ k) : LdAt (hs h k e) n := by
  obtain ⟨⟨ps, ty, at_, fa, od, d, x⟩, f, r, y1, y2, y3⟩ := D
  exact ⟨⟨ps, ty, at_, fa, od, d, by rw [hs_ne (by omega), x]⟩, f, r, by rw [hs_ne (by omega), y1], by rw [hs_ne (by omega), y2], y3⟩
theorem dgM_lt {mo : Option Nat} {e : Nat} : ∀ d, dgM mo e = some d → d < 10 := by
  intro d q
  rcases mo with _ | v
  · exact absurd q (by simp [dgM])
  · have q : some (v / 10 ^ e % 10) = some d := q
    injection q with q
    rw [← q]
    exact Nat.mod_lt _ (by decide)
theorem r_chainsBy {a b : Nat} {mo : Option Nat} (K0 : RfAt h X) (wa : WfC X.1.1 a) (wb : WfC X.1.1 b) (hmo : ∀ v, mo = some v → v < 2147483648) (hP : ∀ h', RfAt h' X → FrM h h' → P (some (.int (chM X.1.1 a b mo))) N h') : AM X8_chainsBy [.ref 196, .int (nI a), .int (nI b), .int (moI mo)] N h P := by
  obtain ⟨_, _, _, _, _, _, x196, -⟩ := id K0.1
  have w := K0.2.2.2.2.2.2.2.2
  have w2 := w.2.1
  have ra := rkM_le X.1.1 a
  have rb := rkM_le X.1.1 b
  have a1 := wa.1
  have b1 := wb.1
  refine AM.of0 rfl (Nat.le_of_ble_eq_true rfl) rfl [some (.ref 196), some (.int (nI a)), some (.int (nI b)), some (.int (moI mo)), none, none, none, none, none] rfl ?_
  refine AW.aload_n 1 dX8_chainsBy_0 rfl (by rfl) ?_
  refine AW.cV0 4 dX8_chainsBy_1 rfl mi_X8_lay mv_X8_lay lk_X8_97 ⟨(Nat.le_of_ble_eq_true rfl), (Nat.le_of_ble_eq_true rfl)⟩ rfl (by assumption) rfl (Nat.le_of_ble_eq_true rfl) (r_layL K0 ?_)
  intro H K D F1
  obtain ⟨g0, x205⟩ := K.2.2.2.2.2.2.2.1.2.1
  obtain ⟨⟨_, _, _, _, _, _, y196⟩, f, q, y2, y3, y4⟩ := id D
  have c6 := catN_le X.1.1 w.2.1
  have G := K.now
  refine AW.aload_n 5 dX8_chainsBy_4 rfl (by rfl) ?_
  refine AW.iload_n 6 dX8_chainsBy_5 rfl (by rfl) ?_
  refine AW.cV1 9 dX8_chainsBy_6 rfl mi_X8_rankOf mv_X8_rankOf lk_X8_93 ⟨(Nat.le_of_ble_eq_true rfl), (Nat.le_of_ble_eq_true rfl)⟩ rfl (by assumption) rfl (Nat.le_of_ble_eq_true rfl) (c_rankOf G wa.1 ?_)
  refine AW.istore 11 dX8_chainsBy_9 rfl (Nat.le_of_ble_eq_true rfl) rfl ?_
  refine AW.aload_n 12 dX8_chainsBy_11 rfl (by rfl) ?_
  refine AW.iload_n 13 dX8_chainsBy_12 rfl (by rfl) ?_
  refine AW.cV1 16 dX8_chainsBy_13 rfl mi_X8_rankOf mv_X8_rankOf lk_X8_93 ⟨(Nat.le_of_ble_eq_true rfl), (Nat.le_of_ble_eq_true rfl)⟩ rfl (by assumption) rfl (Nat.le_of_ble_eq_true rfl) (c_rankOf G wb.1 ?_)
  refine AW.istore 18 dX8_chainsBy_16 rfl (Nat.le_of_ble_eq_true rfl) rfl ?_
  refine AW.iconst 19 dX8_chainsBy_18 rfl (nI 0) rfl ?_
  refine AW.istore 21 dX8_chainsBy_19 rfl (Nat.le_of_ble_eq_true rfl) rfl ?_
  -- the last part: the answer
  have fin : ∀ W v7 v8 v6 H, RfAt H X → FrM h H → H 205 = .inl (0, (1430, .inl W)) → W (numM X.1.1 b) = chM X.1.1 a b mo → AW X8_chainsBy 199 [some (.ref 196), some (.int (nI a)), some (.int (nI b)), some (.int (moI mo)), some (.int (nI (rkM X.1.1 a))), some (.int (nI (rkM X.1.1 b))), v6, v7, v8] [] N (0, 0) H P := by
    intro W v7 v8 v6 H K F z205 e
    obtain ⟨_, _, _, _, _, _, z196, -⟩ := id K.1
    have nb := numM_lt X.1.1 b w2
    refine AW.aload_n 200 dX8_chainsBy_199 rfl (by rfl) ?_
    refine AW.getfield 203 dX8_chainsBy_200 rfl fl_X8_34 (by assumption) (by rfl) ?_
    refine AW.aload_n 204 dX8_chainsBy_203 rfl (by rfl) ?_
    refine AW.iload_n 205 dX8_chainsBy_204 rfl (by rfl) ?_
    refine AW.cV1 208 dX8_chainsBy_205 rfl mi_X8_numberOf mv_X8_numberOf lk_X8_125 ⟨(Nat.le_of_ble_eq_true rfl), (Nat.le_of_ble_eq_true rfl)⟩ rfl (by assumption) rfl (Nat.le_of_ble_eq_true rfl) (r_numberOfL K wb.1 ?_)
    intro h' K' D' F'
    have z205' : h' 205 = .inl (0, (1430, .inl W)) := by rw [F'.1 _ (by decide) (by decide) (by decide) (by decide), z205]
    refine AW.iaload 209 _ dX8_chainsBy_208 rfl (by assumption) (by first | exact Or.inl rfl | exact Or.inr rfl) (ix_nI (by omega)) (by omega) ?_
    rw [e]
    refine AW.iret dX8_chainsBy_209 rfl ?_
    exact hP h' K' (F.trans F'.m)
  -- rank by rank
  have R : ∀ j r W v8 H, RfAt H X → LdAt H X.1.1 → FrM h H → H 205 = .inl (0, (1430, .inl W)) → rkM X.1.1 b - r = j → r ≤ 8 → (wyR X.1.1 b (rkM X.1.1 b) mo j r W) (numM X.1.1 b) = chM X.1.1 a b mo → AW X8_chainsBy 92 [some (.ref 196), some (.int (nI a)), some (.int (nI b)), some (.int (moI mo)), some (.int (nI (rkM X.1.1 a))), some (.int (nI (rkM X.1.1 b))), some (.int (nI (10 ^ (rkM X.1.1 b - 1 - r)))), some (.int (nI r)), v8] [] N (0, 0) H P := by
    intro j
    induction j with
    | zero =>
      intro r W v8 H K D F z205 hj hr8 e
      refine AW.iload 94 dX8_chainsBy_92 rfl (by rfl) ?_
      refine AW.iload 96 dX8_chainsBy_94 rfl (by rfl) ?_
      refine AW.nge 199 99 dX8_chainsBy_96 (by decide) rfl (by omega) (by omega) (fun c1 => ?_) (fun c1 => ?_)
      · exact fin W _ _ _ H K F z205 e
      · omega
    | succ j ih =>
      intro r W v8 H K D F z205 hj hr8 e
      have tp : 10 ^ (rkM X.1.1 b - 1 - r) < 2147483648 := Nat.lt_of_le_of_lt (Nat.pow_le_pow_right (by decide) (show rkM X.1.1 b - 1 - r ≤ 8 by omega)) (by decide)
      have tp0 : 0 < 10 ^ (rkM X.1.1 b - 1 - r) := Nat.pow_pos (by decide)
      refine AW.iload 94 dX8_chainsBy_92 rfl (by rfl) ?_
      refine AW.iload 96 dX8_chainsBy_94 rfl (by rfl) ?_
      refine AW.nge 199 99 dX8_chainsBy_96 (by decide) rfl (by omega) (by omega) (fun c1 => ?_) (fun c1 => ?_)
      · omega
      · refine AW.iconst 100 dX8_chainsBy_99 rfl (nI 0) rfl ?_
        refine AW.istore 102 dX8_chainsBy_100 rfl (Nat.le_of_ble_eq_true rfl) rfl ?_
        have C : ∀ i k H, k + i = catN X.1.1 → RfAt H X → LdAt H X.1.1 → FrM h H → H 205 = .inl (0, (1430, .inl (wyK X.1.1 b r (dgM mo (rkM X.1.1 b - 1 - r)) k W))) → AW X8_chainsBy 102 [some (.ref 196), some (.int (nI a)), some (.int (nI b)), some (.int (moI mo)), some (.int (nI (rkM X.1.1 a))), some (.int (nI (rkM X.1.1 b))), some (.int (nI (10 ^ (rkM X.1.1 b - 1 - r)))), some (.int (nI r)), some (.int (nI k))] [] N (0, 0) H P := by
          intro i
          induction i with
          | zero =>
            intro k H hk K D F z205
            obtain ⟨⟨_, _, _, _, _, _, z196⟩, f, q, y2, y3, y4⟩ := id D
            refine AW.iload 104 dX8_chainsBy_102 rfl (by rfl) ?_
            refine AW.aload_n 105 dX8_chainsBy_104 rfl (by rfl) ?_
            refine AW.getfield 108 dX8_chainsBy_105 rfl fl_X8_87 (by assumption) (by rfl) ?_
            refine AW.nge 176 111 dX8_chainsBy_108 (by decide) rfl (by omega) (by omega) (fun c2 => ?_) (fun c2 => ?_)
            · obtain rfl : k = catN X.1.1 := by omega
              have J : ∀ v, v = 10 ^ (rkM X.1.1 b - 1 - (r + 1)) → AW X8_chainsBy 191 [some (.ref 196), some (.int (nI a)), some (.int (nI b)), some (.int (moI mo)), some (.int (nI (rkM X.1.1 a))), some (.int (nI (rkM X.1.1 b))), some (.int (nI (10 ^ (rkM X.1.1 b - 1 - r)))), some (.int (nI r)), some (.int (nI (catN X.1.1)))] [.int (nI v)] N (0, 0) H P := by
                intro v hv
                subst hv
                refine AW.istore 193 dX8_chainsBy_191 rfl (Nat.le_of_ble_eq_true rfl) rfl ?_
                refine AW.iinc1 196 dX8_chainsBy_193 rfl (by rfl) rfl ?_
                refine AW.goto 92 dX8_chainsBy_196 (by decide) ?_
                exact ih (r + 1) _ _ H K D F z205 (by omega) (by omega) e
              refine AW.iload 178 dX8_chainsBy_176 rfl (by rfl) ?_
              refine AW.iconst 179 dX8_chainsBy_178 rfl (nI 1) rfl ?_
              refine AW.nle 190 182 dX8_chainsBy_179 (by decide) rfl (by omega) (by omega) (fun c3 => ?_) (fun c3 => ?_)
              · refine AW.iconst 191 dX8_chainsBy_190 rfl (nI 1) rfl ?_
                refine J 1 ?_
                have z : rkM X.1.1 b - 1 - r = 0 := by
                  rcases h0 : rkM X.1.1 b - 1 - r with _ | t
                  · rfl
                  · rw [h0] at c3
                    have : 10 ^ (t + 1) ≥ 10 := by rw [Nat.pow_succ]; have := Nat.pow_pos (n := t) (show 0 < 10 by decide); omega
                    omega
                rw [show rkM X.1.1 b - 1 - (r + 1) = 0 by omega]
              · refine AW.iload 184 dX8_chainsBy_182 rfl (by rfl) ?_
                refine AW.bipush 186 dX8_chainsBy_184 rfl (nI 10) rfl ?_
                refine AW.idivN 187 dX8_chainsBy_186 rfl (by omega) (by omega) (by omega) ?_
                refine AW.goto 191 dX8_chainsBy_187 (by decide) ?_
                refine J _ ?_
                rcases h0 : rkM X.1.1 b - 1 - r with _ | t
                · rw [h0] at c3
                  exact absurd c3 (by decide)
                · rw [show rkM X.1.1 b - 1 - (r + 1) = t by omega, Nat.pow_succ, Nat.mul_div_cancel _ (by decide)]
            · omega
          | succ i ihk =>
            intro k H hk K D F z205
            obtain ⟨⟨_, _, _, _, _, _, z196⟩, f, q, y2, y3, y4⟩ := id D
            obtain ⟨y5, y6⟩ := y4 k (by omega)
            have t1 := tb_lt X.1.1 k
            have r2 := rkM_le X.1.1 (tb X.1.1 k)
            have G := K.now
            have no : ¬ (rkM X.1.1 (tb X.1.1 k) = r + 1 ∧ blM X.1.1 (tb X.1.1 k) b = true) → AW X8_chainsBy 170 [some (.ref 196), some (.int (nI a)), some (.int (nI b)), some (.int (moI mo)), some (.int (nI (rkM X.1.1 a))), some (.int (nI (rkM X.1.1 b))), some (.int (nI (10 ^ (rkM X.1.1 b - 1 - r)))), some (.int (nI r)), some (.int (nI k))] [] N (0, 0) H P := by
              intro e
              refine AW.iinc1 173 dX8_chainsBy_170 rfl (by rfl) rfl ?_
              refine AW.goto 102 dX8_chainsBy_173 (by decide) ?_
              refine ihk (k + 1) H (by omega) K D F ?_
              rw [wyK, if_neg e, z205]
            refine AW.iload 104 dX8_chainsBy_102 rfl (by rfl) ?_
            refine AW.aload_n 105 dX8_chainsBy_104 rfl (by rfl) ?_
            refine AW.getfield 108 dX8_chainsBy_105 rfl fl_X8_87 (by assumption) (by rfl) ?_
            refine AW.nge 176 111 dX8_chainsBy_108 (by decide) rfl (by omega) (by omega) (fun c2 => ?_) (fun c2 => ?_)
            · omega
            · refine AW.aload_n 112 dX8_chainsBy_111 rfl (by rfl) ?_
              refine AW.getfield 115 dX8_chainsBy_112 rfl fl_X8_31 (by assumption) (by rfl) ?_
              refine AW.iload 117 dX8_chainsBy_115 rfl (by rfl) ?_
              refine AW.iaload 118 _ dX8_chainsBy_117 rfl (by assumption) (by first | exact Or.inl rfl | exact Or.inr rfl) (ix_nI (by omega)) (by omega) ?_
              rw [y6]
              refine AW.iload 120 dX8_chainsBy_118 rfl (by rfl) ?_
              refine AW.iconst 121 dX8_chainsBy_120 rfl (nI 1) rfl ?_
              first | refine AW.iaddN 122 dX8_chainsBy_121 rfl ?_ | refine AW.iadd 122 dX8_chainsBy_121 rfl ?_
              refine AW.nne 170 125 dX8_chainsBy_122 (by decide) rfl (by omega) (by omega) (fun c3 => ?_) (fun c3 => ?_)
              · exact no (fun z => c3 z.1)
              · refine AW.aload_n 126 dX8_chainsBy_125 rfl (by rfl) ?_
                refine AW.aload_n 127 dX8_chainsBy_126 rfl (by rfl) ?_
                refine AW.getfield 130 dX8_chainsBy_127 rfl fl_X8_28 (by assumption) (by rfl) ?_
                refine AW.iload 132 dX8_chainsBy_130 rfl (by rfl) ?_
                refine AW.iaload 133 _ dX8_chainsBy_132 rfl (by assumption) (by first | exact Or.inl rfl | exact Or.inr rfl) (ix_nI (by omega)) (by omega) ?_
                rw [y5]
                refine AW.iload_n 134 dX8_chainsBy_133 rfl (by rfl) ?_
                refine AW.cV2 137 dX8_chainsBy_134 rfl mi_X8_isBelow mv_X8_isBelow lk_X8_171 ⟨(Nat.le_of_ble_eq_true rfl), (Nat.le_of_ble_eq_true rfl)⟩ rfl (by assumption) rfl (Nat.le_of_ble_eq_true rfl) (c_isBelow G t1 b1 ?_)
                refine AW.zeq 170 140 dX8_chainsBy_137 (by decide) rfl (fun c4 => ?_) (fun c4 => ?_)
                · exact no (fun z => by rw [z.2] at c4; exact absurd c4 (by decide))
                · refine AW.aload_n 141 dX8_chainsBy_140 rfl (by rfl) ?_
                  refine AW.getfield 144 dX8_chainsBy_141 rfl fl_X8_34 (by assumption) (by rfl) ?_
                  refine AW.iload 146 dX8_chainsBy_144 rfl (by rfl) ?_
                  refine AW.aload_n 147 dX8_chainsBy_146 rfl (by rfl) ?_
                  refine AW.iload 149 dX8_chainsBy_147 rfl (by rfl) ?_
                  refine AW.iload 151 dX8_chainsBy_149 rfl (by rfl) ?_
                  refine AW.iload_n 152 dX8_chainsBy_151 rfl (by rfl) ?_
                  have J : AW X8_chainsBy 166 [some (.ref 196), some (.int (nI a)), some (.int (nI b)), some (.int (moI mo)), some (.int (nI (rkM X.1.1 a))), some (.int (nI (rkM X.1.1 b))), some (.int (nI (10 ^ (rkM X.1.1 b - 1 - r)))), some (.int (nI r)), some (.int (nI k))] [.int (mkI (dgM mo (rkM X.1.1 b - 1 - r))), .int (nI r), .int (nI k), .ref 196, .int (nI k), .ref 205] N (0, 0) H P := by
                    refine AW.cV3 169 dX8_chainsBy_166 rfl mi_X8_waysTo mv_X8_waysTo lk_X8_191 ⟨(Nat.le_of_ble_eq_true rfl), (Nat.le_of_ble_eq_true rfl)⟩ rfl (by assumption) rfl (Nat.le_of_ble_eq_true rfl) (r_waysTo K D z205 (by omega) c3 dgM_lt ?_)
                    refine AW.iastore 170 _ dX8_chainsBy_169 rfl (by assumption) (ix_nI (by omega)) (by omega) ?_
                    refine AW.iinc1 173 dX8_chainsBy_170 rfl (by rfl) rfl ?_
                    refine AW.goto 102 dX8_chainsBy_173 (by decide) ?_
                    refine ihk (k + 1) _ (by omega) K.n205 (D.ne (by decide)) (F.trans (FrM.at (by omega))) ?_
                    rw [hs_eq, wyK, if_pos ⟨c3, c4⟩]
                  rcases mo with _ | v
                  · refine AW.if_ge 159 155 dX8_chainsBy_152 (by decide) rfl (fun c5 => ?_) (fun c5 => ?_)
                    · exact absurd c5 (by decide)
                    · refine AW.iconst 156 dX8_chainsBy_155 rfl (-1) rfl ?_
                      refine AW.goto 166 dX8_chainsBy_156 (by decide) ?_
                      exact J
                  · have hv := hmo v rfl
                    have e1 : moI (some v) = nI v := rfl
                    rw [e1] at J ⊢
                    have dv := Nat.div_le_self v (10 ^ (rkM X.1.1 b - 1 - r))
                    refine AW.if_ge 159 155 dX8_chainsBy_152 (by decide) rfl (fun c5 => ?_) (fun c5 => ?_)
                    · refine AW.iload_n 160 dX8_chainsBy_159 rfl (by rfl) ?_
                      refine AW.iload 162 dX8_chainsBy_160 rfl (by rfl) ?_
                      refine AW.idivN 163 dX8_chainsBy_162 rfl (by omega) (by omega) (by omega) ?_
                      refine AW.bipush 165 dX8_chainsBy_163 rfl (nI 10) rfl ?_
                      refine AW.iremN 166 dX8_chainsBy_165 rfl (by omega) (by omega) (by omega) ?_
                      exact J
                    · exact absurd (show (0 : Int32) ≤ nI v by rw [Int32.le_iff_toInt_le, nI_toInt (by omega)]; exact Int.natCast_nonneg v) c5
        exact C (catN X.1.1) 0 H (by omega) K D F z205
  -- the power of ten
  have T : ∀ W H, RfAt H X → LdAt H X.1.1 → FrM h H → H 205 = .inl (0, (1430, .inl W)) → (wyR X.1.1 b (rkM X.1.1 b) mo (rkM X.1.1 b - rkM X.1.1 a) (rkM X.1.1 a) W) (numM X.1.1 b) = chM X.1.1 a b mo → ∀ j r v8, rkM X.1.1 b - r = j → rkM X.1.1 a + 1 ≤ r → (j = 0 → r = rkM X.1.1 b ∨ r = rkM X.1.1 a + 1) → AW X8_chainsBy 68 [some (.ref 196), some (.int (nI a)), some (.int (nI b)), some (.int (moI mo)), some (.int (nI (rkM X.1.1 a))), some (.int (nI (rkM X.1.1 b))), some (.int (nI (10 ^ (r - rkM X.1.1 a - 1)))), some (.int (nI r)), v8] [] N (0, 0) H P := by
    intro W H K D F z205 e j
    induction j with
    | zero =>
      intro r v8 hj hr hz
      refine AW.iload 70 dX8_chainsBy_68 rfl (by rfl) ?_
      refine AW.iload 72 dX8_chainsBy_70 rfl (by rfl) ?_
      refine AW.nge 88 75 dX8_chainsBy_72 (by decide) rfl (by omega) (by omega) (fun c1 => ?_) (fun c1 => ?_)
      · refine AW.iload 90 dX8_chainsBy_88 rfl (by rfl) ?_
        refine AW.istore 92 dX8_chainsBy_90 rfl (Nat.le_of_ble_eq_true rfl) rfl ?_
        rw [show r - rkM X.1.1 a - 1 = rkM X.1.1 b - 1 - rkM X.1.1 a by rcases hz rfl with q | q <;> omega]
        have q := R (rkM X.1.1 b - rkM X.1.1 a) (rkM X.1.1 a) W v8 H K D F z205 rfl (by omega) e
        exact q
      · omega
    | succ j ih =>
      intro r v8 hj hr hz
      refine AW.iload 70 dX8_chainsBy_68 rfl (by rfl) ?_
      refine AW.iload 72 dX8_chainsBy_70 rfl (by rfl) ?_
      refine AW.nge 88 75 dX8_chainsBy_72 (by decide) rfl (by omega) (by omega) (fun c1 => ?_) (fun c1 => ?_)
      · omega
      · refine AW.iload 77 dX8_chainsBy_75 rfl (by rfl) ?_
        refine AW.bipush 79 dX8_chainsBy_77 rfl (nI 10) rfl ?_
        first | refine AW.imulN 80 dX8_chainsBy_79 rfl ?_ | refine AW.imul 80 dX8_chainsBy_79 rfl ?_
        refine AW.istore 82 dX8_chainsBy_80 rfl (Nat.le_of_ble_eq_true rfl) rfl ?_
        rw [show 10 ^ (r - rkM X.1.1 a - 1) * 10 = 10 ^ (r + 1 - rkM X.1.1 a - 1) by rw [← Nat.pow_succ]; congr 1; omega]
        refine AW.iinc1 85 dX8_chainsBy_82 rfl (by rfl) rfl ?_
        refine AW.goto 68 dX8_chainsBy_85 (by decide) ?_
        exact ih (r + 1) v8 (by omega) (by omega) (fun _ => Or.inl (by omega))
  have S : ∀ i k, k + i = catN X.1.1 → AW X8_chainsBy 21 [some (.ref 196), some (.int (nI a)), some (.int (nI b)), some (.int (moI mo)), some (.int (nI (rkM X.1.1 a))), some (.int (nI (rkM X.1.1 b))), some (.int (nI k)), none, none] [] N (0, 0) (hs H 205 (.inl (0, (1430, .inl (fun x => if x < k then wy0 X.1.1 a x else g0 x))))) P := by
    intro i
    induction i with
    | zero =>
      intro k hk
      have K2 := K.n205 (f := fun x => if x < k then wy0 X.1.1 a x else g0 x)
      have D2 := D.ne (k := 205) (e := .inl (0, (1430, .inl (fun x => if x < k then wy0 X.1.1 a x else g0 x)))) (by decide)
      obtain ⟨⟨_, _, _, _, _, _, z196⟩, f, q, y2, y3, y4⟩ := id D2
      refine AW.iload 23 dX8_chainsBy_21 rfl (by rfl) ?_
      refine AW.aload_n 24 dX8_chainsBy_23 rfl (by rfl) ?_
      refine AW.getfield 27 dX8_chainsBy_24 rfl fl_X8_87 (by assumption) (by rfl) ?_
      refine AW.nge 59 30 dX8_chainsBy_27 (by decide) rfl (by omega) (by omega) (fun c2 => ?_) (fun c2 => ?_)
      · refine AW.iconst 60 dX8_chainsBy_59 rfl (nI 1) rfl ?_
        refine AW.istore 62 dX8_chainsBy_60 rfl (Nat.le_of_ble_eq_true rfl) rfl ?_
        refine AW.iload 64 dX8_chainsBy_62 rfl (by rfl) ?_
        refine AW.iconst 65 dX8_chainsBy_64 rfl (nI 1) rfl ?_
        first | refine AW.iaddN 66 dX8_chainsBy_65 rfl ?_ | refine AW.iadd 66 dX8_chainsBy_65 rfl ?_
        refine AW.istore 68 dX8_chainsBy_66 rfl (Nat.le_of_ble_eq_true rfl) rfl ?_
        refine T _ _ K2 D2 (F1.m.trans (FrM.at (by omega))) (hs_eq _ _ _) ?_ (rkM X.1.1 b - (rkM X.1.1 a + 1)) (rkM X.1.1 a + 1) none rfl (Nat.le_refl _) (fun _ => Or.inr rfl) |> fun q => by rw [show rkM X.1.1 a + 1 - rkM X.1.1 a - 1 = 0 by omega] at q; exact q
        have nb := numM_lt X.1.1 b w2
        exact wyR_congr (M := catN X.1.1) (Nat.le_refl _) _ _ _ _ (fun i hi => by show (if i < k then _ else _) = _; rw [if_pos (by omega)]) _ nb
      · omega
    | succ i ih =>
      intro k hk
      have D2 := D.ne (k := 205) (e := .inl (0, (1430, .inl (fun x => if x < k then wy0 X.1.1 a x else g0 x)))) (by decide)
      obtain ⟨⟨_, _, _, _, _, _, z196⟩, f, q, y2, y3, y4⟩ := id D2
      have z205 : hs H 205 (.inl (0, (1430, .inl (fun x => if x < k then wy0 X.1.1 a x else g0 x)))) 205 = .inl (0, (1430, .inl (fun x => if x < k then wy0 X.1.1 a x else g0 x))) := hs_eq _ _ _
      obtain ⟨y5, y6⟩ := y4 k (by omega)
      have t1 := tb_lt X.1.1 k
      refine AW.iload 23 dX8_chainsBy_21 rfl (by rfl) ?_
      refine AW.aload_n 24 dX8_chainsBy_23 rfl (by rfl) ?_
      refine AW.getfield 27 dX8_chainsBy_24 rfl fl_X8_87 (by assumption) (by rfl) ?_
      refine AW.nge 59 30 dX8_chainsBy_27 (by decide) rfl (by omega) (by omega) (fun c2 => ?_) (fun c2 => ?_)
      · omega
      · refine AW.aload_n 31 dX8_chainsBy_30 rfl (by rfl) ?_
        refine AW.getfield 34 dX8_chainsBy_31 rfl fl_X8_34 (by assumption) (by rfl) ?_
        refine AW.iload 36 dX8_chainsBy_34 rfl (by rfl) ?_
        refine AW.aload_n 37 dX8_chainsBy_36 rfl (by rfl) ?_
        refine AW.getfield 40 dX8_chainsBy_37 rfl fl_X8_28 (by assumption) (by rfl) ?_
        refine AW.iload 42 dX8_chainsBy_40 rfl (by rfl) ?_
        refine AW.iaload 43 _ dX8_chainsBy_42 rfl (by assumption) (by first | exact Or.inl rfl | exact Or.inr rfl) (ix_nI (by omega)) (by omega) ?_
        rw [y5]
        refine AW.iload_n 44 dX8_chainsBy_43 rfl (by rfl) ?_
        have J : ∀ v, nI v = wy0 X.1.1 a k → AW X8_chainsBy 52 [some (.ref 196), some (.int (nI a)), some (.int (nI b)), some (.int (moI mo)), some (.int (nI (rkM X.1.1 a))), some (.int (nI (rkM X.1.1 b))), some (.int (nI k)), none, none] [.int (nI v), .int (nI k), .ref 205] N (0, 0) (hs H 205 (.inl (0, (1430, .inl (fun x => if x < k then wy0 X.1.1 a x else g0 x))))) P := by
          intro v hv
          refine AW.iastore 53 _ dX8_chainsBy_52 rfl (by assumption) (ix_nI (by omega)) (by omega) ?_
          refine AW.iinc1 56 dX8_chainsBy_53 rfl (by rfl) rfl ?_
          refine AW.goto 21 dX8_chainsBy_56 (by decide) ?_
          rw [hs_hs, hv, show upd (fun x => if x < k then wy0 X.1.1 a x else g0 x) k (wy0 X.1.1 a k) = (fun x => if x < k + 1 then wy0 X.1.1 a x else g0 x) from funext fun x => by
            show (if x = k then wy0 X.1.1 a k else if x < k then wy0 X.1.1 a x else g0 x) = if x < k + 1 then wy0 X.1.1 a x else g0 x
            by_cases e : x = k
            · rw [if_pos e, if_pos (by omega), e]
            · rw [if_neg e]
              by_cases e2 : x < k
              · rw [if_pos e2, if_pos (by omega)]
              · rw [if_neg e2, if_neg (by omega)]]
          exact ih (k + 1) (by omega)
        refine AW.nne 51 47 dX8_chainsBy_44 (by decide) rfl (by omega) (by omega) (fun c3 => ?_) (fun c3 => ?_)
        · refine AW.iconst 52 dX8_chainsBy_51 rfl (nI 0) rfl ?_
          exact J 0 (by rw [wy0, if_neg c3])
        · refine AW.iconst 48 dX8_chainsBy_47 rfl (nI 1) rfl ?_
          refine AW.goto 52 dX8_chainsBy_48 (by decide) ?_
          exact J 1 (by rw [wy0, if_pos c3])
  have := S (catN X.1.1) 0 (by omega)
  rw [show (fun x => if x < 0 then wy0 X.1.1 a x else g0 x) = g0 from funext fun x => by simp, hs_self x205] at this
  exact this
end REFH
