/-! THE MODEL, twenty-fifth part: the moments of asOf -/
section REFO
variable {N n : Nat} {h : aH} {P : aP} {X : aX}
theorem SrB.p {H : aH} {m c p p' : Nat → Int64} (S : SrB h H m c p) : SrB h (hs H 209 (lA 81 p')) m c p' := ⟨by rw [hs_ne (by decide), S.1], by rw [hs_ne (by decide), S.2.1], hs_eq _ _ _, fun z z1 z2 z3 => by rw [hs_ne z3, S.2.2.2 z z1 z2 z3]⟩
theorem SrB.m {H : aH} {m c p m' : Nat → Int64} (S : SrB h H m c p) : SrB h (hs H 207 (lA 9 m')) m' c p := ⟨hs_eq _ _ _, by rw [hs_ne (by decide), S.2.1], by rw [hs_ne (by decide), S.2.2.1], fun z z1 z2 z3 => by rw [hs_ne z1, S.2.2.2 z z1 z2 z3]⟩
theorem SrB.c {H : aH} {m c p c' : Nat → Int64} (S : SrB h H m c p) : SrB h (hs H 208 (lA 9 c')) m c' p := ⟨by rw [hs_ne (by decide), S.1], hs_eq _ _ _, by rw [hs_ne (by decide), S.2.2.1], fun z z1 z2 z3 => by rw [hs_ne z2, S.2.2.2 z z1 z2 z3]⟩
theorem momF_s {kind i : Nat} {x : Nat → Int64} (h1 : 1 ≤ i) (h2 : i ≤ 8) : momF kind x 8 i = x i + remF kind i x (momF kind x 8) := by
  obtain ⟨j, rfl⟩ : ∃ j, i = j + 1 := ⟨i - 1, by omega⟩
  rw [momF_le (Nat.le_refl (j + 1)) h2]
  show upL (momF kind x j) (j + 1) (x (j + 1) + remF kind (j + 1) x (momF kind x j)) (j + 1) = _
  rw [upL, if_pos rfl]
  congr 1
  exact remF_congr (fun _ _ _ => rfl) (fun i hi => (momF_le (by omega) (by omega)).symm)
theorem momF_0 {kind : Nat} {x : Nat → Int64} : momF kind x 8 0 = 1 := by
  rw [momF_le (Nat.le_refl 0) (by omega)]
  rfl
theorem r_asMom {j k : Nat} (K0 : RfAt h X) (hj : j < 3) (hn : n ≤ 8) (hP : ∀ H m c p v4 v5, SrB h H m c p → (∀ z, z ≤ n → m z = momF j (xsF X.1.2.2) 8 z) → AW X8_asOf 132 [some (.ref 196), some (.int (nI j)), some (.int (nI k)), some (.int (nI n)), v4, v5] [] N (0, 0) H P) : AW X8_asOf 18 [some (.ref 196), some (.int (nI j)), some (.int (nI k)), some (.int (nI n)), none, none] [] N (0, 0) h P := by
  obtain ⟨la, ma, at_, fa, od, d, x196, -⟩ := id K0.1
  have x197 : h 197 = .inl (0, (15, .inl (nowF X.1))) := K0.2.1
  obtain ⟨_, _, _, ⟨m0, x207⟩, ⟨c0, x208⟩, ⟨p0, x209⟩, _⟩ := id K0.2.2.2.2.2.2.2.1
  have S0 : SrB h h m0 c0 p0 := ⟨x207, x208, x209, fun _ _ _ _ => rfl⟩
  have nx : ∀ i, 1 ≤ i → i ≤ 8 → (nowF X.1 (7 + i - 1)).toInt64 = xsF X.1.2.2 i := fun i h1 h2 => by rw [show 7 + i - 1 = 7 + (i - 1) by omega, nowF_v (by omega)]; rfl
  refine AW.aload_n 19 dX8_asOf_18 rfl (by rfl) ?_
  refine AW.getfield 22 dX8_asOf_19 rfl fl_X8_40 (by assumption) (by rfl) ?_
  refine AW.iconst 23 dX8_asOf_22 rfl (nI 0) rfl ?_
  refine AW.lconst 24 dX8_asOf_23 rfl 1 rfl ?_
  refine AW.lastore 25 _ dX8_asOf_24 rfl (by assumption) (ix_nI (by omega)) (by omega) ?_
  refine AW.iconst 26 dX8_asOf_25 rfl (nI 1) rfl ?_
  refine AW.istore 28 dX8_asOf_26 rfl (Nat.le_of_ble_eq_true rfl) rfl ?_
  have L : ∀ t i, i + t = n + 1 → 1 ≤ i → ∀ H m c p v5, SrB h H m c p → (∀ z, z < i → m z = momF j (xsF X.1.2.2) 8 z) → AW X8_asOf 28 [some (.ref 196), some (.int (nI j)), some (.int (nI k)), some (.int (nI n)), some (.int (nI i)), v5] [] N (0, 0) H P := by
    intro t
    induction t with
    | zero =>
      intro i hi h1 H m c p v5 S hm
      refine AW.iload 30 dX8_asOf_28 rfl (by rfl) ?_
      refine AW.iload_n 31 dX8_asOf_30 rfl (by rfl) ?_
      refine AW.ngt 132 34 dX8_asOf_31 (by decide) rfl (by omega) (by omega) (fun c1 => ?_) (fun c1 => ?_)
      · exact hP H m c p _ _ S (fun z hz => hm z (by omega))
      · omega
    | succ t ih =>
      intro i hi h1 H m c p v5 S hm
      have y196 : H 196 = modO (nI X.2.1.1) (nI X.2.2.2.2) la ma at_ fa od d := by rw [S.2.2.2 _ (by decide) (by decide) (by decide), x196]
      have y197 : H 197 = .inl (0, (15, .inl (nowF X.1))) := by rw [S.2.2.2 _ (by decide) (by decide) (by decide), x197]
      have y207 := S.1
      have y209 := S.2.2.1
      refine AW.iload 30 dX8_asOf_28 rfl (by rfl) ?_
      refine AW.iload_n 31 dX8_asOf_30 rfl (by rfl) ?_
      refine AW.ngt 132 34 dX8_asOf_31 (by decide) rfl (by omega) (by omega) (fun c1 => ?_) (fun c1 => ?_)
      · omega
      · refine AW.iload_n 35 dX8_asOf_34 rfl (by rfl) ?_
        refine AW.ine 61 38 dX8_asOf_35 (by decide) rfl (by omega) (fun c2 => ?_) (fun c2 => ?_)
        · refine AW.aload_n 62 dX8_asOf_61 rfl (by rfl) ?_
          refine AW.iload 64 dX8_asOf_62 rfl (by rfl) ?_
          refine AW.iconst 65 dX8_asOf_64 rfl (nI 1) rfl ?_
          first | refine AW.isubN 66 dX8_asOf_65 rfl (by omega) ?_ | refine AW.isub 66 dX8_asOf_65 rfl ?_
          refine AW.cV1 69 dX8_asOf_66 rfl mi_X8_findPowers mv_X8_findPowers lk_X8_207 ⟨(Nat.le_of_ble_eq_true rfl), (Nat.le_of_ble_eq_true rfl)⟩ rfl (by assumption) rfl (Nat.le_of_ble_eq_true rfl) (r_findPowers y196 y207 y209 (show i - 1 ≤ 8 by omega) ?_)
          intro p' hp'
          have S2 := S.p (p' := p')
          have z196 : (hs H 209 (lA 81 p')) 196 = modO (nI X.2.1.1) (nI X.2.2.2.2) la ma at_ fa od d := by rw [S2.2.2.2 _ (by decide) (by decide) (by decide), x196]
          have z207 := S2.1
          refine AW.aload_n 70 dX8_asOf_69 rfl (by rfl) ?_
          refine AW.getfield 73 dX8_asOf_70 rfl fl_X8_40 (by assumption) (by rfl) ?_
          refine AW.iload 75 dX8_asOf_73 rfl (by rfl) ?_
          refine AW.lconst 76 dX8_asOf_75 rfl 0 rfl ?_
          refine AW.lastore 77 _ dX8_asOf_76 rfl (by assumption) (ix_nI (by omega)) (by omega) ?_
          refine AW.iconst 78 dX8_asOf_77 rfl (nI 1) rfl ?_
          refine AW.istore 80 dX8_asOf_78 rfl (Nat.le_of_ble_eq_true rfl) rfl ?_
          have M : ∀ u q, q + u = i → ∀ H m', SrB h H m' c p' → (∀ z, z ≠ i → m' z = m z) → m' i = sumL (fun t => xsF X.1.2.2 (t + 1) * tmF j i (t + 1) m) q → AW X8_asOf 80 [some (.ref 196), some (.int (nI j)), some (.int (nI k)), some (.int (nI n)), some (.int (nI i)), some (.int (nI (q + 1)))] [] N (0, 0) H P := by
            intro u
            induction u with
            | zero =>
              intro q hq H m' S hm' hs'
              refine AW.iload 82 dX8_asOf_80 rfl (by rfl) ?_
              refine AW.iload 84 dX8_asOf_82 rfl (by rfl) ?_
              refine AW.ngt 126 87 dX8_asOf_84 (by decide) rfl (by omega) (by omega) (fun c3 => ?_) (fun c3 => ?_)
              · refine AW.iinc1 129 dX8_asOf_126 rfl (by rfl) rfl ?_
                refine AW.goto 28 dX8_asOf_129 (by decide) ?_
                refine ih (i + 1) (by omega) (by omega) H m' c p' _ S (fun z hz => ?_)
                by_cases e : z = i
                · subst e
                  obtain rfl : q = z := by omega
                  rw [hs', mom_sum c2 (by rw [hm 0 (by omega), momF_0]) h1 (by omega), momF_s h1 (by omega)]
                  congr 1
                  exact remF_congr (fun _ _ _ => rfl) (fun z hz => hm z hz)
                · rw [hm' z e, hm z (by omega)]
              · omega
            | succ u ihM =>
              intro q hq H m' S hm' hs'
              have y196 : H 196 = modO (nI X.2.1.1) (nI X.2.2.2.2) la ma at_ fa od d := by rw [S.2.2.2 _ (by decide) (by decide) (by decide), x196]
              have y197 : H 197 = .inl (0, (15, .inl (nowF X.1))) := by rw [S.2.2.2 _ (by decide) (by decide) (by decide), x197]
              have y207 := S.1
              have y209 := S.2.2.1
              have hp2 : PwAt p' m' (i - 1) := fun s hs k hk => by rw [hp' s hs k hk]; exact pwF_congr (fun z hz => (hm' z (by omega)).symm)
              refine AW.iload 82 dX8_asOf_80 rfl (by rfl) ?_
              refine AW.iload 84 dX8_asOf_82 rfl (by rfl) ?_
              refine AW.ngt 126 87 dX8_asOf_84 (by decide) rfl (by omega) (by omega) (fun c3 => ?_) (fun c3 => ?_)
              · omega
              · refine AW.aload_n 88 dX8_asOf_87 rfl (by rfl) ?_
                refine AW.getfield 91 dX8_asOf_88 rfl fl_X8_40 (by assumption) (by rfl) ?_
                refine AW.iload 93 dX8_asOf_91 rfl (by rfl) ?_
                refine AW.dup2 94 dX8_asOf_93 rfl rfl rfl ?_
                refine AW.laload 95 _ dX8_asOf_94 rfl (by assumption) rfl (ix_nI (by omega)) (by omega) ?_
                refine AW.aload_n 96 dX8_asOf_95 rfl (by rfl) ?_
                refine AW.getfield 99 dX8_asOf_96 rfl fl_X8_7 (by assumption) (by rfl) ?_
                refine AW.bipush 101 dX8_asOf_99 rfl (nI 7) rfl ?_
                refine AW.iload 103 dX8_asOf_101 rfl (by rfl) ?_
                first | refine AW.iaddN 104 dX8_asOf_103 rfl ?_ | refine AW.iadd 104 dX8_asOf_103 rfl ?_
                refine AW.iconst 105 dX8_asOf_104 rfl (nI 1) rfl ?_
                first | refine AW.isubN 106 dX8_asOf_105 rfl (by omega) ?_ | refine AW.isub 106 dX8_asOf_105 rfl ?_
                refine AW.iaload 107 _ dX8_asOf_106 rfl (by assumption) (by first | exact Or.inl rfl | exact Or.inr rfl) (ix_nI (by omega)) (by omega) ?_
                refine AW.i2l 108 dX8_asOf_107 rfl ?_
                rw [nx (q + 1) (by omega) (by omega)]
                refine AW.aload_n 109 dX8_asOf_108 rfl (by rfl) ?_
                refine AW.iload_n 110 dX8_asOf_109 rfl (by rfl) ?_
                refine AW.iload 112 dX8_asOf_110 rfl (by rfl) ?_
                refine AW.iload 114 dX8_asOf_112 rfl (by rfl) ?_
                refine AW.cV3 117 dX8_asOf_114 rfl mi_X8_timesOf mv_X8_timesOf lk_X8_210 ⟨(Nat.le_of_ble_eq_true rfl), (Nat.le_of_ble_eq_true rfl)⟩ rfl (by assumption) rfl (Nat.le_of_ble_eq_true rfl) (r_timesOf y196 y207 y209 (show j = 1 ∨ j = 2 by omega) (show i ≤ 8 by omega) (by omega) (by omega) hp2 ?_)
                refine AW.lmul 118 dX8_asOf_117 rfl ?_
                refine AW.ladd 119 dX8_asOf_118 rfl ?_
                refine AW.lastore 120 _ dX8_asOf_119 rfl (by assumption) (ix_nI (by omega)) (by omega) ?_
                refine AW.iinc1 123 dX8_asOf_120 rfl (by rfl) rfl ?_
                refine AW.goto 80 dX8_asOf_123 (by decide) ?_
                have et : tmF j i (q + 1) m' = tmF j i (q + 1) m := by
                  unfold tmF
                  split
                  · exact pwF_congr (fun z hz => hm' z (by omega))
                  · rw [hm' _ (by omega)]
                refine ihM (q + 1) (by omega) _ _ S.m (fun z hz => ?_) ?_
                · show (if z = i then _ else _) = _
                  rw [if_neg hz, hm' z hz]
                · show (if i = i then _ else _) = _
                  rw [if_pos rfl, hs', et]
                  rfl
          refine M i 0 (by omega) _ _ S2.m (fun z hz => ?_) ?_
          · show (if z = i then _ else _) = _
            rw [if_neg hz]
          · show (if i = i then _ else _) = _
            rw [if_pos rfl]
            rfl
        · refine AW.aload_n 39 dX8_asOf_38 rfl (by rfl) ?_
          refine AW.getfield 42 dX8_asOf_39 rfl fl_X8_40 (by assumption) (by rfl) ?_
          refine AW.iload 44 dX8_asOf_42 rfl (by rfl) ?_
          refine AW.aload_n 45 dX8_asOf_44 rfl (by rfl) ?_
          refine AW.getfield 48 dX8_asOf_45 rfl fl_X8_7 (by assumption) (by rfl) ?_
          refine AW.bipush 50 dX8_asOf_48 rfl (nI 7) rfl ?_
          refine AW.iload 52 dX8_asOf_50 rfl (by rfl) ?_
          first | refine AW.iaddN 53 dX8_asOf_52 rfl ?_ | refine AW.iadd 53 dX8_asOf_52 rfl ?_
          refine AW.iconst 54 dX8_asOf_53 rfl (nI 1) rfl ?_
          first | refine AW.isubN 55 dX8_asOf_54 rfl (by omega) ?_ | refine AW.isub 55 dX8_asOf_54 rfl ?_
          refine AW.iaload 56 _ dX8_asOf_55 rfl (by assumption) (by first | exact Or.inl rfl | exact Or.inr rfl) (ix_nI (by omega)) (by omega) ?_
          refine AW.i2l 57 dX8_asOf_56 rfl ?_
          rw [nx i h1 (by omega)]
          refine AW.lastore 58 _ dX8_asOf_57 rfl (by assumption) (ix_nI (by omega)) (by omega) ?_
          refine AW.goto 126 dX8_asOf_58 (by decide) ?_
          refine AW.iinc1 129 dX8_asOf_126 rfl (by rfl) rfl ?_
          refine AW.goto 28 dX8_asOf_129 (by decide) ?_
          refine ih (i + 1) (by omega) (by omega) _ _ c p _ S.m (fun z hz => ?_)
          show (if z = i then _ else _) = _
          by_cases e : z = i
          · rw [if_pos e, e, momF_s h1 (by omega), c2, remF, if_pos rfl, Int64.add_zero]
          · rw [if_neg e, hm z (by omega)]
  refine L n 1 (by omega) (Nat.le_refl _) _ _ c0 p0 _ S0.m (fun z hz => ?_)
  show (if z = 0 then _ else _) = _
  rw [if_pos (by omega), show z = 0 by omega, momF_0]
end REFO
