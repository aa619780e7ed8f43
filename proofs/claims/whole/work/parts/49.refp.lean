/-! THE MODEL, twenty-sixth part: asOf, as -/
theorem cumF_s {kind i : Nat} {m : Nat → Int64} (h1 : 1 ≤ i) (h2 : i ≤ 8) : cumF kind m 8 i = m i - remF kind i (cumF kind m 8) m := by
  obtain ⟨j, rfl⟩ : ∃ j, i = j + 1 := ⟨i - 1, by omega⟩
  rw [cumF_le (Nat.le_refl (j + 1)) h2]
  show upL (cumF kind m j) (j + 1) (m (j + 1) - remF kind (j + 1) (cumF kind m j) m) (j + 1) = _
  rw [upL, if_pos rfl]
  congr 1
  exact remF_congr (fun i _ hi => (cumF_le (by omega) (by omega)).symm) (fun _ _ => rfl)
theorem l_sub3 (a b c : Int64) : a - b - c = a - (b + c) := by
  rw [Int64.sub_eq_add_neg, Int64.sub_eq_add_neg, Int64.sub_eq_add_neg, Int64.neg_add, Int64.sub_eq_add_neg, Int64.add_assoc]
theorem l_addsub (a b : Int64) : a + b - b = a := by
  rw [Int64.sub_eq_add_neg, Int64.add_assoc, ← Int64.sub_eq_add_neg, Int64.sub_self, Int64.add_zero]
theorem asF_jj {j : Nat} {x : Nat → Int32} : ∀ i, 1 ≤ i → i ≤ 8 → asF j j x i = xsF x i := by
  intro i
  induction i using Nat.strongRecOn with
  | ind i ih =>
    intro h1 h2
    unfold asF at ih ⊢
    rw [cumF_s h1 h2, momF_s h1 h2, remF_congr (c := cumF j (momF j (xsF x) 8) 8) (c' := xsF x) (fun z z1 z2 => ih z z2 z1 (by omega)) (fun _ _ => rfl), l_addsub]
section REFP
variable {N n : Nat} {h : aH} {P : aP} {X : aX}
theorem r_asCum {j k : Nat} {H0 : aH} {m c p : Nat → Int64} {v4 v5 : Option Value} (K0 : RfAt h X) (hk : k = 1 ∨ k = 2) (hn : n ≤ 8) (hn1 : 1 ≤ n) (S0 : SrB h H0 m c p) (hm : ∀ z, z ≤ n → m z = momF j (xsF X.1.2.2) 8 z) (hP : ∀ H m c p, SrB h H m c p → P (some (.long (asF j k X.1.2.2 n))) N H) : AW X8_asOf 143 [some (.ref 196), some (.int (nI j)), some (.int (nI k)), some (.int (nI n)), v4, v5] [] N (0, 0) H0 P := by
  obtain ⟨la, ma, at_, fa, od, d, x196, -⟩ := id K0.1
  refine AW.iconst 144 dX8_asOf_143 rfl (nI 1) rfl ?_
  refine AW.istore 146 dX8_asOf_144 rfl (Nat.le_of_ble_eq_true rfl) rfl ?_
  have L : ∀ t i, i + t = n + 1 → 1 ≤ i → ∀ H c p v5, SrB h H m c p → (∀ z, 1 ≤ z → z < i → c z = asF j k X.1.2.2 z) → AW X8_asOf 146 [some (.ref 196), some (.int (nI j)), some (.int (nI k)), some (.int (nI n)), some (.int (nI i)), v5] [] N (0, 0) H P := by
    intro t
    induction t with
    | zero =>
      intro i hi h1 H c p v5 S hc
      have y196 : H 196 = modO (nI X.2.1.1) (nI X.2.2.2.2) la ma at_ fa od d := by rw [S.2.2.2 _ (by decide) (by decide) (by decide), x196]
      have y208 := S.2.1
      refine AW.iload 148 dX8_asOf_146 rfl (by rfl) ?_
      refine AW.iload_n 149 dX8_asOf_148 rfl (by rfl) ?_
      refine AW.ngt 223 152 dX8_asOf_149 (by decide) rfl (by omega) (by omega) (fun c1 => ?_) (fun c1 => ?_)
      · refine AW.aload_n 224 dX8_asOf_223 rfl (by rfl) ?_
        refine AW.getfield 227 dX8_asOf_224 rfl fl_X8_44 (by assumption) (by rfl) ?_
        refine AW.iload_n 228 dX8_asOf_227 rfl (by rfl) ?_
        refine AW.laload 229 _ dX8_asOf_228 rfl (by assumption) rfl (ix_nI (by omega)) (by omega) ?_
        refine AW.lret dX8_asOf_229 rfl ?_
        rw [hc n hn1 (by omega)]
        exact hP H m c p S
      · omega
    | succ t ih =>
      intro i hi h1 H c p v5 S hc
      have y196 : H 196 = modO (nI X.2.1.1) (nI X.2.2.2.2) la ma at_ fa od d := by rw [S.2.2.2 _ (by decide) (by decide) (by decide), x196]
      have y207 := S.1
      have y208 := S.2.1
      have y209 := S.2.2.1
      refine AW.iload 148 dX8_asOf_146 rfl (by rfl) ?_
      refine AW.iload_n 149 dX8_asOf_148 rfl (by rfl) ?_
      refine AW.ngt 223 152 dX8_asOf_149 (by decide) rfl (by omega) (by omega) (fun c1 => ?_) (fun c1 => ?_)
      · omega
      · refine AW.aload_n 153 dX8_asOf_152 rfl (by rfl) ?_
        refine AW.iload 155 dX8_asOf_153 rfl (by rfl) ?_
        refine AW.iconst 156 dX8_asOf_155 rfl (nI 1) rfl ?_
        first | refine AW.isubN 157 dX8_asOf_156 rfl (by omega) ?_ | refine AW.isub 157 dX8_asOf_156 rfl ?_
        refine AW.cV1 160 dX8_asOf_157 rfl mi_X8_findPowers mv_X8_findPowers lk_X8_207 ⟨(Nat.le_of_ble_eq_true rfl), (Nat.le_of_ble_eq_true rfl)⟩ rfl (by assumption) rfl (Nat.le_of_ble_eq_true rfl) (r_findPowers y196 y207 y209 (show i - 1 ≤ 8 by omega) ?_)
        intro p' hp'
        have S2 := S.p (p' := p')
        have z196 : (hs H 209 (lA 81 p')) 196 = modO (nI X.2.1.1) (nI X.2.2.2.2) la ma at_ fa od d := by rw [S2.2.2.2 _ (by decide) (by decide) (by decide), x196]
        have z207 := S2.1
        have z208 := S2.2.1
        refine AW.aload_n 161 dX8_asOf_160 rfl (by rfl) ?_
        refine AW.getfield 164 dX8_asOf_161 rfl fl_X8_44 (by assumption) (by rfl) ?_
        refine AW.iload 166 dX8_asOf_164 rfl (by rfl) ?_
        refine AW.aload_n 167 dX8_asOf_166 rfl (by rfl) ?_
        refine AW.getfield 170 dX8_asOf_167 rfl fl_X8_40 (by assumption) (by rfl) ?_
        refine AW.iload 172 dX8_asOf_170 rfl (by rfl) ?_
        refine AW.laload 173 _ dX8_asOf_172 rfl (by assumption) rfl (ix_nI (by omega)) (by omega) ?_
        refine AW.lastore 174 _ dX8_asOf_173 rfl (by assumption) (ix_nI (by omega)) (by omega) ?_
        refine AW.iconst 175 dX8_asOf_174 rfl (nI 1) rfl ?_
        refine AW.istore 177 dX8_asOf_175 rfl (Nat.le_of_ble_eq_true rfl) rfl ?_
        have M : ∀ u q, q + u = i - 1 → ∀ H c', SrB h H m c' p' → (∀ z, z ≠ i → c' z = c z) → c' i = m i - sumL (fun t => c (t + 1) * tmF k i (t + 1) m) q → AW X8_asOf 177 [some (.ref 196), some (.int (nI j)), some (.int (nI k)), some (.int (nI n)), some (.int (nI i)), some (.int (nI (q + 1)))] [] N (0, 0) H P := by
          intro u
          induction u with
          | zero =>
            intro q hq H c' S hc' hs'
            refine AW.iload 179 dX8_asOf_177 rfl (by rfl) ?_
            refine AW.iload 181 dX8_asOf_179 rfl (by rfl) ?_
            refine AW.nge 217 184 dX8_asOf_181 (by decide) rfl (by omega) (by omega) (fun c3 => ?_) (fun c3 => ?_)
            · refine AW.iinc1 220 dX8_asOf_217 rfl (by rfl) rfl ?_
              refine AW.goto 146 dX8_asOf_220 (by decide) ?_
              refine ih (i + 1) (by omega) (by omega) H c' p' _ S (fun z z1 hz => ?_)
              by_cases e : z = i
              · subst e
                obtain rfl : q = z - 1 := by omega
                unfold asF at hc ⊢
                rw [hs', cumF_s h1 (by omega), hm z (by omega)]
                congr 1
                have hk0 : k ≠ 0 := by omega
                rw [← remF_congr (kind := k) (n := z) (c := c) (m := m) (fun y y1 y2 => hc y y1 y2) (fun y hy => hm y (by omega)), remF, if_neg hk0]
              · rw [hc' z e, hc z z1 (by omega)]
            · omega
          | succ u ihM =>
            intro q hq H c' S hc' hs'
            have y196 : H 196 = modO (nI X.2.1.1) (nI X.2.2.2.2) la ma at_ fa od d := by rw [S.2.2.2 _ (by decide) (by decide) (by decide), x196]
            have y207 := S.1
            have y208 := S.2.1
            have y209 := S.2.2.1
            refine AW.iload 179 dX8_asOf_177 rfl (by rfl) ?_
            refine AW.iload 181 dX8_asOf_179 rfl (by rfl) ?_
            refine AW.nge 217 184 dX8_asOf_181 (by decide) rfl (by omega) (by omega) (fun c3 => ?_) (fun c3 => ?_)
            · omega
            · refine AW.aload_n 185 dX8_asOf_184 rfl (by rfl) ?_
              refine AW.getfield 188 dX8_asOf_185 rfl fl_X8_44 (by assumption) (by rfl) ?_
              refine AW.iload 190 dX8_asOf_188 rfl (by rfl) ?_
              refine AW.dup2 191 dX8_asOf_190 rfl rfl rfl ?_
              refine AW.laload 192 _ dX8_asOf_191 rfl (by assumption) rfl (ix_nI (by omega)) (by omega) ?_
              refine AW.aload_n 193 dX8_asOf_192 rfl (by rfl) ?_
              refine AW.getfield 196 dX8_asOf_193 rfl fl_X8_44 (by assumption) (by rfl) ?_
              refine AW.iload 198 dX8_asOf_196 rfl (by rfl) ?_
              refine AW.laload 199 _ dX8_asOf_198 rfl (by assumption) rfl (ix_nI (by omega)) (by omega) ?_
              refine AW.aload_n 200 dX8_asOf_199 rfl (by rfl) ?_
              refine AW.iload_n 201 dX8_asOf_200 rfl (by rfl) ?_
              refine AW.iload 203 dX8_asOf_201 rfl (by rfl) ?_
              refine AW.iload 205 dX8_asOf_203 rfl (by rfl) ?_
              refine AW.cV3 208 dX8_asOf_205 rfl mi_X8_timesOf mv_X8_timesOf lk_X8_210 ⟨(Nat.le_of_ble_eq_true rfl), (Nat.le_of_ble_eq_true rfl)⟩ rfl (by assumption) rfl (Nat.le_of_ble_eq_true rfl) (r_timesOf y196 y207 y209 hk (show i ≤ 8 by omega) (by omega) (by omega) hp' ?_)
              refine AW.lmul 209 dX8_asOf_208 rfl ?_
              refine AW.lsub 210 dX8_asOf_209 rfl ?_
              refine AW.lastore 211 _ dX8_asOf_210 rfl (by assumption) (ix_nI (by omega)) (by omega) ?_
              refine AW.iinc1 214 dX8_asOf_211 rfl (by rfl) rfl ?_
              refine AW.goto 177 dX8_asOf_214 (by decide) ?_
              refine ihM (q + 1) (by omega) _ _ S.c (fun z hz => ?_) ?_
              · show (if z = i then _ else _) = _
                rw [if_neg hz, hc' z hz]
              · show (if i = i then _ else _) = _
                rw [if_pos rfl, hs', l_sub3, hc' (q + 1) (by omega)]
                rfl
        refine M (i - 1) 0 (by omega) _ _ S2.c (fun z hz => ?_) ?_
        · show (if z = i then _ else _) = _
          rw [if_neg hz]
        · show (if i = i then _ else _) = _
          rw [if_pos rfl]
          show m i = m i - 0
          rw [Int64.sub_zero]
  exact L n 1 (by omega) (Nat.le_refl _) _ c p _ S0 (fun z z1 hz => by omega)
end REFP
