/-! THE MODEL, twenty-second part: powers, choose, timesOf -/
def cbL (n : Nat) : Nat → Int64
  | 0 => 1
  | i + 1 => cbL n i * (nI (n - i)).toInt64 / (nI (i + 1)).toInt64
theorem cbL_eq : ∀ n, n < 8 → ∀ k, k ≤ n → cbL n k = (nI (chF n k)).toInt64 := by decide +kernel
theorem tl_ne : ∀ i, i < 8 → ¬ (nI (i + 1)).toInt64 = 0 := by decide +kernel
def PwAt (p m : Nat → Int64) (n : Nat) : Prop := ∀ s, s ≤ 8 → ∀ k, k ≤ n → p (9 * s + k) = pwF m s k
section REFL
variable {N n : Nat} {h : aH} {P : aP} {X : aX}
theorem r_choose {n k : Nat} (hn : n < 8) (hk : k ≤ n) (hP : P (some (.long (nI (chF n k)).toInt64)) N h) : AM X8_choose [.int (nI n), .int (nI k)] N h P := by
  refine AM.of0 rfl (Nat.le_of_ble_eq_true rfl) rfl [some (.int (nI n)), some (.int (nI k)), none, none, none] rfl ?_
  refine AW.lconst 1 dX8_choose_0 rfl 1 rfl ?_
  refine AW.lstore_n 2 dX8_choose_1 rfl (Nat.le_of_ble_eq_true rfl) rfl ?_
  refine AW.iconst 3 dX8_choose_2 rfl (nI 0) rfl ?_
  refine AW.istore 5 dX8_choose_3 rfl (Nat.le_of_ble_eq_true rfl) rfl ?_
  have L : ∀ j i, i + j = k → AW X8_choose 5 [some (.int (nI n)), some (.int (nI k)), some (.long (cbL n i)), none, some (.int (nI i))] [] N (0, 0) h P := by
    intro j
    induction j with
    | zero =>
      intro i hi
      refine AW.iload 7 dX8_choose_5 rfl (by rfl) ?_
      refine AW.iload_n 8 dX8_choose_7 rfl (by rfl) ?_
      refine AW.nge 31 11 dX8_choose_8 (by decide) rfl (by omega) (by omega) (fun c => ?_) (fun c => ?_)
      · obtain rfl : i = k := by omega
        refine AW.lload_n 32 dX8_choose_31 rfl (by rfl) ?_
        refine AW.lret dX8_choose_32 rfl ?_
        rw [cbL_eq n hn i hk]
        exact hP
      · omega
    | succ j ih =>
      intro i hi
      refine AW.iload 7 dX8_choose_5 rfl (by rfl) ?_
      refine AW.iload_n 8 dX8_choose_7 rfl (by rfl) ?_
      refine AW.nge 31 11 dX8_choose_8 (by decide) rfl (by omega) (by omega) (fun c => ?_) (fun c => ?_)
      · omega
      · refine AW.lload_n 12 dX8_choose_11 rfl (by rfl) ?_
        refine AW.iload_n 13 dX8_choose_12 rfl (by rfl) ?_
        refine AW.iload 15 dX8_choose_13 rfl (by rfl) ?_
        first | refine AW.isubN 16 dX8_choose_15 rfl (by omega) ?_ | refine AW.isub 16 dX8_choose_15 rfl ?_
        refine AW.i2l 17 dX8_choose_16 rfl ?_
        refine AW.lmul 18 dX8_choose_17 rfl ?_
        refine AW.iload 20 dX8_choose_18 rfl (by rfl) ?_
        refine AW.iconst 21 dX8_choose_20 rfl (nI 1) rfl ?_
        first | refine AW.iaddN 22 dX8_choose_21 rfl ?_ | refine AW.iadd 22 dX8_choose_21 rfl ?_
        refine AW.i2l 23 dX8_choose_22 rfl ?_
        refine AW.ldiv 24 dX8_choose_23 rfl (tl_ne i (by omega)) ?_
        refine AW.lstore_n 25 dX8_choose_24 rfl (Nat.le_of_ble_eq_true rfl) rfl ?_
        refine AW.iinc1 28 dX8_choose_25 rfl (by rfl) rfl ?_
        refine AW.goto 5 dX8_choose_28 (by decide) ?_
        exact ih (i + 1) (by omega)
  exact L k 0 (by omega)
theorem r_findPowers {ps ty la ma at_ fa od : Int32} {d : Int64} {m p : Nat → Int64} (x196 : h 196 = modO ps ty la ma at_ fa od d) (x207 : h 207 = lA 9 m) (x209 : h 209 = lA 81 p) (hn : n ≤ 8) (hP : ∀ p', PwAt p' m n → P none N (hs h 209 (lA 81 p'))) : AM X8_findPowers [.ref 196, .int (nI n)] N h P := by
  refine AM.of0 rfl (Nat.le_of_ble_eq_true rfl) rfl [some (.ref 196), some (.int (nI n)), none, none, none, none, none] rfl ?_
  refine AW.iconst 1 dX8_findPowers_0 rfl (nI 0) rfl ?_
  refine AW.istore_n 2 dX8_findPowers_1 rfl (Nat.le_of_ble_eq_true rfl) rfl ?_
  have A : ∀ j s, s + j = 9 → ∀ p v3 v4 v5 v6, (∀ t, t < s → ∀ k, k ≤ n → p (9 * t + k) = pwF m t k) → AW X8_findPowers 2 [some (.ref 196), some (.int (nI n)), some (.int (nI s)), v3, v4, v5, v6] [] N (0, 0) (hs h 209 (lA 81 p)) P := by
    intro j
    induction j with
    | zero =>
      intro s hs9 p v3 v4 v5 v6 hp
      refine AW.iload_n 3 dX8_findPowers_2 rfl (by rfl) ?_
      refine AW.bipush 5 dX8_findPowers_3 rfl (nI 8) rfl ?_
      refine AW.ngt 103 8 dX8_findPowers_5 (by decide) rfl (by omega) (by omega) (fun c => ?_) (fun c => ?_)
      · refine AW.vret dX8_findPowers_103 rfl ?_
        exact hP p (fun t ht k hk => hp t (by omega) k hk)
      · omega
    | succ j ihA =>
      intro s hs9 p v3 v4 v5 v6 hp
      refine AW.iload_n 3 dX8_findPowers_2 rfl (by rfl) ?_
      refine AW.bipush 5 dX8_findPowers_3 rfl (nI 8) rfl ?_
      refine AW.ngt 103 8 dX8_findPowers_5 (by decide) rfl (by omega) (by omega) (fun c => ?_) (fun c => ?_)
      · omega
      · refine AW.iconst 9 dX8_findPowers_8 rfl (nI 0) rfl ?_
        refine AW.istore_n 10 dX8_findPowers_9 rfl (Nat.le_of_ble_eq_true rfl) rfl ?_
        have B : ∀ j k, k + j = n + 1 → ∀ p v4 v5 v6, (∀ t, t < s → ∀ k, k ≤ n → p (9 * t + k) = pwF m t k) → (∀ z, z < k → p (9 * s + z) = pwF m s z) → AW X8_findPowers 10 [some (.ref 196), some (.int (nI n)), some (.int (nI s)), some (.int (nI k)), v4, v5, v6] [] N (0, 0) (hs h 209 (lA 81 p)) P := by
          intro j
          induction j with
          | zero =>
            intro k hk p v4 v5 v6 hp hq
            refine AW.iload_n 11 dX8_findPowers_10 rfl (by rfl) ?_
            refine AW.iload_n 12 dX8_findPowers_11 rfl (by rfl) ?_
            refine AW.ngt 97 15 dX8_findPowers_12 (by decide) rfl (by omega) (by omega) (fun c2 => ?_) (fun c2 => ?_)
            · refine AW.iinc1 100 dX8_findPowers_97 rfl (by rfl) rfl ?_
              refine AW.goto 2 dX8_findPowers_100 (by decide) ?_
              refine ihA (s + 1) (by omega) p _ _ _ _ (fun t ht z hz => ?_)
              rcases Nat.lt_or_ge t s with w | w
              · exact hp t w z hz
              · rw [show t = s by omega]; exact hq z (by omega)
            · omega
          | succ j ihB =>
            intro k hk p v4 v5 v6 hp hq
            have y196 := at_ne (a := 209) (e := lA 81 p) x196 (by decide)
            have y207 := at_ne (a := 209) (e := lA 81 p) x207 (by decide)
            have y209 : hs h 209 (lA 81 p) 209 = lA 81 p := hs_eq _ _ _
            have E : ∀ v6, AW X8_findPowers 78 [some (.ref 196), some (.int (nI n)), some (.int (nI s)), some (.int (nI k)), some (.long (pwF m s k)), none, v6] [] N (0, 0) (hs h 209 (lA 81 p)) P := by
              intro v6
              refine AW.aload_n 79 dX8_findPowers_78 rfl (by rfl) ?_
              refine AW.getfield 82 dX8_findPowers_79 rfl fl_X8_47 (by assumption) (by rfl) ?_
              refine AW.bipush 84 dX8_findPowers_82 rfl (nI 9) rfl ?_
              refine AW.iload_n 85 dX8_findPowers_84 rfl (by rfl) ?_
              first | refine AW.imulN 86 dX8_findPowers_85 rfl ?_ | refine AW.imul 86 dX8_findPowers_85 rfl ?_
              refine AW.iload_n 87 dX8_findPowers_86 rfl (by rfl) ?_
              first | refine AW.iaddN 88 dX8_findPowers_87 rfl ?_ | refine AW.iadd 88 dX8_findPowers_87 rfl ?_
              refine AW.lload 90 dX8_findPowers_88 rfl (by rfl) ?_
              refine AW.lastore 91 _ dX8_findPowers_90 rfl (by assumption) (ix_nI (by omega)) (by omega) ?_
              refine AW.iinc1 94 dX8_findPowers_91 rfl (by rfl) rfl ?_
              refine AW.goto 10 dX8_findPowers_94 (by decide) ?_
              rw [hs_hs]
              refine ihB (k + 1) (by omega) (upL p (9 * s + k) (pwF m s k)) _ _ _ (fun t ht z hz => ?_) (fun z hz => ?_)
              · rw [upL, if_neg (by omega)]
                exact hp t ht z hz
              · rw [upL]
                by_cases e : z = k
                · rw [if_pos (by omega), e]
                · rw [if_neg (by omega)]
                  exact hq z (by omega)
            refine AW.iload_n 11 dX8_findPowers_10 rfl (by rfl) ?_
            refine AW.iload_n 12 dX8_findPowers_11 rfl (by rfl) ?_
            refine AW.ngt 97 15 dX8_findPowers_12 (by decide) rfl (by omega) (by omega) (fun c2 => ?_) (fun c2 => ?_)
            · omega
            · refine AW.iload_n 16 dX8_findPowers_15 rfl (by rfl) ?_
              have C : ∀ q : Int64, q = pwF m 0 0 ∧ k = 0 ∨ q = 0 ∧ (s ≠ 0 ∨ k ≠ 0) → (s = 0 → q = pwF m s k) → (s ≠ 0 → q = 0) → AW X8_findPowers 28 [some (.ref 196), some (.int (nI n)), some (.int (nI s)), some (.int (nI k)), v4, v5, v6] [.long q] N (0, 0) (hs h 209 (lA 81 p)) P := by
                intro q _ h0 h1
                rcases s with _ | s
                · have e := h0 rfl
                  subst e
                  refine AW.lstore 30 dX8_findPowers_28 rfl (Nat.le_of_ble_eq_true rfl) rfl ?_
                  refine AW.iconst 31 dX8_findPowers_30 rfl (nI 0) rfl ?_
                  refine AW.istore 33 dX8_findPowers_31 rfl (Nat.le_of_ble_eq_true rfl) rfl ?_
                  refine AW.iload 35 dX8_findPowers_33 rfl (by rfl) ?_
                  refine AW.iload_n 36 dX8_findPowers_35 rfl (by rfl) ?_
                  refine AW.ngt 78 39 dX8_findPowers_36 (by decide) rfl (by omega) (by omega) (fun c3 => ?_) (fun c3 => ?_)
                  · exact E _
                  · refine AW.iload_n 40 dX8_findPowers_39 rfl (by rfl) ?_
                    refine AW.if_le 78 43 dX8_findPowers_40 (by decide) rfl (fun c4 => ?_) (fun c4 => ?_)
                    · exact E _
                    · exact absurd (show nI 0 ≤ 0 by decide) c4
                · have e := h1 (by omega)
                  subst e
                  refine AW.lstore 30 dX8_findPowers_28 rfl (Nat.le_of_ble_eq_true rfl) rfl ?_
                  refine AW.iconst 31 dX8_findPowers_30 rfl (nI 0) rfl ?_
                  refine AW.istore 33 dX8_findPowers_31 rfl (Nat.le_of_ble_eq_true rfl) rfl ?_
                  have M : ∀ j i, i + j = k + 1 → AW X8_findPowers 33 [some (.ref 196), some (.int (nI n)), some (.int (nI (s + 1))), some (.int (nI k)), some (.long (sumL (fun i => m i * pwF m s (k - i)) i)), none, some (.int (nI i))] [] N (0, 0) (hs h 209 (lA 81 p)) P := by
                    intro j
                    induction j with
                    | zero =>
                      intro i hi
                      refine AW.iload 35 dX8_findPowers_33 rfl (by rfl) ?_
                      refine AW.iload_n 36 dX8_findPowers_35 rfl (by rfl) ?_
                      refine AW.ngt 78 39 dX8_findPowers_36 (by decide) rfl (by omega) (by omega) (fun c3 => ?_) (fun c3 => ?_)
                      · obtain rfl : i = k + 1 := by omega
                        exact E _
                      · omega
                    | succ j ihM =>
                      intro i hi
                      refine AW.iload 35 dX8_findPowers_33 rfl (by rfl) ?_
                      refine AW.iload_n 36 dX8_findPowers_35 rfl (by rfl) ?_
                      refine AW.ngt 78 39 dX8_findPowers_36 (by decide) rfl (by omega) (by omega) (fun c3 => ?_) (fun c3 => ?_)
                      · omega
                      · refine AW.iload_n 40 dX8_findPowers_39 rfl (by rfl) ?_
                        refine AW.if_le 78 43 dX8_findPowers_40 (by decide) rfl (fun c4 => ?_) (fun c4 => ?_)
                        · exact absurd c4 (by rw [Int32.le_iff_toInt_le, nI_toInt (by omega)]; show ¬ ((s + 1 : Nat) : Int) ≤ 0; omega)
                        · refine AW.lload 45 dX8_findPowers_43 rfl (by rfl) ?_
                          refine AW.aload_n 46 dX8_findPowers_45 rfl (by rfl) ?_
                          refine AW.getfield 49 dX8_findPowers_46 rfl fl_X8_40 (by assumption) (by rfl) ?_
                          refine AW.iload 51 dX8_findPowers_49 rfl (by rfl) ?_
                          refine AW.laload 52 _ dX8_findPowers_51 rfl (by assumption) rfl (ix_nI (by omega)) (by omega) ?_
                          refine AW.aload_n 53 dX8_findPowers_52 rfl (by rfl) ?_
                          refine AW.getfield 56 dX8_findPowers_53 rfl fl_X8_47 (by assumption) (by rfl) ?_
                          refine AW.bipush 58 dX8_findPowers_56 rfl (nI 9) rfl ?_
                          refine AW.iload_n 59 dX8_findPowers_58 rfl (by rfl) ?_
                          refine AW.iconst 60 dX8_findPowers_59 rfl (nI 1) rfl ?_
                          first | refine AW.isubN 61 dX8_findPowers_60 rfl (by omega) ?_ | refine AW.isub 61 dX8_findPowers_60 rfl ?_
                          first | refine AW.imulN 62 dX8_findPowers_61 rfl ?_ | refine AW.imul 62 dX8_findPowers_61 rfl ?_
                          refine AW.iload_n 63 dX8_findPowers_62 rfl (by rfl) ?_
                          first | refine AW.iaddN 64 dX8_findPowers_63 rfl ?_ | refine AW.iadd 64 dX8_findPowers_63 rfl ?_
                          refine AW.iload 66 dX8_findPowers_64 rfl (by rfl) ?_
                          first | refine AW.isubN 67 dX8_findPowers_66 rfl (by omega) ?_ | refine AW.isub 67 dX8_findPowers_66 rfl ?_
                          refine AW.laload 68 _ dX8_findPowers_67 rfl (by assumption) rfl (ix_nI (by omega)) (by omega) ?_
                          rw [show 9 * (s + 1 - 1) + k - i = 9 * s + (k - i) by omega, hp s (by omega) (k - i) (by omega)]
                          refine AW.lmul 69 dX8_findPowers_68 rfl ?_
                          refine AW.ladd 70 dX8_findPowers_69 rfl ?_
                          refine AW.lstore 72 dX8_findPowers_70 rfl (Nat.le_of_ble_eq_true rfl) rfl ?_
                          refine AW.iinc1 75 dX8_findPowers_72 rfl (by rfl) rfl ?_
                          refine AW.goto 33 dX8_findPowers_75 (by decide) ?_
                          exact ihM (i + 1) (by omega)
                  exact M (k + 1) 0 (by omega)
              refine AW.ine 27 19 dX8_findPowers_16 (by decide) rfl (by omega) (fun c3 => ?_) (fun c3 => ?_)
              · refine AW.lconst 28 dX8_findPowers_27 rfl 0 rfl ?_
                exact C 0 (Or.inr ⟨rfl, Or.inl c3⟩) (fun e => absurd e c3) (fun _ => rfl)
              · refine AW.iload_n 20 dX8_findPowers_19 rfl (by rfl) ?_
                refine AW.ine 27 23 dX8_findPowers_20 (by decide) rfl (by omega) (fun c4 => ?_) (fun c4 => ?_)
                · refine AW.lconst 28 dX8_findPowers_27 rfl 0 rfl ?_
                  refine C 0 (Or.inr ⟨rfl, Or.inr c4⟩) (fun e => ?_) (fun _ => rfl)
                  rw [e, pwF, if_neg c4]
                · refine AW.lconst 24 dX8_findPowers_23 rfl 1 rfl ?_
                  refine AW.goto 28 dX8_findPowers_24 (by decide) ?_
                  refine C 1 (Or.inl ⟨rfl, c4⟩) (fun e => ?_) (fun e => absurd c3 e)
                  rw [e, pwF, if_pos c4]
        exact B (n + 1) 0 (by omega) p _ _ _ hp (fun z hz => by omega)
  have := A 9 0 (by omega) p none none none none (fun t ht => by omega)
  rw [hs_self x209] at this
  exact this
theorem r_timesOf {ps ty la ma at_ fa od : Int32} {d : Int64} {m p : Nat → Int64} {kind size : Nat} (x196 : h 196 = modO ps ty la ma at_ fa od d) (x207 : h 207 = lA 9 m) (x209 : h 209 = lA 81 p) (hk : kind = 1 ∨ kind = 2) (hn : n ≤ 8) (h1 : 1 ≤ size) (h2 : size ≤ n) (hp : PwAt p m (n - 1)) (hP : P (some (.long (tmF kind n size m))) N h) : AM X8_timesOf [.ref 196, .int (nI kind), .int (nI n), .int (nI size)] N h P := by
  refine AM.of0 rfl (Nat.le_of_ble_eq_true rfl) rfl [some (.ref 196), some (.int (nI kind)), some (.int (nI n)), some (.int (nI size))] rfl ?_
  refine AW.iload_n 1 dX8_timesOf_0 rfl (by rfl) ?_
  refine AW.iconst 2 dX8_timesOf_1 rfl (nI 1) rfl ?_
  refine AW.nne 21 5 dX8_timesOf_2 (by decide) rfl (by omega) (by omega) (fun c => ?_) (fun c => ?_)
  · refine AW.iload_n 22 dX8_timesOf_21 rfl (by rfl) ?_
    refine AW.iconst 23 dX8_timesOf_22 rfl (nI 1) rfl ?_
    first | refine AW.isubN 24 dX8_timesOf_23 rfl (by omega) ?_ | refine AW.isub 24 dX8_timesOf_23 rfl ?_
    refine AW.iload_n 25 dX8_timesOf_24 rfl (by rfl) ?_
    refine AW.iconst 26 dX8_timesOf_25 rfl (nI 1) rfl ?_
    first | refine AW.isubN 27 dX8_timesOf_26 rfl (by omega) ?_ | refine AW.isub 27 dX8_timesOf_26 rfl ?_
    refine AW.cS2 30 dX8_timesOf_27 rfl mi_X8_choose ms_X8_choose lk_X8_203 ⟨(Nat.le_of_ble_eq_true rfl), (Nat.le_of_ble_eq_true rfl)⟩ rfl (Nat.le_of_ble_eq_true rfl) (r_choose (by omega) (by omega) ?_)
    refine AW.aload_n 31 dX8_timesOf_30 rfl (by rfl) ?_
    refine AW.getfield 34 dX8_timesOf_31 rfl fl_X8_40 (by assumption) (by rfl) ?_
    refine AW.iload_n 35 dX8_timesOf_34 rfl (by rfl) ?_
    refine AW.iload_n 36 dX8_timesOf_35 rfl (by rfl) ?_
    first | refine AW.isubN 37 dX8_timesOf_36 rfl (by omega) ?_ | refine AW.isub 37 dX8_timesOf_36 rfl ?_
    refine AW.laload 38 _ dX8_timesOf_37 rfl (by assumption) rfl (ix_nI (by omega)) (by omega) ?_
    refine AW.lmul 39 dX8_timesOf_38 rfl ?_
    refine AW.lret dX8_timesOf_39 rfl ?_
    rw [tmF, if_neg c] at hP
    exact hP
  · refine AW.aload_n 6 dX8_timesOf_5 rfl (by rfl) ?_
    refine AW.getfield 9 dX8_timesOf_6 rfl fl_X8_47 (by assumption) (by rfl) ?_
    refine AW.bipush 11 dX8_timesOf_9 rfl (nI 9) rfl ?_
    refine AW.iload_n 12 dX8_timesOf_11 rfl (by rfl) ?_
    first | refine AW.imulN 13 dX8_timesOf_12 rfl ?_ | refine AW.imul 13 dX8_timesOf_12 rfl ?_
    refine AW.iload_n 14 dX8_timesOf_13 rfl (by rfl) ?_
    first | refine AW.iaddN 15 dX8_timesOf_14 rfl ?_ | refine AW.iadd 15 dX8_timesOf_14 rfl ?_
    refine AW.iload_n 16 dX8_timesOf_15 rfl (by rfl) ?_
    first | refine AW.isubN 17 dX8_timesOf_16 rfl (by omega) ?_ | refine AW.isub 17 dX8_timesOf_16 rfl ?_
    refine AW.laload 18 _ dX8_timesOf_17 rfl (by assumption) rfl (ix_nI (by omega)) (by omega) ?_
    rw [show 9 * size + n - size = 9 * size + (n - size) by omega, hp size (by omega) (n - size) (by omega)]
    refine AW.goto 39 dX8_timesOf_18 (by decide) ?_
    refine AW.lret dX8_timesOf_39 rfl ?_
    rw [tmF, if_pos c] at hP
    exact hP
end REFL
