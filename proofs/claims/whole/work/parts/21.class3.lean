/-! THE CLASS: labels, numbers, text, undoing, counts, digest -/
/-- run the orders from the i-th on, k of them: the first refused one, or none, and the state then -/
def rnO (lt : Nat → Int32) (vl : Nat → Nat → Int32) : Nat → Nat → aS → Option Nat × aS
  | 0, _, σ => (none, σ)
  | k + 1, i, σ => if (carR σ (cl (lt i)) (vl i)).1 < 0 then (some i, σ) else rnO lt vl k (i + 1) (carR σ (cl (lt i)) (vl i)).2
def doR (X : aX) (t : Option Nat × Nat × (Nat → Int32) × (Nat → Nat → Int32)) : Int32 × aX := match t.1 with
  | some e => (-10 - nI e, X)
  | none => match (rnO t.2.2.1 t.2.2.2 t.2.1 0 X.1).1 with
    | some i => (-1000 - nI i, X)
    | none => (nI t.2.1, ((rnO t.2.2.1 t.2.2.2 t.2.1 0 X.1).2, psU X.2.1 X.1, X.2.2))
def fldL (f : Nat → Int64) : Nat → Int64 → Int64
  | 0, h => h
  | k + 1, h => 31 * fldL f k h + f k
def dgK (x : Nat → Int32) (j k : Nat) (h : Int64) : Int64 := fldL (fun i => asF j k x (i + 1)) 8 h
def dgS (σ : aS) (s : Nat) (h : Int64) : Int64 := fldL (fun x => (nI (cr σ.1 (σ.2.1 s) x)).toInt64) σ.1 (fldL (fun w => (nI (propF σ.1 (σ.2.1 s) w)).toInt64) 6 h)
def dgT (σ : aS) : Nat → Int64 → Int64
  | 0, h => h
  | s + 1, h => dgS σ s (dgT σ s h)
def digD (X : aX) (d : Int64) : Int64 := dgK X.1.2.2 2 0 (dgK X.1.2.2 1 0 (dgK X.1.2.2 0 2 (dgK X.1.2.2 0 1 (fldL (fun i => (X.1.2.2 i).toInt64) 8 (dgT X.1 6 (fldL (fun w => (amtF X.1.1 w).toInt64) 10 (fldL (fun w => (tldF X w).toInt64) 5 d)))))))
def digR (X : aX) : Int64 := digD X 2413
section CLS3
variable {N : Nat} {h : aH} {P : aP} {X : aX}
theorem c_isLabels {v : Int32} (K : ClsAt h X) (hP : P (some (.int (nI (b01 (ngB v && labF (X.1.1 - 1) (cl v)))))) N h) : AM X7_isLabels [.ref 3, .int v] N h P := by
  have k3 := K.2.2.1
  have k4 := K.2.2.2.1.1
  have k5 := K.2.2.2.1.2.1.1
  have hn := K.2.2.2.1.2.1.2.2.2.2.2.1
  have hn1 := K.2.2.2.1.2.1.2.2.2.2.1
  refine AM.of0 rfl (Nat.le_of_ble_eq_true rfl) rfl [some (.ref 3), some (.int v), none, none] rfl ?_
  refine AW.iload_n 1 dX7_isLabels_0 rfl (by rfl) ?_
  refine AW.if_ge 6 4 dX7_isLabels_1 (by decide) rfl (fun c => ?_) (fun c => ?_)
  · obtain ⟨v', hv', rfl⟩ := nI_of (Int32.not_lt.mpr c)
    rw [show ngB (nI v') = true from decide_eq_true c, Bool.true_and, cl_nI hv'] at hP
    refine AW.iload_n 7 dX7_isLabels_6 rfl (by rfl) ?_
    refine AW.istore_n 8 dX7_isLabels_7 rfl (Nat.le_of_ble_eq_true rfl) rfl ?_
    refine AW.iconst 9 dX7_isLabels_8 rfl (nI 1) rfl ?_
    refine AW.istore_n 10 dX7_isLabels_9 rfl (Nat.le_of_ble_eq_true rfl) rfl ?_
    have L : ∀ k i w, i + k + 1 = X.1.1 → w < 2147483648 → labF k w = labF (X.1.1 - 1) v' → AW X7_isLabels 10 [some (.ref 3), some (.int (nI v')), some (.int (nI w)), some (.int (nI (i + 1)))] [] N (0, 0) h P := by
      intro k
      induction k with
      | zero =>
        intro i w hi hw he
        have he : decide (w = 0) = labF (X.1.1 - 1) v' := he
        refine AW.iload_n 11 dX7_isLabels_10 rfl (by rfl) ?_
        refine AW.aload_n 12 dX7_isLabels_11 rfl (by rfl) ?_
        refine AW.getfield 15 dX7_isLabels_12 rfl fl_X7_10 (by assumption) (by rfl) ?_
        refine AW.getfield 18 dX7_isLabels_15 rfl fl_X7_47 (by assumption) (by rfl) ?_
        refine AW.getfield 21 dX7_isLabels_18 rfl fl_X7_113 (by assumption) (by rfl) ?_
        refine AW.nge 46 24 dX7_isLabels_21 (by decide) rfl (by omega) (by omega) (fun c2 => ?_) (fun c2 => ?_)
        · refine AW.iload_n 47 dX7_isLabels_46 rfl (by rfl) ?_
          refine AW.ine 54 50 dX7_isLabels_47 (by decide) rfl (by omega) (fun c3 => ?_) (fun c3 => ?_)
          · rw [b01_f (by rw [← he]; exact decide_eq_false c3)] at hP
            refine AW.iconst 55 dX7_isLabels_54 rfl (nI 0) rfl ?_
            refine AW.zret dX7_isLabels_55 rfl (by first | exact z_0 | exact z_1 | exact z_b01 _ | assumption) ?_
            exact hP
          · rw [b01_t (by rw [← he]; exact decide_eq_true c3)] at hP
            refine AW.iconst 51 dX7_isLabels_50 rfl (nI 1) rfl ?_
            refine AW.goto 55 dX7_isLabels_51 (by decide) ?_
            refine AW.zret dX7_isLabels_55 rfl (by first | exact z_0 | exact z_1 | exact z_b01 _ | assumption) ?_
            exact hP
        · omega
      | succ k ih =>
        intro i w hi hw he
        rw [labF] at he
        refine AW.iload_n 11 dX7_isLabels_10 rfl (by rfl) ?_
        refine AW.aload_n 12 dX7_isLabels_11 rfl (by rfl) ?_
        refine AW.getfield 15 dX7_isLabels_12 rfl fl_X7_10 (by assumption) (by rfl) ?_
        refine AW.getfield 18 dX7_isLabels_15 rfl fl_X7_47 (by assumption) (by rfl) ?_
        refine AW.getfield 21 dX7_isLabels_18 rfl fl_X7_113 (by assumption) (by rfl) ?_
        refine AW.nge 46 24 dX7_isLabels_21 (by decide) rfl (by omega) (by omega) (fun c2 => ?_) (fun c2 => ?_)
        · omega
        · refine AW.iload_n 25 dX7_isLabels_24 rfl (by rfl) ?_
          refine AW.bipush 27 dX7_isLabels_25 rfl (nI 10) rfl ?_
          refine AW.iremN 28 dX7_isLabels_27 rfl (by omega) (by omega) (by omega) ?_
          refine AW.bipush 30 dX7_isLabels_28 rfl (nI 7) rfl ?_
          refine AW.nle 35 33 dX7_isLabels_30 (by decide) rfl (by omega) (by omega) (fun c3 => ?_) (fun c3 => ?_)
          · rw [decide_eq_true c3, Bool.true_and] at he
            refine AW.iload_n 36 dX7_isLabels_35 rfl (by rfl) ?_
            refine AW.bipush 38 dX7_isLabels_36 rfl (nI 10) rfl ?_
            refine AW.idivN 39 dX7_isLabels_38 rfl (by omega) (by omega) (by omega) ?_
            refine AW.istore_n 40 dX7_isLabels_39 rfl (Nat.le_of_ble_eq_true rfl) rfl ?_
            refine AW.iinc1 43 dX7_isLabels_40 rfl (by rfl) rfl ?_
            refine AW.goto 10 dX7_isLabels_43 (by decide) ?_
            exact ih (i + 1) (w / 10) (by omega) (by omega) he
          · rw [decide_eq_false (show ¬ w % 10 ≤ 7 by omega), Bool.false_and] at he
            rw [b01_f he.symm] at hP
            refine AW.iconst 34 dX7_isLabels_33 rfl (nI 0) rfl ?_
            refine AW.zret dX7_isLabels_34 rfl (by first | exact z_0 | exact z_1 | exact z_b01 _ | assumption) ?_
            exact hP
    exact L (X.1.1 - 1) 0 v' (by omega) hv' rfl
  · rw [show ngB v = false from decide_eq_false c, Bool.false_and] at hP
    refine AW.iconst 5 dX7_isLabels_4 rfl (nI 0) rfl ?_
    refine AW.zret dX7_isLabels_5 rfl (by first | exact z_0 | exact z_1 | exact z_b01 _ | assumption) ?_
    exact hP
theorem c_marked {v : Int32} (K : ClsAt h X) (hP : ∀ h', ClsAt h' (markedR X v).2 → FrC h h' → P (some (.int (markedR X v).1)) N h') : AM X7_marked [.ref 3, .int v] N h P := by
  have k3 := K.2.2.1
  have k4 := K.2.2.2.1.1
  refine AM.of0 rfl (Nat.le_of_ble_eq_true rfl) rfl [some (.ref 3), some (.int v)] rfl ?_
  refine AW.aload_n 1 dX7_marked_0 rfl (by rfl) ?_
  refine AW.iload_n 2 dX7_marked_1 rfl (by rfl) ?_
  refine AW.cV1 5 dX7_marked_2 rfl mi_X7_isLabels mv_X7_isLabels lk_X7_151 ⟨(Nat.le_of_ble_eq_true rfl), (Nat.le_of_ble_eq_true rfl)⟩ rfl (by assumption) rfl (Nat.le_of_ble_eq_true rfl) (c_isLabels K ?_)
  refine AW.zne 13 8 dX7_marked_5 (by decide) rfl (fun c => ?_) (fun c => ?_)
  · rw [Bool.and_eq_true] at c
    obtain ⟨v', hv', rfl⟩ := nI_of (Int32.not_lt.mpr (of_decide_eq_true c.1))
    rw [markedR, c.1, c.2, Bool.and_self, if_pos rfl, cl_nI hv'] at hP
    refine AW.aload_n 14 dX7_marked_13 rfl (by rfl) ?_
    refine AW.getfield 17 dX7_marked_14 rfl fl_X7_10 (by assumption) (by rfl) ?_
    refine AW.iload_n 18 dX7_marked_17 rfl (by rfl) ?_
    refine AW.cV1 21 dX7_marked_18 rfl mi_X0_isParking mv_X0_isParking lk_X7_154 ⟨(Nat.le_of_ble_eq_true rfl), (Nat.le_of_ble_eq_true rfl)⟩ rfl (by assumption) rfl (Nat.le_of_ble_eq_true rfl) (c_isParking K.2.2.2.1 hv' ?_)
    refine AW.zeq 28 24 dX7_marked_21 (by decide) rfl (fun c2 => ?_) (fun c2 => ?_)
    · rw [b01_f c2] at hP
      refine AW.iconst 29 dX7_marked_28 rfl (nI 0) rfl ?_
      refine AW.iret dX7_marked_29 rfl ?_
      exact hP h K (fun _ _ => rfl)
    · rw [b01_t c2] at hP
      refine AW.iconst 25 dX7_marked_24 rfl (nI 1) rfl ?_
      refine AW.goto 29 dX7_marked_25 (by decide) ?_
      refine AW.iret dX7_marked_29 rfl ?_
      exact hP h K (fun _ _ => rfl)
  · rw [markedR, c] at hP
    refine AW.aload_n 9 dX7_marked_8 rfl (by rfl) ?_
    refine AW.cV0 12 dX7_marked_9 rfl mi_X7_bad mv_X7_bad lk_X7_86 ⟨(Nat.le_of_ble_eq_true rfl), (Nat.le_of_ble_eq_true rfl)⟩ rfl (by assumption) rfl (Nat.le_of_ble_eq_true rfl) (c_bad K (fun h' K' f' => ?_))
    refine AW.iret dX7_marked_12 rfl ?_
    exact hP h' K' f'
theorem ClsAt.ser {h' : aH} {w g m : Nat → Int64} {R : Nat} (K : ClsAt h X) (S : SerAt h' w g m R) (e : ∀ z, z < 183 ∨ 196 ≤ z → h' z = h z) : ClsAt h' X := by
  obtain ⟨k0, k1, k3, b, u, ⟨a, fd, lt, vl, o⟩, -⟩ := K
  exact ⟨by rw [e 0 (by omega), k0], by rw [e 1 (by omega), k1], by rw [e 3 (by omega), k3], b.same (fun z hz => e z (by omega)), u.same (fun z z1 z2 => e z (by omega)), ⟨a, fd, lt, vl, o.same (fun z z1 z2 => e z (by omega))⟩, w, g, m, R, S⟩
theorem c_as {j k n : Int32} (K : ClsAt h X) (hP : ∀ h', ClsAt h' (asR X j k n).2 → FrC h h' → P (some (.long (asR X j k n).1)) N h') : AM X7_as [.ref 3, .int j, .int k, .int n] N h P := by
  have k3 := K.2.2.1
  have k4 := K.2.2.2.1.1
  have k5 := K.2.2.2.1.2.1.1
  have k19 : h 19 = .inl (0, (8, .inl X.1.2.2)) := K.2.2.2.1.2.1.2.2.2.1
  obtain ⟨w0, g0, m0, R0, S0⟩ := K.2.2.2.2.2.2
  refine AM.of0 rfl (Nat.le_of_ble_eq_true rfl) rfl [some (.ref 3), some (.int j), some (.int k), some (.int n)] rfl ?_
  have F : (inB 3 j && (inB 3 k && rgB 1 8 n)) = false → AW X7_as 29 [some (.ref 3), some (.int j), some (.int k), some (.int n)] [] N (0, 0) h P := by
    intro e
    rw [asR, e] at hP
    refine AW.aload_n 30 dX7_as_29 rfl (by rfl) ?_
    refine AW.dup 31 dX7_as_30 rfl rfl ?_
    refine AW.getfield 34 dX7_as_31 rfl fl_X7_37 (by assumption) (by rfl) ?_
    refine AW.iconst 35 dX7_as_34 rfl (nI 1) rfl ?_
    first | refine AW.iaddN 36 dX7_as_35 rfl ?_ | refine AW.iadd 36 dX7_as_35 rfl ?_
    refine AW.putfield 39 dX7_as_36 rfl fl_X7_37 (by assumption) (Nat.le_of_ble_eq_true rfl) (fun _ => ⟨rfl, rfl⟩) ?_
    refine AW.heap (hs h 3 (clsO (X.2.2.1.1 + 1) X.2.2.1.2.1 X.2.2.1.2.2)) rfl ?_
    refine AW.ldc2 42 dX7_as_39 rfl kl_X7_166 ?_
    refine AW.lret dX7_as_42 rfl ?_
    exact hP _ (K.cnt (c := (X.2.2.1.1 + 1, X.2.2.1.2))) (fun z hz => hs_ne (by omega))
  refine AW.iload_n 1 dX7_as_0 rfl (by rfl) ?_
  refine AW.if_lt 29 4 dX7_as_1 (by decide) rfl (fun c1 => ?_) (fun c1 => ?_)
  · exact F (by rw [inB_f (by omega) (Or.inl c1)]; rfl)
  · refine AW.iload_n 5 dX7_as_4 rfl (by rfl) ?_
    refine AW.iconst 6 dX7_as_5 rfl (nI 3) rfl ?_
    refine AW.icmp_ge 29 9 dX7_as_6 (by decide) rfl (fun c2 => ?_) (fun c2 => ?_)
    · exact F (by rw [inB_f (by omega) (Or.inr c2)]; rfl)
    · refine AW.iload_n 10 dX7_as_9 rfl (by rfl) ?_
      refine AW.if_lt 29 13 dX7_as_10 (by decide) rfl (fun c3 => ?_) (fun c3 => ?_)
      · exact F (by rw [inB_f (x := k) (by omega) (Or.inl c3), Bool.false_and, Bool.and_false])
      · refine AW.iload_n 14 dX7_as_13 rfl (by rfl) ?_
        refine AW.iconst 15 dX7_as_14 rfl (nI 3) rfl ?_
        refine AW.icmp_ge 29 18 dX7_as_15 (by decide) rfl (fun c4 => ?_) (fun c4 => ?_)
        · exact F (by rw [inB_f (x := k) (by omega) (Or.inr c4), Bool.false_and, Bool.and_false])
        · have t1 : (nI 1).toInt = 1 := rfl
          have t8 : (nI 8).toInt = 8 := rfl
          refine AW.iload_n 19 dX7_as_18 rfl (by rfl) ?_
          refine AW.iconst 20 dX7_as_19 rfl (nI 1) rfl ?_
          refine AW.icmp_lt 29 23 dX7_as_20 (by decide) rfl (fun c5 => ?_) (fun c5 => ?_)
          · have := Int32.lt_iff_toInt_lt.mp c5
            exact F (by rw [rgB_f (x := n) (by omega), Bool.and_false, Bool.and_false])
          · have d1 := Int32.le_iff_toInt_le.mp (Int32.not_lt.mp c5)
            refine AW.iload_n 24 dX7_as_23 rfl (by rfl) ?_
            refine AW.bipush 26 dX7_as_24 rfl (nI 8) rfl ?_
            refine AW.icmp_le 43 29 dX7_as_26 (by decide) rfl (fun c6 => ?_) (fun c6 => ?_)
            · have d2 := Int32.le_iff_toInt_le.mp c6
              rcases inB_cases (m := 3) (by omega) j with ⟨j', hj', rfl, e1⟩ | ⟨z, -⟩
              · rcases inB_cases (m := 3) (by omega) k with ⟨k', hk', rfl, e2⟩ | ⟨z, -⟩
                · obtain ⟨m, hm, rfl⟩ : ∃ m, m < 9 ∧ n = nI m := by
                    rcases pk_ix n (n := 9) (by omega) with z | z | z
                    · have := Int32.lt_iff_toInt_lt.mp z
                      rw [show (0 : Int32).toInt = 0 from rfl] at this
                      omega
                    · have := Int32.le_iff_toInt_le.mp z
                      rw [show (nI 9).toInt = 9 from rfl] at this
                      omega
                    · exact z
                  have em : (nI m).toInt = (m : Int) := nI_toInt (by omega)
                  have eR : asR X (nI j') (nI k') (nI m) = (asF j' k' X.1.2.2 m, X) := by
                    rw [asR, e1, e2, rgB_t (by omega) (by omega), Bool.and_self, Bool.and_self, if_pos rfl, cl_nI (by omega), cl_nI (by omega), cl_nI (by omega)]
                  rw [eR] at hP
                  refine AW.aload_n 44 dX7_as_43 rfl (by rfl) ?_
                  refine AW.getfield 47 dX7_as_44 rfl fl_X7_33 (by assumption) (by rfl) ?_
                  refine AW.aload_n 48 dX7_as_47 rfl (by rfl) ?_
                  refine AW.getfield 51 dX7_as_48 rfl fl_X7_10 (by assumption) (by rfl) ?_
                  refine AW.getfield 54 dX7_as_51 rfl fl_X7_47 (by assumption) (by rfl) ?_
                  refine AW.getfield 57 dX7_as_54 rfl fl_X7_168 (by assumption) (by rfl) ?_
                  refine AW.iload_n 58 dX7_as_57 rfl (by rfl) ?_
                  refine AW.iload_n 59 dX7_as_58 rfl (by rfl) ?_
                  have x182 := S0.1
                  refine AW.cV3 62 dX7_as_59 rfl mi_X5_convert mv_X5_convert lk_X7_171 ⟨(Nat.le_of_ble_eq_true rfl), (Nat.le_of_ble_eq_true rfl)⟩ rfl (by assumption) rfl (Nat.le_of_ble_eq_true rfl) (c_convert S0 hj' hk' (by decide) k19 (fun h1 w g m1 R S1 hw f1 => ?_))
                  have K1 := K.ser S1 f1
                  have y3 := K1.2.2.1
                  have y182 := S1.1
                  have y183 := S1.2.1
                  refine AW.aload_n 63 dX7_as_62 rfl (by rfl) ?_
                  refine AW.getfield 66 dX7_as_63 rfl fl_X7_33 (by assumption) (by rfl) ?_
                  refine AW.getfield 69 dX7_as_66 rfl fl_X7_175 (by assumption) (by rfl) ?_
                  refine AW.iload_n 70 dX7_as_69 rfl (by rfl) ?_
                  refine AW.laload 71 _ dX7_as_70 rfl (by assumption) rfl (ix_nI (by omega)) (by omega) ?_
                  rw [hw m (by omega) (by omega)]
                  refine AW.lret dX7_as_71 rfl ?_
                  exact hP h1 K1 (fun z hz => f1 z (by omega))
                · rcases z with z | z
                  · exact absurd z c3
                  · exact absurd z c4
              · rcases z with z | z
                · exact absurd z c1
                · exact absurd z c2
            · have d2 := Int32.lt_iff_toInt_lt.mp (Int32.not_le.mp c6)
              exact F (by rw [rgB_f (x := n) (by omega), Bool.and_false, Bool.and_false])
theorem ClsAt.ord {h' : aH} {tx : Nat → Nat} {len a fd : Nat} {lt : Nat → Int32} {vl : Nat → Nat → Int32} (K : ClsAt h X) (O : OrdAt h' tx len a fd lt vl) (e : ∀ z, z < 138 ∨ 182 ≤ z → h' z = h z) : ClsAt h' (X.1, X.2.1, X.2.2.1, (tx, len)) := by
  obtain ⟨k0, k1, k3, b, u, -, w, g, m, R, s⟩ := K
  exact ⟨by rw [e 0 (by omega), k0], by rw [e 1 (by omega), k1], by rw [e 3 (by omega), k3], b.same (fun z hz => e z (by omega)), u.same (fun z z1 z2 => e z (by omega)), ⟨a, fd, lt, vl, O⟩, w, g, m, R, s.same (fun z z1 z2 => e z (by omega))⟩
theorem c_type {c : Int32} (K : ClsAt h X) (hP : ∀ h', ClsAt h' (typeR X c).2 → FrC h h' → P (some (.int (typeR X c).1)) N h') : AM X7_type [.ref 3, .int c] N h P := by
  have k3 := K.2.2.1
  obtain ⟨a, fd, lt, vl, O⟩ := K.2.2.2.2.2.1
  have o1 := O.1
  have o6 := O.2.2.2.2.2.1
  refine AM.of0 rfl (Nat.le_of_ble_eq_true rfl) rfl [some (.ref 3), some (.int c)] rfl ?_
  have F : inB 128 c = false → AW X7_type 10 [some (.ref 3), some (.int c)] [] N (0, 0) h P := by
    intro e
    rw [typeR, e] at hP
    refine AW.aload_n 11 dX7_type_10 rfl (by rfl) ?_
    refine AW.cV0 14 dX7_type_11 rfl mi_X7_bad mv_X7_bad lk_X7_86 ⟨(Nat.le_of_ble_eq_true rfl), (Nat.le_of_ble_eq_true rfl)⟩ rfl (by assumption) rfl (Nat.le_of_ble_eq_true rfl) (c_bad K (fun h' K' f' => ?_))
    refine AW.iret dX7_type_14 rfl ?_
    exact hP h' K' f'
  refine AW.iload_n 1 dX7_type_0 rfl (by rfl) ?_
  refine AW.if_lt 10 4 dX7_type_1 (by decide) rfl (fun c1 => ?_) (fun c1 => ?_)
  · exact F (inB_f (by omega) (Or.inl c1))
  · refine AW.iload_n 5 dX7_type_4 rfl (by rfl) ?_
    refine AW.bipush 7 dX7_type_5 rfl (nI 127) rfl ?_
    refine AW.icmp_le 15 10 dX7_type_7 (by decide) rfl (fun c2 => ?_) (fun c2 => ?_)
    · rcases inB_cases (m := 128) (by omega) c with ⟨c', hc', rfl, e1⟩ | ⟨z, -⟩
      · rw [typeR, e1, if_pos rfl, cl_nI (by omega)] at hP
        refine AW.aload_n 16 dX7_type_15 rfl (by rfl) ?_
        refine AW.getfield 19 dX7_type_16 rfl fl_X7_26 (by assumption) (by rfl) ?_
        refine AW.getfield 22 dX7_type_19 rfl fl_X7_179 (by assumption) (by rfl) ?_
        refine AW.bipush 24 dX7_type_22 rfl (nI 120) rfl ?_
        refine AW.nlt 40 27 dX7_type_24 (by decide) rfl (by omega) (by omega) (fun c3 => ?_) (fun c3 => ?_)
        · rw [if_pos c3] at hP
          refine AW.aload_n 41 dX7_type_40 rfl (by rfl) ?_
          refine AW.getfield 44 dX7_type_41 rfl fl_X7_26 (by assumption) (by rfl) ?_
          refine AW.iload_n 45 dX7_type_44 rfl (by rfl) ?_
          refine AW.cV1 48 dX7_type_45 rfl mi_X2_append mv_X2_append lk_X7_182 ⟨(Nat.le_of_ble_eq_true rfl), (Nat.le_of_ble_eq_true rfl)⟩ rfl (by assumption) rfl (Nat.le_of_ble_eq_true rfl) (c_append O c3 hc' (fun h1 O1 f1 => ?_))
          have K1 := K.ord O1 f1
          have y3 := K1.2.2.1
          have y138 := O1.1
          refine AW.aload_n 49 dX7_type_48 rfl (by rfl) ?_
          refine AW.getfield 52 dX7_type_49 rfl fl_X7_26 (by assumption) (by rfl) ?_
          refine AW.getfield 55 dX7_type_52 rfl fl_X7_179 (by assumption) (by rfl) ?_
          refine AW.iret dX7_type_55 rfl ?_
          exact hP h1 K1 (fun z hz => f1 z (by omega))
        · rw [if_neg (by omega)] at hP
          refine AW.aload_n 28 dX7_type_27 rfl (by rfl) ?_
          refine AW.dup 29 dX7_type_28 rfl rfl ?_
          refine AW.getfield 32 dX7_type_29 rfl fl_X7_44 (by assumption) (by rfl) ?_
          refine AW.iconst 33 dX7_type_32 rfl (nI 1) rfl ?_
          first | refine AW.iaddN 34 dX7_type_33 rfl ?_ | refine AW.iadd 34 dX7_type_33 rfl ?_
          refine AW.putfield 37 dX7_type_34 rfl fl_X7_44 (by assumption) (Nat.le_of_ble_eq_true rfl) (fun _ => ⟨rfl, rfl⟩) ?_
          refine AW.heap (hs h 3 (clsO X.2.2.1.1 X.2.2.1.2.1 (X.2.2.1.2.2 + 1))) rfl ?_
          refine AW.bipush 39 dX7_type_37 rfl (-4) rfl ?_
          refine AW.iret dX7_type_39 rfl ?_
          exact hP _ (K.cnt (c := (X.2.2.1.1, X.2.2.1.2.1, X.2.2.1.2.2 + 1))) (fun z hz => hs_ne (by omega))
      · rcases z with z | z
        · exact absurd z c1
        · have h1 := Int32.le_iff_toInt_le.mp z
          have h2 := Int32.le_iff_toInt_le.mp c2
          rw [show (nI 128).toInt = 128 from rfl] at h1
          rw [show (nI 127).toInt = 127 from rfl] at h2
          omega
    · refine F (inB_f (by omega) (Or.inr ?_))
      have h2 := Int32.lt_iff_toInt_lt.mp (Int32.not_le.mp c2)
      rw [show (nI 127).toInt = 127 from rfl] at h2
      refine Int32.le_iff_toInt_le.mpr ?_
      rw [show (nI 128).toInt = 128 from rfl]
      omega
theorem c_clear (K : ClsAt h X) (hP : ∀ h', ClsAt h' (clearR X).2 → FrC h h' → P (some (.int (clearR X).1)) N h') : AM X7_clear [.ref 3] N h P := by
  have k3 := K.2.2.1
  obtain ⟨a, fd, lt, vl, O⟩ := K.2.2.2.2.2.1
  have o1 := O.1
  refine AM.of0 rfl (Nat.le_of_ble_eq_true rfl) rfl [some (.ref 3), none] rfl ?_
  refine AW.aload_n 1 dX7_clear_0 rfl (by rfl) ?_
  refine AW.getfield 4 dX7_clear_1 rfl fl_X7_26 (by assumption) (by rfl) ?_
  refine AW.getfield 7 dX7_clear_4 rfl fl_X7_179 (by assumption) (by rfl) ?_
  refine AW.istore_n 8 dX7_clear_7 rfl (Nat.le_of_ble_eq_true rfl) rfl ?_
  refine AW.aload_n 9 dX7_clear_8 rfl (by rfl) ?_
  refine AW.getfield 12 dX7_clear_9 rfl fl_X7_26 (by assumption) (by rfl) ?_
  refine AW.iconst 13 dX7_clear_12 rfl (nI 0) rfl ?_
  refine AW.putfield 16 dX7_clear_13 rfl fl_X7_179 (by assumption) (Nat.le_of_ble_eq_true rfl) (fun _ => ⟨rfl, rfl⟩) ?_
  refine AW.heap (hs h 138 (ordO 0 a fd)) rfl ?_
  refine AW.iload_n 17 dX7_clear_16 rfl (by rfl) ?_
  refine AW.iret dX7_clear_17 rfl ?_
  obtain ⟨o1, o2, o3, o4, o5, o6, o7⟩ := O
  exact hP _ (K.ord (tx := X.2.2.2.1) (len := 0) (a := a) (fd := fd) (lt := lt) (vl := vl) ⟨hs_eq _ _ _, by rw [hs_ne (by decide), o2], by rw [hs_ne (by decide), o3], by rw [hs_ne (by decide), o4], fun i hi => by rw [hs_ne (by omega), o5 i hi], Nat.zero_le _, o7⟩ (fun z hz => hs_ne (by omega))) (fun z hz => hs_ne (by omega))
theorem c_back (K : ClsAt h X) (hP : ∀ h', ClsAt h' (backR X).2 → FrC h h' → P (some (.int (backR X).1)) N h') : AM X7_back [.ref 3] N h P := by
  obtain ⟨k0, k1, k3, b, ⟨nx, ring, u1, u2⟩, ⟨a, fd, lt, vl, o⟩, w, g, m, R, s⟩ := id K
  have x46 := u1.1
  have hhd := u1.2.2.2.2
  have hnx := u1.2.2.2.1
  refine AM.of0 rfl (Nat.le_of_ble_eq_true rfl) rfl [some (.ref 3)] rfl ?_
  refine AW.aload_n 1 dX7_back_0 rfl (by rfl) ?_
  refine AW.getfield 4 dX7_back_1 rfl fl_X7_19 (by assumption) (by rfl) ?_
  refine AW.getfield 7 dX7_back_4 rfl fl_X7_213 (by assumption) (by rfl) ?_
  refine AW.ine 15 10 dX7_back_7 (by decide) rfl (by omega) (fun c => ?_) (fun c => ?_)
  · rw [backR, if_neg c] at hP
    refine AW.aload_n 16 dX7_back_15 rfl (by rfl) ?_
    refine AW.getfield 19 dX7_back_16 rfl fl_X7_19 (by assumption) (by rfl) ?_
    refine AW.cV0 22 dX7_back_19 rfl mi_X4_stepBack mv_X4_stepBack lk_X7_216 ⟨(Nat.le_of_ble_eq_true rfl), (Nat.le_of_ble_eq_true rfl)⟩ rfl (by assumption) rfl (Nat.le_of_ble_eq_true rfl) (c_stepBack u1 (by omega) (fun h1 q e => ?_))
    have x3 : h1 3 = _ := (e 3 (by decide)).trans k3
    have x4 : h1 4 = _ := (e 4 (by decide)).trans b.1
    have y46 := q.1
    have hnx1 := q.2.2.2.1
    refine AW.aload_n 23 dX7_back_22 rfl (by rfl) ?_
    refine AW.getfield 26 dX7_back_23 rfl fl_X7_10 (by assumption) (by rfl) ?_
    refine AW.getfield 29 dX7_back_26 rfl fl_X7_47 (by assumption) (by rfl) ?_
    refine AW.aload_n 30 dX7_back_29 rfl (by rfl) ?_
    refine AW.getfield 33 dX7_back_30 rfl fl_X7_19 (by assumption) (by rfl) ?_
    refine AW.cV0 36 dX7_back_33 rfl mi_X4_prepared mv_X4_prepared lk_X7_203 ⟨(Nat.le_of_ble_eq_true rfl), (Nat.le_of_ble_eq_true rfl)⟩ rfl (by assumption) rfl (Nat.le_of_ble_eq_true rfl) (c_prepared q ?_)
    have T := q.2.2.1 (nxD nx) hnx1
    have b2 : StateAt h1 5 X.1 := b.2.1.same (fun z z1 z2 => e z (by omega))
    have x5 := b2.1
    refine AW.cV1 39 dX7_back_36 rfl mi_X6_copy mv_X6_copy lk_X7_207 ⟨(Nat.le_of_ble_eq_true rfl), (Nat.le_of_ble_eq_true rfl)⟩ rfl (by assumption) rfl (Nat.le_of_ble_eq_true rfl) (c_stCopy b2 T (by omega) (fun h2 T2 e2 => ?_))
    have z3 : h2 3 = _ := (e2 3 (by omega)).trans x3
    have z46 : h2 46 = _ := (e2 46 (by omega)).trans y46
    have er : ring (nxD nx) = X.2.1.2 0 := by
      have := u2 0 (by omega)
      rw [← this]
      congr 1
      unfold nxD
      split <;> omega
    rw [er] at T2
    refine AW.aload_n 40 dX7_back_39 rfl (by rfl) ?_
    refine AW.getfield 43 dX7_back_40 rfl fl_X7_19 (by assumption) (by rfl) ?_
    refine AW.getfield 46 dX7_back_43 rfl fl_X7_213 (by assumption) (by rfl) ?_
    refine AW.iret dX7_back_46 rfl ?_
    have e12 : ∀ z, z < 5 ∨ (20 ≤ z ∧ z ≠ 46) → h2 z = h z := fun z hz => by rw [e2 z (by omega), e z (by omega)]
    refine hP h2 ⟨by rw [e12 0 (by omega), k0], by rw [e12 1 (by omega), k1], z3, ?_, ⟨nxD nx, ring, q.same (fun z z1 z2 => e2 z (by omega)), fun j hj => ?_⟩, ⟨a, fd, lt, vl, o.same (fun z z1 z2 => e12 z (by omega))⟩, w, g, m, R, s.same (fun z z1 z2 => e12 z (by omega))⟩ (fun z hz => e12 z (by omega))
    · obtain ⟨b1, -, lw, b4⟩ := b
      have B0 : BoardAt h X.1 := K.2.2.2.1
      refine ⟨by rw [e12 4 (by omega), b1], T2, ?_, ?_⟩
      · obtain ⟨w1, ⟨f2, w2⟩, ⟨f3, w3⟩, ⟨f4, w4⟩, w5, w6, w7, w8, w9, w10, w11⟩ := lw
        have pa : ∀ {p q : Nat}, 20 ≤ p → p < 46 → 20 ≤ q → q < 46 → PartAt h p q → PartAt h2 p q := fun hp hp2 hq hq2 ⟨m, f, g1, g2, g3⟩ => ⟨m, f, by rw [e12 _ (by omega), g1], by rw [e12 _ (by omega), g2], g3⟩
        exact ⟨by rw [e12 _ (by omega), w1], ⟨f2, by rw [e12 _ (by omega), w2]⟩, ⟨f3, by rw [e12 _ (by omega), w3]⟩, ⟨f4, by rw [e12 _ (by omega), w4]⟩, by rw [e12 _ (by omega), w5], fun i hi => by rw [e12 _ (by omega), w6 i hi], pa (by omega) (by omega) (by omega) (by omega) w7, pa (by omega) (by omega) (by omega) (by omega) w8, pa (by omega) (by omega) (by omega) (by omega) w9, pa (by omega) (by omega) (by omega) (by omega) w10, pa (by omega) (by omega) (by omega) (by omega) w11⟩
      · obtain ⟨m0, f0, r1, r2, r3⟩ := b4
        exact ⟨m0, f0, by rw [e12 _ (by omega), r1], by rw [e12 _ (by omega), r2], r3⟩
    · have hj : j < X.2.1.1 - 1 := hj
      rw [show (nxD nx + 5 - j) % 6 = (nx + 5 - (j + 1)) % 6 by unfold nxD; split <;> omega]
      exact u2 (j + 1) (by omega)
  · rw [backR, if_pos c] at hP
    refine AW.aload_n 11 dX7_back_10 rfl (by rfl) ?_
    refine AW.cV0 14 dX7_back_11 rfl mi_X7_no mv_X7_no lk_X7_121 ⟨(Nat.le_of_ble_eq_true rfl), (Nat.le_of_ble_eq_true rfl)⟩ rfl (by assumption) rfl (Nat.le_of_ble_eq_true rfl) (c_no K (fun h' K' f' => ?_))
    refine AW.iret dX7_back_14 rfl ?_
    exact hP h' K' f'
theorem c_toldValue {w : Nat} (K : ClsAt h X) (hw : w < 5) (hP : P (some (.int (tldF X w))) N h) : AM X7_toldValue [.ref 3, .int (nI w)] N h P := by
  obtain ⟨k0, k1, k3, b, ⟨nx, ring, u1, u2⟩, ⟨a, fd, lt, vl, o⟩, w', g, m, R, s⟩ := id K
  have x46 := u1.1
  have x138 := o.1
  have tw : (nI w).toInt = (w : Int) := nI_toInt (by omega)
  refine AM.of0 rfl (Nat.le_of_ble_eq_true rfl) rfl [some (.ref 3), some (.int (nI w))] rfl ?_
  refine AW.iload_n 1 dX7_toldValue_0 rfl (by rfl) ?_
  have hc : w = 0 ∨ w = 1 ∨ w = 2 ∨ w = 3 ∨ w = 4 := by omega
  rcases hc with rfl | rfl | rfl | rfl | rfl
  · refine AW.tsIn 32 dX7_toldValue_1 (by omega) (by omega) rfl (by decide) ?_
    refine AW.aload_n 33 dX7_toldValue_32 rfl (by rfl) ?_
    refine AW.getfield 36 dX7_toldValue_33 rfl fl_X7_37 (by assumption) (by rfl) ?_
    refine AW.iret dX7_toldValue_36 rfl ?_
    exact hP
  · refine AW.tsIn 37 dX7_toldValue_1 (by omega) (by omega) rfl (by decide) ?_
    refine AW.aload_n 38 dX7_toldValue_37 rfl (by rfl) ?_
    refine AW.getfield 41 dX7_toldValue_38 rfl fl_X7_41 (by assumption) (by rfl) ?_
    refine AW.iret dX7_toldValue_41 rfl ?_
    exact hP
  · refine AW.tsIn 42 dX7_toldValue_1 (by omega) (by omega) rfl (by decide) ?_
    refine AW.aload_n 43 dX7_toldValue_42 rfl (by rfl) ?_
    refine AW.getfield 46 dX7_toldValue_43 rfl fl_X7_44 (by assumption) (by rfl) ?_
    refine AW.iret dX7_toldValue_46 rfl ?_
    exact hP
  · refine AW.tsIn 47 dX7_toldValue_1 (by omega) (by omega) rfl (by decide) ?_
    refine AW.aload_n 48 dX7_toldValue_47 rfl (by rfl) ?_
    refine AW.getfield 51 dX7_toldValue_48 rfl fl_X7_26 (by assumption) (by rfl) ?_
    refine AW.getfield 54 dX7_toldValue_51 rfl fl_X7_179 (by assumption) (by rfl) ?_
    refine AW.iret dX7_toldValue_54 rfl ?_
    exact hP
  · refine AW.tsOut 55 dX7_toldValue_1 (Or.inr (by omega)) (by decide) ?_
    refine AW.aload_n 56 dX7_toldValue_55 rfl (by rfl) ?_
    refine AW.getfield 59 dX7_toldValue_56 rfl fl_X7_19 (by assumption) (by rfl) ?_
    refine AW.getfield 62 dX7_toldValue_59 rfl fl_X7_213 (by assumption) (by rfl) ?_
    refine AW.iret dX7_toldValue_62 rfl ?_
    exact hP
theorem c_told {w : Int32} (K : ClsAt h X) (hP : ∀ h', ClsAt h' (toldR X w).2 → FrC h h' → P (some (.int (toldR X w).1)) N h') : AM X7_told [.ref 3, .int w] N h P := by
  have k3 := K.2.2.1
  refine AM.of0 rfl (Nat.le_of_ble_eq_true rfl) rfl [some (.ref 3), some (.int w)] rfl ?_
  have F : inB 5 w = false → AW X7_told 9 [some (.ref 3), some (.int w)] [] N (0, 0) h P := by
    intro e
    rw [toldR, e] at hP
    refine AW.aload_n 10 dX7_told_9 rfl (by rfl) ?_
    refine AW.cV0 13 dX7_told_10 rfl mi_X7_bad mv_X7_bad lk_X7_86 ⟨(Nat.le_of_ble_eq_true rfl), (Nat.le_of_ble_eq_true rfl)⟩ rfl (by assumption) rfl (Nat.le_of_ble_eq_true rfl) (c_bad K (fun h' K' f' => ?_))
    refine AW.iret dX7_told_13 rfl ?_
    exact hP h' K' f'
  refine AW.iload_n 1 dX7_told_0 rfl (by rfl) ?_
  refine AW.if_lt 9 4 dX7_told_1 (by decide) rfl (fun c2 => ?_) (fun c2 => ?_)
  · exact F (inB_f (by omega) (Or.inl c2))
  · refine AW.iload_n 5 dX7_told_4 rfl (by rfl) ?_
    refine AW.iconst 6 dX7_told_5 rfl (nI 5) rfl ?_
    refine AW.icmp_lt 14 9 dX7_told_6 (by decide) rfl (fun c3 => ?_) (fun c3 => ?_)
    · rcases inB_cases (m := 5) (by omega) w with ⟨w', hw', rfl, e2⟩ | ⟨z, -⟩
      · rw [toldR, e2, if_pos rfl, cl_nI (by omega)] at hP
        refine AW.aload_n 15 dX7_told_14 rfl (by rfl) ?_
        refine AW.iload_n 16 dX7_told_15 rfl (by rfl) ?_
        refine AW.cV1 19 dX7_told_16 rfl mi_X7_toldValue mv_X7_toldValue lk_X7_219 ⟨(Nat.le_of_ble_eq_true rfl), (Nat.le_of_ble_eq_true rfl)⟩ rfl (by assumption) rfl (Nat.le_of_ble_eq_true rfl) (c_toldValue K hw' ?_)
        refine AW.iret dX7_told_19 rfl ?_
        exact hP h K (fun _ _ => rfl)
      · rcases z with z | z
        · exact absurd z c2
        · exact (Int32.lt_irrefl (Int32.lt_of_lt_of_le c3 z)).elim
    · exact F (inB_f (by omega) (Or.inr (Int32.not_lt.mp c3)))
theorem c_digestKind {j k : Nat} {d : Int64} (K : ClsAt h X) (hj : j < 3) (hk : k < 3) (hP : ∀ h', ClsAt h' X → FrC h h' → P (some (.long (dgK X.1.2.2 j k d))) N h') : AM X7_digestKind [.ref 3, .long d, .int (nI j), .int (nI k)] N h P := by
  have k3 := K.2.2.1
  have k4 := K.2.2.2.1.1
  have k5 := K.2.2.2.1.2.1.1
  have k19 : h 19 = .inl (0, (8, .inl X.1.2.2)) := K.2.2.2.1.2.1.2.2.2.1
  obtain ⟨w0, g0, m0, R0, S0⟩ := K.2.2.2.2.2.2
  have x182 := S0.1
  refine AM.of0 rfl (Nat.le_of_ble_eq_true rfl) rfl [some (.ref 3), some (.long d), none, some (.int (nI j)), some (.int (nI k)), none, none, none] rfl ?_
  refine AW.lload_n 1 dX7_digestKind_0 rfl (by rfl) ?_
  refine AW.lstore 3 dX7_digestKind_1 rfl (Nat.le_of_ble_eq_true rfl) rfl ?_
  refine AW.aload_n 4 dX7_digestKind_3 rfl (by rfl) ?_
  refine AW.getfield 7 dX7_digestKind_4 rfl fl_X7_33 (by assumption) (by rfl) ?_
  refine AW.aload_n 8 dX7_digestKind_7 rfl (by rfl) ?_
  refine AW.getfield 11 dX7_digestKind_8 rfl fl_X7_10 (by assumption) (by rfl) ?_
  refine AW.getfield 14 dX7_digestKind_11 rfl fl_X7_47 (by assumption) (by rfl) ?_
  refine AW.getfield 17 dX7_digestKind_14 rfl fl_X7_168 (by assumption) (by rfl) ?_
  refine AW.iload_n 18 dX7_digestKind_17 rfl (by rfl) ?_
  refine AW.iload 20 dX7_digestKind_18 rfl (by rfl) ?_
  refine AW.cV3 23 dX7_digestKind_20 rfl mi_X5_convert mv_X5_convert lk_X7_171 ⟨(Nat.le_of_ble_eq_true rfl), (Nat.le_of_ble_eq_true rfl)⟩ rfl (by assumption) rfl (Nat.le_of_ble_eq_true rfl) (c_convert S0 hj hk (by decide) k19 (fun h1 w g m1 R S1 hw f1 => ?_))
  have K1 := K.ser S1 f1
  have y3 := K1.2.2.1
  have y182 := S1.1
  have y183 := S1.2.1
  refine AW.iconst 24 dX7_digestKind_23 rfl (nI 1) rfl ?_
  refine AW.istore 26 dX7_digestKind_24 rfl (Nat.le_of_ble_eq_true rfl) rfl ?_
  have L : ∀ l i, i + l = 8 → AW X7_digestKind 26 [some (.ref 3), some (.long d), none, some (.int (nI j)), some (.int (nI k)), some (.long (fldL (fun i => asF j k X.1.2.2 (i + 1)) i d)), none, some (.int (nI (i + 1)))] [] N (0, 0) h1 P := by
    intro l
    induction l with
    | zero =>
      intro i hi
      refine AW.iload 28 dX7_digestKind_26 rfl (by rfl) ?_
      refine AW.bipush 30 dX7_digestKind_28 rfl (nI 8) rfl ?_
      refine AW.ngt 58 33 dX7_digestKind_30 (by decide) rfl (by omega) (by omega) (fun c => ?_) (fun c => ?_)
      · refine AW.lload 60 dX7_digestKind_58 rfl (by rfl) ?_
        refine AW.lret dX7_digestKind_60 rfl ?_
        have hP := hP h1 K1 (fun z hz => f1 z (by omega))
        rw [dgK, show 8 = i by omega] at hP
        exact hP
      · omega
    | succ l ih =>
      intro i hi
      refine AW.iload 28 dX7_digestKind_26 rfl (by rfl) ?_
      refine AW.bipush 30 dX7_digestKind_28 rfl (nI 8) rfl ?_
      refine AW.ngt 58 33 dX7_digestKind_30 (by decide) rfl (by omega) (by omega) (fun c => ?_) (fun c => ?_)
      · omega
      · refine AW.ldc2 36 dX7_digestKind_33 rfl kl_X7_224 ?_
        refine AW.lload 38 dX7_digestKind_36 rfl (by rfl) ?_
        refine AW.lmul 39 dX7_digestKind_38 rfl ?_
        refine AW.aload_n 40 dX7_digestKind_39 rfl (by rfl) ?_
        refine AW.getfield 43 dX7_digestKind_40 rfl fl_X7_33 (by assumption) (by rfl) ?_
        refine AW.getfield 46 dX7_digestKind_43 rfl fl_X7_175 (by assumption) (by rfl) ?_
        refine AW.iload 48 dX7_digestKind_46 rfl (by rfl) ?_
        refine AW.laload 49 _ dX7_digestKind_48 rfl (by assumption) rfl (ix_nI (by omega)) (by omega) ?_
        rw [hw (i + 1) (by omega) (by omega)]
        refine AW.ladd 50 dX7_digestKind_49 rfl ?_
        refine AW.lstore 52 dX7_digestKind_50 rfl (Nat.le_of_ble_eq_true rfl) rfl ?_
        refine AW.iinc1 55 dX7_digestKind_52 rfl (by rfl) rfl ?_
        refine AW.goto 26 dX7_digestKind_55 (by decide) ?_
        exact ih (i + 1) (by omega)
  exact L 8 0 (by omega)
theorem c_digestSlot {s : Nat} {d : Int64} (K : ClsAt h X) (hV : VdS X.1) (hs6 : s < 6) (hP : ∀ h', ClsAt h' X → FrC h h' → P (some (.long (dgS X.1 s d))) N h') : AM X7_digestSlot [.ref 3, .long d, .int (nI s)] N h P := by
  have hn := K.2.2.2.1.2.1.2.2.2.2.2.1
  refine AM.of0 rfl (Nat.le_of_ble_eq_true rfl) rfl [some (.ref 3), some (.long d), none, some (.int (nI s)), none, none, none, none] rfl ?_
  refine AW.lload_n 1 dX7_digestSlot_0 rfl (by rfl) ?_
  refine AW.lstore 3 dX7_digestSlot_1 rfl (Nat.le_of_ble_eq_true rfl) rfl ?_
  refine AW.iconst 4 dX7_digestSlot_3 rfl (nI 0) rfl ?_
  refine AW.istore 6 dX7_digestSlot_4 rfl (Nat.le_of_ble_eq_true rfl) rfl ?_
  have L2 : ∀ h1, ClsAt h1 X → FrC h h1 → ∀ l x, x + l = X.1.1 → AW X7_digestSlot 52 [some (.ref 3), some (.long d), none, some (.int (nI s)), some (.long (fldL (fun x => (nI (cr X.1.1 (X.1.2.1 s) x)).toInt64) x (fldL (fun w => (nI (propF X.1.1 (X.1.2.1 s) w)).toInt64) 6 d))), none, some (.ref (5 + 2 + 2 * s)), some (.int (nI x))] [] N (0, 0) h1 P := by
    intro h1 K1 f1 l
    obtain ⟨p1, p2⟩ := K1.2.2.2.1.2.1.2.2.1 s hs6
    induction l with
    | zero =>
      intro x hx
      refine AW.iload 54 dX7_digestSlot_52 rfl (by rfl) ?_
      refine AW.aload 56 dX7_digestSlot_54 rfl (by rfl) ?_
      refine AW.getfield 59 dX7_digestSlot_56 rfl fl_X7_234 (by assumption) (by rfl) ?_
      refine AW.nge 86 62 dX7_digestSlot_59 (by decide) rfl (by omega) (by omega) (fun c => ?_) (fun c => ?_)
      · refine AW.lload 88 dX7_digestSlot_86 rfl (by rfl) ?_
        refine AW.lret dX7_digestSlot_88 rfl ?_
        have hP := hP h1 K1 f1
        rw [dgS, show fldL (fun x => (nI (cr X.1.1 (X.1.2.1 s) x)).toInt64) X.1.1 = fldL (fun x => (nI (cr X.1.1 (X.1.2.1 s) x)).toInt64) x by rw [show x = X.1.1 by omega]] at hP
        exact hP
      · omega
    | succ l ih =>
      intro x hx
      refine AW.iload 54 dX7_digestSlot_52 rfl (by rfl) ?_
      refine AW.aload 56 dX7_digestSlot_54 rfl (by rfl) ?_
      refine AW.getfield 59 dX7_digestSlot_56 rfl fl_X7_234 (by assumption) (by rfl) ?_
      refine AW.nge 86 62 dX7_digestSlot_59 (by decide) rfl (by omega) (by omega) (fun c => ?_) (fun c => ?_)
      · omega
      · refine AW.ldc2 65 dX7_digestSlot_62 rfl kl_X7_224 ?_
        refine AW.lload 67 dX7_digestSlot_65 rfl (by rfl) ?_
        refine AW.lmul 68 dX7_digestSlot_67 rfl ?_
        refine AW.aload 70 dX7_digestSlot_68 rfl (by rfl) ?_
        refine AW.getfield 73 dX7_digestSlot_70 rfl fl_X7_100 (by assumption) (by rfl) ?_
        refine AW.iload 75 dX7_digestSlot_73 rfl (by rfl) ?_
        refine AW.iaload 76 _ dX7_digestSlot_75 rfl (by assumption) (by first | exact Or.inl rfl | exact Or.inr rfl) (ix_nI (by omega)) (by omega) ?_
        refine AW.i2l 77 dX7_digestSlot_76 rfl ?_
        refine AW.ladd 78 dX7_digestSlot_77 rfl ?_
        refine AW.lstore 80 dX7_digestSlot_78 rfl (Nat.le_of_ble_eq_true rfl) rfl ?_
        refine AW.iinc1 83 dX7_digestSlot_80 rfl (by rfl) rfl ?_
        refine AW.goto 52 dX7_digestSlot_83 (by decide) ?_
        exact ih (x + 1) (by omega)
  have L : ∀ l w, w + l = 6 → ∀ h1, ClsAt h1 X → FrC h h1 → AW X7_digestSlot 6 [some (.ref 3), some (.long d), none, some (.int (nI s)), some (.long (fldL (fun w => (nI (propF X.1.1 (X.1.2.1 s) w)).toInt64) w d)), none, some (.int (nI w)), none] [] N (0, 0) h1 P := by
    intro l
    induction l with
    | zero =>
      intro w hw h1 K1 f1
      have k3 := K1.2.2.1
      have k4 := K1.2.2.2.1.1
      refine AW.iload 8 dX7_digestSlot_6 rfl (by rfl) ?_
      refine AW.bipush 10 dX7_digestSlot_8 rfl (nI 6) rfl ?_
      refine AW.nge 39 13 dX7_digestSlot_10 (by decide) rfl (by omega) (by omega) (fun c => ?_) (fun c => ?_)
      · refine AW.aload_n 40 dX7_digestSlot_39 rfl (by rfl) ?_
        refine AW.getfield 43 dX7_digestSlot_40 rfl fl_X7_10 (by assumption) (by rfl) ?_
        refine AW.iload_n 44 dX7_digestSlot_43 rfl (by rfl) ?_
        refine AW.cV1 47 dX7_digestSlot_44 rfl mi_X0_part mv_X0_part lk_X7_96 ⟨(Nat.le_of_ble_eq_true rfl), (Nat.le_of_ble_eq_true rfl)⟩ rfl (by assumption) rfl (Nat.le_of_ble_eq_true rfl) (c_part K1.2.2.2.1 hs6 ?_)
        refine AW.astore 49 dX7_digestSlot_47 rfl (Nat.le_of_ble_eq_true rfl) rfl ?_
        refine AW.iconst 50 dX7_digestSlot_49 rfl (nI 0) rfl ?_
        refine AW.istore 52 dX7_digestSlot_50 rfl (Nat.le_of_ble_eq_true rfl) rfl ?_
        obtain rfl : w = 6 := by omega
        exact L2 h1 K1 f1 X.1.1 0 (by omega)
      · omega
    | succ l ih =>
      intro w hw h1 K1 f1
      have k3 := K1.2.2.1
      have k4 := K1.2.2.2.1.1
      refine AW.iload 8 dX7_digestSlot_6 rfl (by rfl) ?_
      refine AW.bipush 10 dX7_digestSlot_8 rfl (nI 6) rfl ?_
      refine AW.nge 39 13 dX7_digestSlot_10 (by decide) rfl (by omega) (by omega) (fun c => ?_) (fun c => ?_)
      · omega
      · refine AW.ldc2 16 dX7_digestSlot_13 rfl kl_X7_224 ?_
        refine AW.lload 18 dX7_digestSlot_16 rfl (by rfl) ?_
        refine AW.lmul 19 dX7_digestSlot_18 rfl ?_
        refine AW.aload_n 20 dX7_digestSlot_19 rfl (by rfl) ?_
        refine AW.getfield 23 dX7_digestSlot_20 rfl fl_X7_10 (by assumption) (by rfl) ?_
        refine AW.iload_n 24 dX7_digestSlot_23 rfl (by rfl) ?_
        refine AW.iload 26 dX7_digestSlot_24 rfl (by rfl) ?_
        refine AW.cV2 29 dX7_digestSlot_26 rfl mi_X0_property mv_X0_property lk_X7_90 ⟨(Nat.le_of_ble_eq_true rfl), (Nat.le_of_ble_eq_true rfl)⟩ rfl (by assumption) rfl (Nat.le_of_ble_eq_true rfl) (c_property K1.2.2.2.1 hs6 c (hV s hs6).1 (fun h2 B2 f2 => ?_))
        refine AW.i2l 30 dX7_digestSlot_29 rfl ?_
        refine AW.ladd 31 dX7_digestSlot_30 rfl ?_
        refine AW.lstore 33 dX7_digestSlot_31 rfl (Nat.le_of_ble_eq_true rfl) rfl ?_
        refine AW.iinc1 36 dX7_digestSlot_33 rfl (by rfl) rfl ?_
        refine AW.goto 6 dX7_digestSlot_36 (by decide) ?_
        exact ih (w + 1) (by omega) h2 (K1.brd B2 f2) (fun z hz => by rw [f2 z (by omega), f1 z hz])
  exact L 6 0 (by omega) h K (fun _ _ => rfl)
theorem dig_E {d4 : Int64} (hP : ∀ h', ClsAt h' X → FrC h h' → P (some (.long (dgK X.1.2.2 2 0 (dgK X.1.2.2 1 0 (dgK X.1.2.2 0 2 (dgK X.1.2.2 0 1 d4))))))  N h') : ∀ h1, ClsAt h1 X → FrC h h1 → ∀ o, AW X7_digest 115 [some (.ref 3), some (.long d4), none, o] [] N (0, 0) h1 P := by
  intro h1 K1 f1 o
  have y1 := K1.2.2.1
  refine AW.aload_n 116 dX7_digest_115 rfl (by rfl) ?_
  refine AW.lload_n 117 dX7_digest_116 rfl (by rfl) ?_
  refine AW.iconst 118 dX7_digest_117 rfl (nI 0) rfl ?_
  refine AW.iconst 119 dX7_digest_118 rfl (nI 1) rfl ?_
  refine AW.cV3 122 dX7_digest_119 rfl mi_X7_digestKind mv_X7_digestKind lk_X7_230 ⟨(Nat.le_of_ble_eq_true rfl), (Nat.le_of_ble_eq_true rfl)⟩ rfl (by assumption) rfl (Nat.le_of_ble_eq_true rfl) (c_digestKind K1 (by decide) (by decide) (fun h2 K2 f2 => ?_))
  have y2 := K2.2.2.1
  refine AW.lstore_n 123 dX7_digest_122 rfl (Nat.le_of_ble_eq_true rfl) rfl ?_
  refine AW.aload_n 124 dX7_digest_123 rfl (by rfl) ?_
  refine AW.lload_n 125 dX7_digest_124 rfl (by rfl) ?_
  refine AW.iconst 126 dX7_digest_125 rfl (nI 0) rfl ?_
  refine AW.iconst 127 dX7_digest_126 rfl (nI 2) rfl ?_
  refine AW.cV3 130 dX7_digest_127 rfl mi_X7_digestKind mv_X7_digestKind lk_X7_230 ⟨(Nat.le_of_ble_eq_true rfl), (Nat.le_of_ble_eq_true rfl)⟩ rfl (by assumption) rfl (Nat.le_of_ble_eq_true rfl) (c_digestKind K2 (by decide) (by decide) (fun h3 K3 f3 => ?_))
  have y3 := K3.2.2.1
  refine AW.lstore_n 131 dX7_digest_130 rfl (Nat.le_of_ble_eq_true rfl) rfl ?_
  refine AW.aload_n 132 dX7_digest_131 rfl (by rfl) ?_
  refine AW.lload_n 133 dX7_digest_132 rfl (by rfl) ?_
  refine AW.iconst 134 dX7_digest_133 rfl (nI 1) rfl ?_
  refine AW.iconst 135 dX7_digest_134 rfl (nI 0) rfl ?_
  refine AW.cV3 138 dX7_digest_135 rfl mi_X7_digestKind mv_X7_digestKind lk_X7_230 ⟨(Nat.le_of_ble_eq_true rfl), (Nat.le_of_ble_eq_true rfl)⟩ rfl (by assumption) rfl (Nat.le_of_ble_eq_true rfl) (c_digestKind K3 (by decide) (by decide) (fun h4 K4 f4 => ?_))
  have y4 := K4.2.2.1
  refine AW.lstore_n 139 dX7_digest_138 rfl (Nat.le_of_ble_eq_true rfl) rfl ?_
  refine AW.aload_n 140 dX7_digest_139 rfl (by rfl) ?_
  refine AW.lload_n 141 dX7_digest_140 rfl (by rfl) ?_
  refine AW.iconst 142 dX7_digest_141 rfl (nI 2) rfl ?_
  refine AW.iconst 143 dX7_digest_142 rfl (nI 0) rfl ?_
  refine AW.cV3 146 dX7_digest_143 rfl mi_X7_digestKind mv_X7_digestKind lk_X7_230 ⟨(Nat.le_of_ble_eq_true rfl), (Nat.le_of_ble_eq_true rfl)⟩ rfl (by assumption) rfl (Nat.le_of_ble_eq_true rfl) (c_digestKind K4 (by decide) (by decide) (fun h5 K5 f5 => ?_))
  refine AW.lret dX7_digest_146 rfl ?_
  exact hP h5 K5 (fun z hz => by rw [f5 z hz, f4 z hz, f3 z hz, f2 z hz, f1 z hz])
theorem dig_4 {d3 d4 : Int64} (hd4 : fldL (fun i => (X.1.2.2 i).toInt64) 8 d3 = d4) (hP : ∀ h', ClsAt h' X → FrC h h' → P (some (.long (dgK X.1.2.2 2 0 (dgK X.1.2.2 1 0 (dgK X.1.2.2 0 2 (dgK X.1.2.2 0 1 d4))))))  N h') : ∀ h1, ClsAt h1 X → FrC h h1 → ∀ l i, i + l = 8 → AW X7_digest 83 [some (.ref 3), some (.long (fldL (fun i => (X.1.2.2 i).toInt64) i d3)), none, some (.int (nI i))] [] N (0, 0) h1 P := by
  intro h1 K1 f1 l
  have k3 := K1.2.2.1
  have k4 := K1.2.2.2.1.1
  have k5 := K1.2.2.2.1.2.1.1
  have k19 : h1 19 = .inl (0, (8, .inl X.1.2.2)) := K1.2.2.2.1.2.1.2.2.2.1
  induction l with
  | zero =>
    intro i hi
    refine AW.iload_n 84 dX7_digest_83 rfl (by rfl) ?_
    refine AW.bipush 86 dX7_digest_84 rfl (nI 8) rfl ?_
    refine AW.nge 115 89 dX7_digest_86 (by decide) rfl (by omega) (by omega) (fun c => ?_) (fun c => ?_)
    · obtain rfl : i = 8 := by omega
      rw [hd4]
      exact dig_E hP h1 K1 f1 _
    · omega
  | succ l ih =>
    intro i hi
    refine AW.iload_n 84 dX7_digest_83 rfl (by rfl) ?_
    refine AW.bipush 86 dX7_digest_84 rfl (nI 8) rfl ?_
    refine AW.nge 115 89 dX7_digest_86 (by decide) rfl (by omega) (by omega) (fun c => ?_) (fun c => ?_)
    · omega
    · refine AW.ldc2 92 dX7_digest_89 rfl kl_X7_224 ?_
      refine AW.lload_n 93 dX7_digest_92 rfl (by rfl) ?_
      refine AW.lmul 94 dX7_digest_93 rfl ?_
      refine AW.aload_n 95 dX7_digest_94 rfl (by rfl) ?_
      refine AW.getfield 98 dX7_digest_95 rfl fl_X7_10 (by assumption) (by rfl) ?_
      refine AW.getfield 101 dX7_digest_98 rfl fl_X7_47 (by assumption) (by rfl) ?_
      refine AW.getfield 104 dX7_digest_101 rfl fl_X7_168 (by assumption) (by rfl) ?_
      refine AW.iload_n 105 dX7_digest_104 rfl (by rfl) ?_
      refine AW.iaload 106 _ dX7_digest_105 rfl (by assumption) (by first | exact Or.inl rfl | exact Or.inr rfl) (ix_nI (by omega)) (by omega) ?_
      refine AW.i2l 107 dX7_digest_106 rfl ?_
      refine AW.ladd 108 dX7_digest_107 rfl ?_
      refine AW.lstore_n 109 dX7_digest_108 rfl (Nat.le_of_ble_eq_true rfl) rfl ?_
      refine AW.iinc1 112 dX7_digest_109 rfl (by rfl) rfl ?_
      refine AW.goto 83 dX7_digest_112 (by decide) ?_
      exact ih (i + 1) (by omega)
theorem dig_3 (hV : VdS X.1) {d2 d3 d4 : Int64} (hd3 : dgT X.1 6 d2 = d3) (hd4 : fldL (fun i => (X.1.2.2 i).toInt64) 8 d3 = d4) (hP : ∀ h', ClsAt h' X → FrC h h' → P (some (.long (dgK X.1.2.2 2 0 (dgK X.1.2.2 1 0 (dgK X.1.2.2 0 2 (dgK X.1.2.2 0 1 d4))))))  N h') : ∀ l s, s + l = 6 → ∀ h1, ClsAt h1 X → FrC h h1 → AW X7_digest 62 [some (.ref 3), some (.long (dgT X.1 s d2)), none, some (.int (nI s))] [] N (0, 0) h1 P := by
  intro l
  induction l with
  | zero =>
    intro s hs6 h1 K1 f1
    refine AW.iload_n 63 dX7_digest_62 rfl (by rfl) ?_
    refine AW.bipush 65 dX7_digest_63 rfl (nI 6) rfl ?_
    refine AW.nge 81 68 dX7_digest_65 (by decide) rfl (by omega) (by omega) (fun c => ?_) (fun c => ?_)
    · obtain rfl : s = 6 := by omega
      rw [hd3]
      refine AW.iconst 82 dX7_digest_81 rfl (nI 0) rfl ?_
      refine AW.istore_n 83 dX7_digest_82 rfl (Nat.le_of_ble_eq_true rfl) rfl ?_
      exact dig_4 hd4 hP h1 K1 f1 8 0 (by omega)
    · omega
  | succ l ih =>
    intro s hs6 h1 K1 f1
    have k3 := K1.2.2.1
    refine AW.iload_n 63 dX7_digest_62 rfl (by rfl) ?_
    refine AW.bipush 65 dX7_digest_63 rfl (nI 6) rfl ?_
    refine AW.nge 81 68 dX7_digest_65 (by decide) rfl (by omega) (by omega) (fun c => ?_) (fun c => ?_)
    · omega
    · refine AW.aload_n 69 dX7_digest_68 rfl (by rfl) ?_
      refine AW.lload_n 70 dX7_digest_69 rfl (by rfl) ?_
      refine AW.iload_n 71 dX7_digest_70 rfl (by rfl) ?_
      refine AW.cV2 74 dX7_digest_71 rfl mi_X7_digestSlot mv_X7_digestSlot lk_X7_226 ⟨(Nat.le_of_ble_eq_true rfl), (Nat.le_of_ble_eq_true rfl)⟩ rfl (by assumption) rfl (Nat.le_of_ble_eq_true rfl) (c_digestSlot K1 hV c (fun h2 K2 f2 => ?_))
      refine AW.lstore_n 75 dX7_digest_74 rfl (Nat.le_of_ble_eq_true rfl) rfl ?_
      refine AW.iinc1 78 dX7_digest_75 rfl (by rfl) rfl ?_
      refine AW.goto 62 dX7_digest_78 (by decide) ?_
      exact ih (s + 1) (by omega) h2 K2 (fun z hz => by rw [f2 z hz, f1 z hz])
theorem dig_2 (K : ClsAt h X) (hV : VdS X.1) {d1 d2 d3 d4 : Int64} (hd2 : fldL (fun w => (amtF X.1.1 w).toInt64) 10 d1 = d2) (hd3 : dgT X.1 6 d2 = d3) (hd4 : fldL (fun i => (X.1.2.2 i).toInt64) 8 d3 = d4) (hP : ∀ h', ClsAt h' X → FrC h h' → P (some (.long (dgK X.1.2.2 2 0 (dgK X.1.2.2 1 0 (dgK X.1.2.2 0 2 (dgK X.1.2.2 0 1 d4))))))  N h') : ∀ l w, w + l = 10 → AW X7_digest 32 [some (.ref 3), some (.long (fldL (fun w => (amtF X.1.1 w).toInt64) w d1)), none, some (.int (nI w))] [] N (0, 0) h P := by
  have k3 := K.2.2.1
  have k4 := K.2.2.2.1.1
  intro l
  induction l with
  | zero =>
    intro w hw
    refine AW.iload_n 33 dX7_digest_32 rfl (by rfl) ?_
    refine AW.bipush 35 dX7_digest_33 rfl (nI 10) rfl ?_
    refine AW.nge 60 38 dX7_digest_35 (by decide) rfl (by omega) (by omega) (fun c => ?_) (fun c => ?_)
    · obtain rfl : w = 10 := by omega
      rw [hd2]
      refine AW.iconst 61 dX7_digest_60 rfl (nI 0) rfl ?_
      refine AW.istore_n 62 dX7_digest_61 rfl (Nat.le_of_ble_eq_true rfl) rfl ?_
      exact dig_3 hV hd3 hd4 hP 6 0 (by omega) h K (fun _ _ => rfl)
    · omega
  | succ l ih =>
    intro w hw
    refine AW.iload_n 33 dX7_digest_32 rfl (by rfl) ?_
    refine AW.bipush 35 dX7_digest_33 rfl (nI 10) rfl ?_
    refine AW.nge 60 38 dX7_digest_35 (by decide) rfl (by omega) (by omega) (fun c => ?_) (fun c => ?_)
    · omega
    · refine AW.ldc2 41 dX7_digest_38 rfl kl_X7_224 ?_
      refine AW.lload_n 42 dX7_digest_41 rfl (by rfl) ?_
      refine AW.lmul 43 dX7_digest_42 rfl ?_
      refine AW.aload_n 44 dX7_digest_43 rfl (by rfl) ?_
      refine AW.getfield 47 dX7_digest_44 rfl fl_X7_10 (by assumption) (by rfl) ?_
      refine AW.iload_n 48 dX7_digest_47 rfl (by rfl) ?_
      refine AW.cV1 51 dX7_digest_48 rfl mi_X0_amount mv_X0_amount lk_X7_110 ⟨(Nat.le_of_ble_eq_true rfl), (Nat.le_of_ble_eq_true rfl)⟩ rfl (by assumption) rfl (Nat.le_of_ble_eq_true rfl) (c_amount K.1 K.2.2.2.1 c ?_)
      refine AW.i2l 52 dX7_digest_51 rfl ?_
      refine AW.ladd 53 dX7_digest_52 rfl ?_
      refine AW.lstore_n 54 dX7_digest_53 rfl (Nat.le_of_ble_eq_true rfl) rfl ?_
      refine AW.iinc1 57 dX7_digest_54 rfl (by rfl) rfl ?_
      refine AW.goto 32 dX7_digest_57 (by decide) ?_
      exact ih (w + 1) (by omega)
theorem dig_1 (K : ClsAt h X) (hV : VdS X.1) {d0 d1 d2 d3 d4 : Int64} (hd1 : fldL (fun w => (tldF X w).toInt64) 5 d0 = d1) (hd2 : fldL (fun w => (amtF X.1.1 w).toInt64) 10 d1 = d2) (hd3 : dgT X.1 6 d2 = d3) (hd4 : fldL (fun i => (X.1.2.2 i).toInt64) 8 d3 = d4) (hP : ∀ h', ClsAt h' X → FrC h h' → P (some (.long (dgK X.1.2.2 2 0 (dgK X.1.2.2 1 0 (dgK X.1.2.2 0 2 (dgK X.1.2.2 0 1 d4))))))  N h') : ∀ l w, w + l = 5 → AW X7_digest 6 [some (.ref 3), some (.long (fldL (fun w => (tldF X w).toInt64) w d0)), none, some (.int (nI w))] [] N (0, 0) h P := by
  have k3 := K.2.2.1
  intro l
  induction l with
  | zero =>
    intro w hw
    refine AW.iload_n 7 dX7_digest_6 rfl (by rfl) ?_
    refine AW.iconst 8 dX7_digest_7 rfl (nI 5) rfl ?_
    refine AW.nge 30 11 dX7_digest_8 (by decide) rfl (by omega) (by omega) (fun c => ?_) (fun c => ?_)
    · obtain rfl : w = 5 := by omega
      rw [hd1]
      refine AW.iconst 31 dX7_digest_30 rfl (nI 0) rfl ?_
      refine AW.istore_n 32 dX7_digest_31 rfl (Nat.le_of_ble_eq_true rfl) rfl ?_
      exact dig_2 K hV hd2 hd3 hd4 hP 10 0 (by omega)
    · omega
  | succ l ih =>
    intro w hw
    refine AW.iload_n 7 dX7_digest_6 rfl (by rfl) ?_
    refine AW.iconst 8 dX7_digest_7 rfl (nI 5) rfl ?_
    refine AW.nge 30 11 dX7_digest_8 (by decide) rfl (by omega) (by omega) (fun c => ?_) (fun c => ?_)
    · omega
    · refine AW.ldc2 14 dX7_digest_11 rfl kl_X7_224 ?_
      refine AW.lload_n 15 dX7_digest_14 rfl (by rfl) ?_
      refine AW.lmul 16 dX7_digest_15 rfl ?_
      refine AW.aload_n 17 dX7_digest_16 rfl (by rfl) ?_
      refine AW.iload_n 18 dX7_digest_17 rfl (by rfl) ?_
      refine AW.cV1 21 dX7_digest_18 rfl mi_X7_toldValue mv_X7_toldValue lk_X7_219 ⟨(Nat.le_of_ble_eq_true rfl), (Nat.le_of_ble_eq_true rfl)⟩ rfl (by assumption) rfl (Nat.le_of_ble_eq_true rfl) (c_toldValue K c ?_)
      refine AW.i2l 22 dX7_digest_21 rfl ?_
      refine AW.ladd 23 dX7_digest_22 rfl ?_
      refine AW.lstore_n 24 dX7_digest_23 rfl (Nat.le_of_ble_eq_true rfl) rfl ?_
      refine AW.iinc1 27 dX7_digest_24 rfl (by rfl) rfl ?_
      refine AW.goto 6 dX7_digest_27 (by decide) ?_
      exact ih (w + 1) (by omega)
theorem c_digest0 {d0 : Int64} (K : ClsAt h X) (hV : VdS X.1) (hP : ∀ h', ClsAt h' X → FrC h h' → P (some (.long (digD X d0))) N h') : AW X7_digest 6 [some (.ref 3), some (.long d0), none, some (.int (nI 0))] [] N (0, 0) h P := dig_1 K hV rfl rfl rfl rfl hP 5 0 (by omega)
theorem c_digest (K : ClsAt h X) (hV : VdS X.1) (hP : ∀ h', ClsAt h' X → FrC h h' → P (some (.long (digR X))) N h') : AM X7_digest [.ref 3] N h P := by
  refine AM.of0 rfl (Nat.le_of_ble_eq_true rfl) rfl [some (.ref 3), none, none, none] rfl ?_
  refine AW.ldc2 3 dX7_digest_0 rfl kl_X7_222 ?_
  refine AW.lstore_n 4 dX7_digest_3 rfl (Nat.le_of_ble_eq_true rfl) rfl ?_
  refine AW.iconst 5 dX7_digest_4 rfl (nI 0) rfl ?_
  refine AW.istore_n 6 dX7_digest_5 rfl (Nat.le_of_ble_eq_true rfl) rfl ?_
  exact c_digest0 K hV hP
end CLS3
