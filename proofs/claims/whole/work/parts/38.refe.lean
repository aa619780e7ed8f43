/-! THE MODEL, fifteenth part: the answers of, row, below, count, evens, covers -/
def ofM (X : aX) (s w : Int32) : Int32 × aX := if inB 6 s && inB 6 w then (nI (propM X.1.1 (X.1.2.1 (cl s)) (cl w)), X) else badX X
def rowM (X : aX) (s x : Int32) : Int32 × aX := if inB 6 s && inB X.1.1 x then (nI (rw8 (X.1.2.1 (cl s)) (cl x)), X) else badX X
def belowM (X : aX) (a b : Int32) : Int32 × aX := if inB 6 a && inB 6 b then (nI (b01 (blM X.1.1 (X.1.2.1 (cl a)) (X.1.2.1 (cl b)))), X) else badX X
def countM (X : aX) (w : Int32) : Int32 × aX := if inB 10 w then (nI (amtM X.1.1 (cl w)), X) else badX X
def evensM (X : aX) : Int32 × aX := if X.1.1 % 2 = 1 then noX X else (nI (evM X.1.1), X)
def coversM (X : aX) (s i : Int32) : Int32 × aX := if inB 6 s && decide (0 ≤ i.toInt) then (cvlM X.1.1 (X.1.2.1 (cl s)) (cl i), X) else badX X
section REFE
variable {N n : Nat} {h : aH} {P : aP} {X : aX}
theorem r_ofPart {c k : Nat} (K0 : RfAt h X) (hc : c < 16777216) (hk : k < 6) (hP : ∀ h', RfAt h' X → FrM h h' → P (some (.int (nI (propM X.1.1 c k)))) N h') : AM X8_ofPart [.ref 196, .int (nI c), .int (nI k)] N h P := by
  obtain ⟨_, _, _, _, _, _, x196, -⟩ := id K0.1
  have G := K0.now
  have tk : (nI k).toInt = (k : Int) := nI_toInt (by omega)
  refine AM.of0 rfl (Nat.le_of_ble_eq_true rfl) rfl [some (.ref 196), some (.int (nI c)), some (.int (nI k))] rfl ?_
  refine AW.iload_n 1 dX8_ofPart_0 rfl (by rfl) ?_
  have : k = 0 ∨ k = 1 ∨ k = 2 ∨ k = 3 ∨ 4 ≤ k := by omega
  rcases this with rfl | rfl | rfl | rfl | e
  · refine AW.tsIn 32 dX8_ofPart_1 (by omega) (by omega) rfl (by decide) ?_
    refine AW.aload_n 33 dX8_ofPart_32 rfl (by rfl) ?_
    refine AW.iload_n 34 dX8_ofPart_33 rfl (by rfl) ?_
    refine AW.cV1 37 dX8_ofPart_34 rfl mi_X8_numberOf mv_X8_numberOf lk_X8_125 ⟨(Nat.le_of_ble_eq_true rfl), (Nat.le_of_ble_eq_true rfl)⟩ rfl (by assumption) rfl (Nat.le_of_ble_eq_true rfl) (r_numberOf K0 hc ?_)
    intro h' K' _ F
    refine AW.iret dX8_ofPart_37 rfl ?_
    exact hP h' K' F
  · refine AW.tsIn 38 dX8_ofPart_1 (by omega) (by omega) rfl (by decide) ?_
    refine AW.aload_n 39 dX8_ofPart_38 rfl (by rfl) ?_
    refine AW.iload_n 40 dX8_ofPart_39 rfl (by rfl) ?_
    refine AW.cV1 43 dX8_ofPart_40 rfl mi_X8_rankOf mv_X8_rankOf lk_X8_93 ⟨(Nat.le_of_ble_eq_true rfl), (Nat.le_of_ble_eq_true rfl)⟩ rfl (by assumption) rfl (Nat.le_of_ble_eq_true rfl) (c_rankOf G hc ?_)
    refine AW.iret dX8_ofPart_43 rfl ?_
    exact hP h K0 FrM.refl
  · refine AW.tsIn 44 dX8_ofPart_1 (by omega) (by omega) rfl (by decide) ?_
    refine AW.aload_n 45 dX8_ofPart_44 rfl (by rfl) ?_
    refine AW.iload_n 46 dX8_ofPart_45 rfl (by rfl) ?_
    refine AW.iconst 47 dX8_ofPart_46 rfl (nI 0) rfl ?_
    refine AW.cV2 50 dX8_ofPart_47 rfl mi_X8_blocks mv_X8_blocks lk_X8_175 ⟨(Nat.le_of_ble_eq_true rfl), (Nat.le_of_ble_eq_true rfl)⟩ rfl (by assumption) rfl (Nat.le_of_ble_eq_true rfl) (r_blocks (b := false) G hc ?_)
    refine AW.iret dX8_ofPart_50 rfl ?_
    exact hP h K0 FrM.refl
  · refine AW.tsIn 51 dX8_ofPart_1 (by omega) (by omega) rfl (by decide) ?_
    refine AW.aload_n 52 dX8_ofPart_51 rfl (by rfl) ?_
    refine AW.iload_n 53 dX8_ofPart_52 rfl (by rfl) ?_
    refine AW.iconst 54 dX8_ofPart_53 rfl (nI 1) rfl ?_
    refine AW.cV2 57 dX8_ofPart_54 rfl mi_X8_blocks mv_X8_blocks lk_X8_175 ⟨(Nat.le_of_ble_eq_true rfl), (Nat.le_of_ble_eq_true rfl)⟩ rfl (by assumption) rfl (Nat.le_of_ble_eq_true rfl) (r_blocks (b := true) G hc ?_)
    refine AW.iret dX8_ofPart_57 rfl ?_
    exact hP h K0 FrM.refl
  · refine AW.tsOut 58 dX8_ofPart_1 (Or.inr (by omega)) (by decide) ?_
    have hpm : ∀ b, b = decide (k = 4) → propM X.1.1 c k = cvM X.1.1 c b := fun b hb => by rw [propM, if_neg (by omega), if_neg (by omega), if_neg (by omega), if_neg (by omega), hb]
    refine AW.aload_n 59 dX8_ofPart_58 rfl (by rfl) ?_
    refine AW.iload_n 60 dX8_ofPart_59 rfl (by rfl) ?_
    refine AW.iload_n 61 dX8_ofPart_60 rfl (by rfl) ?_
    refine AW.iconst 62 dX8_ofPart_61 rfl (nI 4) rfl ?_
    refine AW.nne 69 65 dX8_ofPart_62 (by decide) rfl (by omega) (by omega) (fun c2 => ?_) (fun c2 => ?_)
    · refine AW.iconst 70 dX8_ofPart_69 rfl (nI 0) rfl ?_
      refine AW.cV2 73 dX8_ofPart_70 rfl mi_X8_covering mv_X8_covering lk_X8_179 ⟨(Nat.le_of_ble_eq_true rfl), (Nat.le_of_ble_eq_true rfl)⟩ rfl (by assumption) rfl (Nat.le_of_ble_eq_true rfl) (r_covering (b := false) K0 hc ?_)
      intro h' K' _ F
      refine AW.iret dX8_ofPart_73 rfl ?_
      have := hP h' K' F
      rw [hpm false (decide_eq_false c2).symm] at this
      exact this
    · refine AW.iconst 66 dX8_ofPart_65 rfl (nI 1) rfl ?_
      refine AW.goto 70 dX8_ofPart_66 (by decide) ?_
      refine AW.cV2 73 dX8_ofPart_70 rfl mi_X8_covering mv_X8_covering lk_X8_179 ⟨(Nat.le_of_ble_eq_true rfl), (Nat.le_of_ble_eq_true rfl)⟩ rfl (by assumption) rfl (Nat.le_of_ble_eq_true rfl) (r_covering (b := true) K0 hc ?_)
      intro h' K' _ F
      refine AW.iret dX8_ofPart_73 rfl ?_
      have := hP h' K' F
      rw [hpm true (decide_eq_true c2).symm] at this
      exact this
theorem r_of {s k : Int32} (K : RfAt h X) (hP : ∀ h', RfAt h' (ofM X s k).2 → FrR h h' → P (some (.int (ofM X s k).1)) N h') : AM X8_of [.ref 196, .int s, .int k] N h P := by
  obtain ⟨_, _, _, _, _, _, x196, -⟩ := id K.1
  have x197 : h 197 = .inl (0, (15, .inl (nowF X.1))) := K.2.1
  have w := K.2.2.2.2.2.2.2.2
  rw [ofM] at hP
  refine AM.of0 rfl (Nat.le_of_ble_eq_true rfl) rfl [some (.ref 196), some (.int s), some (.int k)] rfl ?_
  have F : (inB 6 s && inB 6 k) = false → AW X8_of 32 [some (.ref 196), some (.int s), some (.int k)] [] N (0, 0) h P := by
    intro e
    rw [e] at hP
    refine AW.aload_n 33 dX8_of_32 rfl (by rfl) ?_
    refine AW.bipush 35 dX8_of_33 rfl (-2) rfl ?_
    refine AW.cV1 38 dX8_of_35 rfl mi_X8_refuses mv_X8_refuses lk_X8_131 ⟨(Nat.le_of_ble_eq_true rfl), (Nat.le_of_ble_eq_true rfl)⟩ rfl (by assumption) rfl (Nat.le_of_ble_eq_true rfl) (r_bad K ?_)
    intro h' K' F
    refine AW.iret dX8_of_38 rfl ?_
    exact hP h' K' F
  refine AW.iload_n 1 dX8_of_0 rfl (by rfl) ?_
  refine AW.cS1 4 dX8_of_1 rfl mi_X8_isSlot ms_X8_isSlot lk_X8_104 ⟨(Nat.le_of_ble_eq_true rfl), (Nat.le_of_ble_eq_true rfl)⟩ rfl (Nat.le_of_ble_eq_true rfl) (r_isSlot ?_)
  refine AW.zeq 32 7 dX8_of_4 (by decide) rfl (fun c1 => ?_) (fun c1 => ?_)
  · exact F (by rw [c1]; rfl)
  · refine AW.iload_n 8 dX8_of_7 rfl (by rfl) ?_
    refine AW.iconst 9 dX8_of_8 rfl (nI 0) rfl ?_
    refine AW.iconst 10 dX8_of_9 rfl (nI 5) rfl ?_
    refine AW.cS3 13 dX8_of_10 rfl mi_X8_in ms_X8_in lk_X8_100 ⟨(Nat.le_of_ble_eq_true rfl), (Nat.le_of_ble_eq_true rfl)⟩ rfl (Nat.le_of_ble_eq_true rfl) (c_in ?_)
    rw [inB_eq (m := 5) (by omega)]
    refine AW.zeq 32 16 dX8_of_13 (by decide) rfl (fun c2 => ?_) (fun c2 => ?_)
    · exact F (by rw [c2, Bool.and_false])
    · rcases inB_cases (m := 6) (by omega) s with ⟨s', hs', rfl, e1⟩ | ⟨-, e1⟩
      · rcases inB_cases (m := 6) (by omega) k with ⟨k', hk', rfl, e2⟩ | ⟨-, e2⟩
        · refine AW.aload_n 17 dX8_of_16 rfl (by rfl) ?_
          refine AW.aload_n 18 dX8_of_17 rfl (by rfl) ?_
          refine AW.getfield 21 dX8_of_18 rfl fl_X8_7 (by assumption) (by rfl) ?_
          refine AW.iconst 22 dX8_of_21 rfl (nI 1) rfl ?_
          refine AW.iload_n 23 dX8_of_22 rfl (by rfl) ?_
          first | refine AW.iaddN 24 dX8_of_23 rfl ?_ | refine AW.iadd 24 dX8_of_23 rfl ?_
          refine AW.iaload 25 _ dX8_of_24 rfl (by assumption) (by first | exact Or.inl rfl | exact Or.inr rfl) (ix_nI (by omega)) (by omega) ?_
          rw [nowF_c hs']
          refine AW.iload_n 26 dX8_of_25 rfl (by rfl) ?_
          refine AW.cV2 29 dX8_of_26 rfl mi_X8_ofPart mv_X8_ofPart lk_X8_182 ⟨(Nat.le_of_ble_eq_true rfl), (Nat.le_of_ble_eq_true rfl)⟩ rfl (by assumption) rfl (Nat.le_of_ble_eq_true rfl) (r_ofPart K (w.2.2 s' hs').1 hk' ?_)
          intro h' K' F
          refine AW.goto 38 dX8_of_29 (by decide) ?_
          refine AW.iret dX8_of_38 rfl ?_
          rw [c1, e2, cl_nI (by omega), cl_nI (by omega)] at hP
          exact hP h' K' F.c
        · rw [e2] at c2; exact absurd c2 (by decide)
      · rw [e1] at c1; exact absurd c1 (by decide)
theorem r_row {s k : Int32} (K : RfAt h X) (hP : ∀ h', RfAt h' (rowM X s k).2 → FrR h h' → P (some (.int (rowM X s k).1)) N h') : AM X8_row [.ref 196, .int s, .int k] N h P := by
  obtain ⟨_, _, _, _, _, _, x196, -⟩ := id K.1
  have x197 : h 197 = .inl (0, (15, .inl (nowF X.1))) := K.2.1
  have w := K.2.2.2.2.2.2.2.2
  obtain ⟨w1, w2, w3⟩ := id w
  rw [rowM] at hP
  refine AM.of0 rfl (Nat.le_of_ble_eq_true rfl) rfl [some (.ref 196), some (.int s), some (.int k)] rfl ?_
  have F : (inB 6 s && inB X.1.1 k) = false → AW X8_row 30 [some (.ref 196), some (.int s), some (.int k)] [] N (0, 0) h P := by
    intro e
    rw [e] at hP
    refine AW.aload_n 31 dX8_row_30 rfl (by rfl) ?_
    refine AW.bipush 33 dX8_row_31 rfl (-2) rfl ?_
    refine AW.cV1 36 dX8_row_33 rfl mi_X8_refuses mv_X8_refuses lk_X8_131 ⟨(Nat.le_of_ble_eq_true rfl), (Nat.le_of_ble_eq_true rfl)⟩ rfl (by assumption) rfl (Nat.le_of_ble_eq_true rfl) (r_bad K ?_)
    intro h' K' F
    refine AW.iret dX8_row_36 rfl ?_
    exact hP h' K' F
  refine AW.iload_n 1 dX8_row_0 rfl (by rfl) ?_
  refine AW.cS1 4 dX8_row_1 rfl mi_X8_isSlot ms_X8_isSlot lk_X8_104 ⟨(Nat.le_of_ble_eq_true rfl), (Nat.le_of_ble_eq_true rfl)⟩ rfl (Nat.le_of_ble_eq_true rfl) (r_isSlot ?_)
  refine AW.zeq 30 7 dX8_row_4 (by decide) rfl (fun c1 => ?_) (fun c1 => ?_)
  · exact F (by rw [c1]; rfl)
  · refine AW.aload_n 8 dX8_row_7 rfl (by rfl) ?_
    refine AW.iload_n 9 dX8_row_8 rfl (by rfl) ?_
    refine AW.cV1 12 dX8_row_9 rfl mi_X8_isPoint mv_X8_isPoint lk_X8_107 ⟨(Nat.le_of_ble_eq_true rfl), (Nat.le_of_ble_eq_true rfl)⟩ rfl (by assumption) rfl (Nat.le_of_ble_eq_true rfl) (r_isPoint K.now ?_)
    refine AW.zeq 30 15 dX8_row_12 (by decide) rfl (fun c2 => ?_) (fun c2 => ?_)
    · exact F (by rw [c2, Bool.and_false])
    · rcases inB_cases (m := 6) (by omega) s with ⟨s', hs', rfl, e1⟩ | ⟨-, e1⟩
      · rcases inB_cases (m := X.1.1) (by omega) k with ⟨k', hk', rfl, e2⟩ | ⟨-, e2⟩
        · refine AW.aload_n 16 dX8_row_15 rfl (by rfl) ?_
          refine AW.getfield 19 dX8_row_16 rfl fl_X8_7 (by assumption) (by rfl) ?_
          refine AW.iconst 20 dX8_row_19 rfl (nI 1) rfl ?_
          refine AW.iload_n 21 dX8_row_20 rfl (by rfl) ?_
          first | refine AW.iaddN 22 dX8_row_21 rfl ?_ | refine AW.iadd 22 dX8_row_21 rfl ?_
          refine AW.iaload 23 _ dX8_row_22 rfl (by assumption) (by first | exact Or.inl rfl | exact Or.inr rfl) (ix_nI (by omega)) (by omega) ?_
          rw [nowF_c hs']
          refine AW.iload_n 24 dX8_row_23 rfl (by rfl) ?_
          refine AW.cS2 27 dX8_row_24 rfl mi_X8_rowOf ms_X8_rowOf lk_X8_64 ⟨(Nat.le_of_ble_eq_true rfl), (Nat.le_of_ble_eq_true rfl)⟩ rfl (Nat.le_of_ble_eq_true rfl) (c_rowOf (by omega) (w3 s' hs').1 ?_)
          refine AW.goto 36 dX8_row_27 (by decide) ?_
          refine AW.iret dX8_row_36 rfl ?_
          rw [c1, e2, cl_nI (by omega), cl_nI (by omega)] at hP
          exact hP h K FrR.refl
        · rw [e2] at c2; exact absurd c2 (by decide)
      · rw [e1] at c1; exact absurd c1 (by decide)
theorem r_below {a b : Int32} (K : RfAt h X) (hP : ∀ h', RfAt h' (belowM X a b).2 → FrR h h' → P (some (.int (belowM X a b).1)) N h') : AM X8_below [.ref 196, .int a, .int b] N h P := by
  obtain ⟨_, _, _, _, _, _, x196, -⟩ := id K.1
  have x197 : h 197 = .inl (0, (15, .inl (nowF X.1))) := K.2.1
  have w := K.2.2.2.2.2.2.2.2
  rw [belowM] at hP
  refine AM.of0 rfl (Nat.le_of_ble_eq_true rfl) rfl [some (.ref 196), some (.int a), some (.int b)] rfl ?_
  have F : (inB 6 a && inB 6 b) = false → AW X8_below 14 [some (.ref 196), some (.int a), some (.int b)] [] N (0, 0) h P := by
    intro e
    rw [e] at hP
    refine AW.aload_n 15 dX8_below_14 rfl (by rfl) ?_
    refine AW.bipush 17 dX8_below_15 rfl (-2) rfl ?_
    refine AW.cV1 20 dX8_below_17 rfl mi_X8_refuses mv_X8_refuses lk_X8_131 ⟨(Nat.le_of_ble_eq_true rfl), (Nat.le_of_ble_eq_true rfl)⟩ rfl (by assumption) rfl (Nat.le_of_ble_eq_true rfl) (r_bad K ?_)
    intro h' K' F
    refine AW.iret dX8_below_20 rfl ?_
    exact hP h' K' F
  refine AW.iload_n 1 dX8_below_0 rfl (by rfl) ?_
  refine AW.cS1 4 dX8_below_1 rfl mi_X8_isSlot ms_X8_isSlot lk_X8_104 ⟨(Nat.le_of_ble_eq_true rfl), (Nat.le_of_ble_eq_true rfl)⟩ rfl (Nat.le_of_ble_eq_true rfl) (r_isSlot ?_)
  refine AW.zeq 14 7 dX8_below_4 (by decide) rfl (fun c1 => ?_) (fun c1 => ?_)
  · exact F (by rw [c1]; rfl)
  · refine AW.iload_n 8 dX8_below_7 rfl (by rfl) ?_
    refine AW.cS1 11 dX8_below_8 rfl mi_X8_isSlot ms_X8_isSlot lk_X8_104 ⟨(Nat.le_of_ble_eq_true rfl), (Nat.le_of_ble_eq_true rfl)⟩ rfl (Nat.le_of_ble_eq_true rfl) (r_isSlot ?_)
    refine AW.zne 21 14 dX8_below_11 (by decide) rfl (fun c2 => ?_) (fun c2 => ?_)
    · rcases inB_cases (m := 6) (by omega) a with ⟨a', ha', rfl, e1⟩ | ⟨-, e1⟩
      · rcases inB_cases (m := 6) (by omega) b with ⟨b', hb', rfl, e2⟩ | ⟨-, e2⟩
        · refine AW.aload_n 22 dX8_below_21 rfl (by rfl) ?_
          refine AW.aload_n 23 dX8_below_22 rfl (by rfl) ?_
          refine AW.getfield 26 dX8_below_23 rfl fl_X8_7 (by assumption) (by rfl) ?_
          refine AW.iconst 27 dX8_below_26 rfl (nI 1) rfl ?_
          refine AW.iload_n 28 dX8_below_27 rfl (by rfl) ?_
          first | refine AW.iaddN 29 dX8_below_28 rfl ?_ | refine AW.iadd 29 dX8_below_28 rfl ?_
          refine AW.iaload 30 _ dX8_below_29 rfl (by assumption) (by first | exact Or.inl rfl | exact Or.inr rfl) (ix_nI (by omega)) (by omega) ?_
          rw [nowF_c ha']
          refine AW.aload_n 31 dX8_below_30 rfl (by rfl) ?_
          refine AW.getfield 34 dX8_below_31 rfl fl_X8_7 (by assumption) (by rfl) ?_
          refine AW.iconst 35 dX8_below_34 rfl (nI 1) rfl ?_
          refine AW.iload_n 36 dX8_below_35 rfl (by rfl) ?_
          first | refine AW.iaddN 37 dX8_below_36 rfl ?_ | refine AW.iadd 37 dX8_below_36 rfl ?_
          refine AW.iaload 38 _ dX8_below_37 rfl (by assumption) (by first | exact Or.inl rfl | exact Or.inr rfl) (ix_nI (by omega)) (by omega) ?_
          rw [nowF_c hb']
          refine AW.cV2 41 dX8_below_38 rfl mi_X8_isBelow mv_X8_isBelow lk_X8_171 ⟨(Nat.le_of_ble_eq_true rfl), (Nat.le_of_ble_eq_true rfl)⟩ rfl (by assumption) rfl (Nat.le_of_ble_eq_true rfl) (c_isBelow K.now (w.2.2 a' ha').1 (w.2.2 b' hb').1 ?_)
          rw [c1, e2, cl_nI (by omega), cl_nI (by omega)] at hP
          have := hP h K FrR.refl
          refine AW.zeq 48 44 dX8_below_41 (by decide) rfl (fun c3 => ?_) (fun c3 => ?_)
          · refine AW.iconst 49 dX8_below_48 rfl (nI 0) rfl ?_
            refine AW.iret dX8_below_49 rfl ?_
            simp only [c3, Bool.and_self, if_true] at this
            exact this
          · refine AW.iconst 45 dX8_below_44 rfl (nI 1) rfl ?_
            refine AW.goto 49 dX8_below_45 (by decide) ?_
            refine AW.iret dX8_below_49 rfl ?_
            simp only [c3, Bool.and_self, if_true] at this
            exact this
        · rw [e2] at c2; exact absurd c2 (by decide)
      · rw [e1] at c1; exact absurd c1 (by decide)
    · exact F (by rw [c2, Bool.and_false])
theorem r_counted {k : Nat} (K0 : RfAt h X) (hk : k < 10) (hP : ∀ h', RfAt h' X → FrM h h' → P (some (.int (nI (amtM X.1.1 k)))) N h') : AM X8_counted [.ref 196, .int (nI k)] N h P := by
  obtain ⟨_, _, _, _, _, _, x196, -⟩ := id K0.1
  have n0 : nowF X.1 0 = nI X.1.1 := rfl
  have w := K0.2.2.2.2.2.2.2.2
  refine AM.of0 rfl (Nat.le_of_ble_eq_true rfl) rfl [some (.ref 196), some (.int (nI k)), none, none] rfl ?_
  refine AW.aload_n 1 dX8_counted_0 rfl (by rfl) ?_
  refine AW.cV0 4 dX8_counted_1 rfl mi_X8_lay mv_X8_lay lk_X8_97 ⟨(Nat.le_of_ble_eq_true rfl), (Nat.le_of_ble_eq_true rfl)⟩ rfl (by assumption) rfl (Nat.le_of_ble_eq_true rfl) (r_lay K0 ?_)
  intro H K D F1
  obtain ⟨⟨_, _, _, _, _, _, y196⟩, f, r, y2, y3, y4⟩ := id D
  have y197 : H 197 = .inl (0, (15, .inl (nowF X.1))) := K.2.1
  have c6 := catN_le X.1.1 w.2.1
  have w2 := w.2.1
  refine AW.iload_n 5 dX8_counted_4 rfl (by rfl) ?_
  refine AW.iconst 6 dX8_counted_5 rfl (nI 2) rfl ?_
  refine AW.nge 27 9 dX8_counted_6 (by decide) rfl (by omega) (by omega) (fun c1 => ?_) (fun c1 => ?_)
  · refine AW.iconst 28 dX8_counted_27 rfl (nI 0) rfl ?_
    refine AW.istore_n 29 dX8_counted_28 rfl (Nat.le_of_ble_eq_true rfl) rfl ?_
    refine AW.iconst 30 dX8_counted_29 rfl (nI 0) rfl ?_
    refine AW.istore_n 31 dX8_counted_30 rfl (Nat.le_of_ble_eq_true rfl) rfl ?_
    have L : ∀ j x, x + j = catN X.1.1 → AW X8_counted 31 [some (.ref 196), some (.int (nI k)), some (.int (nI (cnt (fun i => if rkM X.1.1 (tb X.1.1 i) = k - 2 then 1 else 0) x))), some (.int (nI x))] [] N (0, 0) H P := by
      intro j
      induction j with
      | zero =>
        intro x hx
        refine AW.iload_n 32 dX8_counted_31 rfl (by rfl) ?_
        refine AW.aload_n 33 dX8_counted_32 rfl (by rfl) ?_
        refine AW.getfield 36 dX8_counted_33 rfl fl_X8_87 (by assumption) (by rfl) ?_
        refine AW.nge 65 39 dX8_counted_36 (by decide) rfl (by omega) (by omega) (fun c2 => ?_) (fun c2 => ?_)
        · obtain rfl : x = catN X.1.1 := by omega
          refine AW.iload_n 66 dX8_counted_65 rfl (by rfl) ?_
          refine AW.iret dX8_counted_66 rfl ?_
          have := hP H K F1
          rw [amtM, if_neg (by omega), if_neg (by omega)] at this
          exact this
        · omega
      | succ j ih =>
        intro x hx
        have r2 := rkM_le X.1.1 (tb X.1.1 x)
        obtain ⟨y5, y6⟩ := y4 x (by omega)
        refine AW.iload_n 32 dX8_counted_31 rfl (by rfl) ?_
        refine AW.aload_n 33 dX8_counted_32 rfl (by rfl) ?_
        refine AW.getfield 36 dX8_counted_33 rfl fl_X8_87 (by assumption) (by rfl) ?_
        refine AW.nge 65 39 dX8_counted_36 (by decide) rfl (by omega) (by omega) (fun c2 => ?_) (fun c2 => ?_)
        · omega
        · refine AW.iload_n 40 dX8_counted_39 rfl (by rfl) ?_
          refine AW.aload_n 41 dX8_counted_40 rfl (by rfl) ?_
          refine AW.getfield 44 dX8_counted_41 rfl fl_X8_31 (by assumption) (by rfl) ?_
          refine AW.iload_n 45 dX8_counted_44 rfl (by rfl) ?_
          refine AW.iaload 46 _ dX8_counted_45 rfl (by assumption) (by first | exact Or.inl rfl | exact Or.inr rfl) (ix_nI (by omega)) (by omega) ?_
          rw [y6]
          refine AW.iload_n 47 dX8_counted_46 rfl (by rfl) ?_
          refine AW.iconst 48 dX8_counted_47 rfl (nI 2) rfl ?_
          first | refine AW.isubN 49 dX8_counted_48 rfl (by omega) ?_ | refine AW.isub 49 dX8_counted_48 rfl ?_
          have J : ∀ v, v = (if rkM X.1.1 (tb X.1.1 x) = k - 2 then 1 else 0) → AW X8_counted 57 [some (.ref 196), some (.int (nI k)), some (.int (nI (cnt (fun i => if rkM X.1.1 (tb X.1.1 i) = k - 2 then 1 else 0) x))), some (.int (nI x))] [.int (nI v), .int (nI (cnt (fun i => if rkM X.1.1 (tb X.1.1 i) = k - 2 then 1 else 0) x))] N (0, 0) H P := by
            intro v hv
            first | refine AW.iaddN 58 dX8_counted_57 rfl ?_ | refine AW.iadd 58 dX8_counted_57 rfl ?_
            refine AW.istore_n 59 dX8_counted_58 rfl (Nat.le_of_ble_eq_true rfl) rfl ?_
            refine AW.iinc1 62 dX8_counted_59 rfl (by rfl) rfl ?_
            refine AW.goto 31 dX8_counted_62 (by decide) ?_
            rw [hv]
            exact ih (x + 1) (by omega)
          refine AW.nne 56 52 dX8_counted_49 (by decide) rfl (by omega) (by omega) (fun c3 => ?_) (fun c3 => ?_)
          · refine AW.iconst 57 dX8_counted_56 rfl (nI 0) rfl ?_
            exact J _ (by rw [if_neg c3])
          · refine AW.iconst 53 dX8_counted_52 rfl (nI 1) rfl ?_
            refine AW.goto 57 dX8_counted_53 (by decide) ?_
            exact J _ (by rw [if_pos c3])
    exact L (catN X.1.1) 0 (by omega)
  · refine AW.iload_n 10 dX8_counted_9 rfl (by rfl) ?_
    refine AW.ine 22 13 dX8_counted_10 (by decide) rfl (by omega) (fun c2 => ?_) (fun c2 => ?_)
    · refine AW.aload_n 23 dX8_counted_22 rfl (by rfl) ?_
      refine AW.getfield 26 dX8_counted_23 rfl fl_X8_87 (by assumption) (by rfl) ?_
      refine AW.iret dX8_counted_26 rfl ?_
      have := hP H K F1
      rw [amtM, if_neg (by omega), if_pos (by omega)] at this
      exact this
    · refine AW.aload_n 14 dX8_counted_13 rfl (by rfl) ?_
      refine AW.getfield 17 dX8_counted_14 rfl fl_X8_7 (by assumption) (by rfl) ?_
      refine AW.iconst 18 dX8_counted_17 rfl (nI 0) rfl ?_
      refine AW.iaload 19 _ dX8_counted_18 rfl (by assumption) (by first | exact Or.inl rfl | exact Or.inr rfl) (ix_nI (by omega)) (by omega) ?_
      rw [n0]
      refine AW.goto 26 dX8_counted_19 (by decide) ?_
      refine AW.iret dX8_counted_26 rfl ?_
      have := hP H K F1
      rw [amtM, if_pos (by omega)] at this
      exact this
theorem r_count {k : Int32} (K : RfAt h X) (hP : ∀ h', RfAt h' (countM X k).2 → FrR h h' → P (some (.int (countM X k).1)) N h') : AM X8_count [.ref 196, .int k] N h P := by
  obtain ⟨_, _, _, _, _, _, x196, -⟩ := id K.1
  rw [countM] at hP
  refine AM.of0 rfl (Nat.le_of_ble_eq_true rfl) rfl [some (.ref 196), some (.int k)] rfl ?_
  refine AW.iload_n 1 dX8_count_0 rfl (by rfl) ?_
  refine AW.iconst 2 dX8_count_1 rfl (nI 0) rfl ?_
  refine AW.bipush 4 dX8_count_2 rfl (nI 9) rfl ?_
  refine AW.cS3 7 dX8_count_4 rfl mi_X8_in ms_X8_in lk_X8_100 ⟨(Nat.le_of_ble_eq_true rfl), (Nat.le_of_ble_eq_true rfl)⟩ rfl (Nat.le_of_ble_eq_true rfl) (c_in ?_)
  rw [inB_eq (m := 9) (by omega)]
  refine AW.zeq 18 10 dX8_count_7 (by decide) rfl (fun c2 => ?_) (fun c2 => ?_)
  · refine AW.aload_n 19 dX8_count_18 rfl (by rfl) ?_
    refine AW.bipush 21 dX8_count_19 rfl (-2) rfl ?_
    refine AW.cV1 24 dX8_count_21 rfl mi_X8_refuses mv_X8_refuses lk_X8_131 ⟨(Nat.le_of_ble_eq_true rfl), (Nat.le_of_ble_eq_true rfl)⟩ rfl (by assumption) rfl (Nat.le_of_ble_eq_true rfl) (r_bad K ?_)
    intro h' K' F
    refine AW.iret dX8_count_24 rfl ?_
    rw [c2] at hP
    exact hP h' K' F
  · rcases inB_cases (m := 10) (by omega) k with ⟨k', hk', rfl, e2⟩ | ⟨-, e2⟩
    · refine AW.aload_n 11 dX8_count_10 rfl (by rfl) ?_
      refine AW.iload_n 12 dX8_count_11 rfl (by rfl) ?_
      refine AW.cV1 15 dX8_count_12 rfl mi_X8_counted mv_X8_counted lk_X8_185 ⟨(Nat.le_of_ble_eq_true rfl), (Nat.le_of_ble_eq_true rfl)⟩ rfl (by assumption) rfl (Nat.le_of_ble_eq_true rfl) (r_counted K hk' ?_)
      intro h' K' F
      refine AW.goto 24 dX8_count_15 (by decide) ?_
      refine AW.iret dX8_count_24 rfl ?_
      rw [e2, cl_nI (by omega)] at hP
      exact hP h' K' F.c
    · rw [e2] at c2; exact absurd c2 (by decide)
end REFE
