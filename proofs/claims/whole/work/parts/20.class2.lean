/-! THE CLASS, its queries -/
def undF (n a b : Nat) : Bool := alln (fun x => cr n b x == cr n b (cr n a x)) n
def ofR (X : aX) (s w : Int32) : Int32 × aX := if inB 6 s && inB 6 w then (nI (propF X.1.1 (X.1.2.1 (cl s)) (cl w)), X) else badX X
def rowR (X : aX) (s x : Int32) : Int32 × aX := if inB 6 s && inB X.1.1 x then (nI (cr X.1.1 (X.1.2.1 (cl s)) (cl x)), X) else badX X
def belowR (X : aX) (a b : Int32) : Int32 × aX := if inB 6 a && inB 6 b then (nI (b01 (undF X.1.1 (X.1.2.1 (cl a)) (X.1.2.1 (cl b)))), X) else badX X
def countR (X : aX) (w : Int32) : Int32 × aX := if inB 10 w then (amtF X.1.1 (cl w), X) else badX X
def evensR (X : aX) : Int32 × aX := if X.1.1 % 2 = 0 then (nI (chF X.1.1 (X.1.1 / 2)), X) else noX X
def ngB (i : Int32) : Bool := decide (0 ≤ i)
def coversR (X : aX) (s i : Int32) : Int32 × aX := if inB 6 s && ngB i then (cvR (cvY (cr X.1.1 (X.1.2.1 (cl s))) X.1.1 (cl i) (X.1.1 - 1) 1 0), X) else badX X
def markR (X : aX) (a b : Int32) : Int32 × aX := if inB 6 a && inB 6 b then (if undF X.1.1 (X.1.2.1 (cl a)) (X.1.2.1 (cl b)) && rankF (cr X.1.1 (X.1.2.1 (cl b))) X.1.1 == rankF (cr X.1.1 (X.1.2.1 (cl a))) X.1.1 + 1 then (nI (lblF (cr X.1.1 (X.1.2.1 (cl a))) (cr X.1.1 (X.1.2.1 (cl b))) X.1.1), X) else noX X) else badX X
def intR (g : Nat → Nat → Nat → Int32) (X : aX) (a b : Int32) : Int32 × aX := if inB 6 a && inB 6 b then (if undF X.1.1 (X.1.2.1 (cl a)) (X.1.2.1 (cl b)) then (g X.1.1 (X.1.2.1 (cl a)) (X.1.2.1 (cl b)), X) else noX X) else badX X
def chnF (n a b : Nat) : Int32 := nI (copF (cr n (inC n a b)) n n).2
def sgnF (n a b : Nat) : Int32 := mopF (cr n (inC n a b)) n n
def btwF (n a b : Nat) : Int32 := nI (sopF (cr n (inC n a b)) n n)
def labF : Nat → Nat → Bool
  | 0, v => decide (v = 0)
  | k + 1, v => decide (v % 10 ≤ 7) && labF k (v / 10)
def markedR (X : aX) (v : Int32) : Int32 × aX := if ngB v && labF (X.1.1 - 1) (cl v) then (nI (b01 (prkF X.1.1 (cl v))), X) else badX X
def asR (X : aX) (j k n : Int32) : Int64 × aX := if inB 3 j && (inB 3 k && rgB 1 8 n) then (asF (cl j) (cl k) X.1.2.2 (cl n), X) else (-1000000000000000, (badX X).2)
def typeR (X : aX) (c : Int32) : Int32 × aX := if inB 128 c then (if X.2.2.2.2 < 120 then (nI (X.2.2.2.2 + 1), (X.1, X.2.1, X.2.2.1, (upN X.2.2.2.1 X.2.2.2.2 (cl c), X.2.2.2.2 + 1))) else fulX X) else badX X
def clearR (X : aX) : Int32 × aX := (nI X.2.2.2.2, (X.1, X.2.1, X.2.2.1, (X.2.2.2.1, 0)))
def backR (X : aX) : Int32 × aX := if X.2.1.1 = 0 then noX X else (nI (X.2.1.1 - 1), (X.2.1.2 0, ppU X.2.1, X.2.2))
def tldF (X : aX) (w : Nat) : Int32 := match w with
  | 0 => nI X.2.2.1.1
  | 1 => nI X.2.2.1.2.1
  | 2 => nI X.2.2.1.2.2
  | 3 => nI X.2.2.2.2
  | _ => nI X.2.1.1
def toldR (X : aX) (w : Int32) : Int32 × aX := if inB 5 w then (tldF X (cl w), X) else badX X
theorem slot_two (a b : Int32) (c1 : slotB a = true) (c2 : slotB b = true) : ∃ a' b', a' < 6 ∧ b' < 6 ∧ a = nI a' ∧ b = nI b' ∧ inB 6 a = true ∧ inB 6 b = true := by
  rcases inB_cases (m := 6) (by omega) a with ⟨a', ha', rfl, e1⟩ | ⟨-, e1⟩
  · rcases inB_cases (m := 6) (by omega) b with ⟨b', hb', rfl, e2⟩ | ⟨-, e2⟩
    · exact ⟨a', b', ha', hb', rfl, rfl, e1, e2⟩
    · rw [← slotB_eq, c2] at e2; cases e2
  · rw [← slotB_eq, c1] at e1; cases e1
section CLS2
variable {N : Nat} {h : aH} {P : aP} {X : aX}
theorem c_of {s w : Int32} (K : ClsAt h X) (hV : VdS X.1) (hP : ∀ h', ClsAt h' (ofR X s w).2 → FrC h h' → P (some (.int (ofR X s w).1)) N h') : AM X7_of [.ref 3, .int s, .int w] N h P := by
  have k3 := K.2.2.1
  refine AM.of0 rfl (Nat.le_of_ble_eq_true rfl) rfl [some (.ref 3), some (.int s), some (.int w)] rfl ?_
  have F : (inB 6 s && inB 6 w) = false → AW X7_of 17 [some (.ref 3), some (.int s), some (.int w)] [] N (0, 0) h P := by
    intro e
    rw [ofR, e] at hP
    refine AW.aload_n 18 dX7_of_17 rfl (by rfl) ?_
    refine AW.cV0 21 dX7_of_18 rfl mi_X7_bad mv_X7_bad lk_X7_86 ⟨(Nat.le_of_ble_eq_true rfl), (Nat.le_of_ble_eq_true rfl)⟩ rfl (by assumption) rfl (Nat.le_of_ble_eq_true rfl) (c_bad K (fun h' K' f' => ?_))
    refine AW.iret dX7_of_21 rfl ?_
    exact hP h' K' f'
  refine AW.iload_n 1 dX7_of_0 rfl (by rfl) ?_
  refine AW.cS1 4 dX7_of_1 rfl mi_X7_isSlot ms_X7_isSlot lk_X7_82 ⟨(Nat.le_of_ble_eq_true rfl), (Nat.le_of_ble_eq_true rfl)⟩ rfl (Nat.le_of_ble_eq_true rfl) (c_isSlot ?_)
  refine AW.zeq 17 7 dX7_of_4 (by decide) rfl (fun c1 => ?_) (fun c1 => ?_)
  · exact F (by rw [← slotB_eq s, c1]; rfl)
  · refine AW.iload_n 8 dX7_of_7 rfl (by rfl) ?_
    refine AW.if_lt 17 11 dX7_of_8 (by decide) rfl (fun c2 => ?_) (fun c2 => ?_)
    · exact F (by rw [inB_f (by omega) (Or.inl c2), Bool.and_false])
    · refine AW.iload_n 12 dX7_of_11 rfl (by rfl) ?_
      refine AW.bipush 14 dX7_of_12 rfl (nI 6) rfl ?_
      refine AW.icmp_lt 22 17 dX7_of_14 (by decide) rfl (fun c3 => ?_) (fun c3 => ?_)
      · rcases inB_cases (m := 6) (by omega) s with ⟨s', hs', rfl, e1⟩ | ⟨-, e1⟩
        · rcases inB_cases (m := 6) (by omega) w with ⟨w', hw', rfl, e2⟩ | ⟨z, -⟩
          · have eR : ofR X (nI s') (nI w') = (nI (propF X.1.1 (X.1.2.1 s') w'), X) := by simp only [ofR, e1, e2, Bool.and_self, if_true, cl_nI (show s' < 2147483648 by omega), cl_nI (show w' < 2147483648 by omega)]
            rw [eR] at hP
            refine AW.aload_n 23 dX7_of_22 rfl (by rfl) ?_
            refine AW.getfield 26 dX7_of_23 rfl fl_X7_10 (by assumption) (by rfl) ?_
            refine AW.iload_n 27 dX7_of_26 rfl (by rfl) ?_
            refine AW.iload_n 28 dX7_of_27 rfl (by rfl) ?_
            have k4 := K.2.2.2.1.1
            refine AW.cV2 31 dX7_of_28 rfl mi_X0_property mv_X0_property lk_X7_90 ⟨(Nat.le_of_ble_eq_true rfl), (Nat.le_of_ble_eq_true rfl)⟩ rfl (by assumption) rfl (Nat.le_of_ble_eq_true rfl) (c_property K.2.2.2.1 hs' hw' (hV s' hs').1 (fun h' B' f' => ?_))
            refine AW.iret dX7_of_31 rfl ?_
            exact hP h' (K.brd B' f') f'.c
          · rcases z with z | z
            · exact absurd z c2
            · exact (Int32.lt_irrefl (Int32.lt_of_lt_of_le c3 z)).elim
        · rw [← slotB_eq, c1] at e1; cases e1
      · exact F (by rw [inB_f (x := w) (by omega) (Or.inr (Int32.not_lt.mp c3)), Bool.and_false])
theorem c_row {s x : Int32} (K : ClsAt h X) (hP : ∀ h', ClsAt h' (rowR X s x).2 → FrC h h' → P (some (.int (rowR X s x).1)) N h') : AM X7_row [.ref 3, .int s, .int x] N h P := by
  have k3 := K.2.2.1
  have k4 := K.2.2.2.1.1
  have B := K.2.2.2.1
  have hn := B.2.1.2.2.2.2.2.1
  refine AM.of0 rfl (Nat.le_of_ble_eq_true rfl) rfl [some (.ref 3), some (.int s), some (.int x)] rfl ?_
  have F : (inB 6 s && inB X.1.1 x) = false → AW X7_row 18 [some (.ref 3), some (.int s), some (.int x)] [] N (0, 0) h P := by
    intro e
    rw [rowR, e] at hP
    refine AW.aload_n 19 dX7_row_18 rfl (by rfl) ?_
    refine AW.cV0 22 dX7_row_19 rfl mi_X7_bad mv_X7_bad lk_X7_86 ⟨(Nat.le_of_ble_eq_true rfl), (Nat.le_of_ble_eq_true rfl)⟩ rfl (by assumption) rfl (Nat.le_of_ble_eq_true rfl) (c_bad K (fun h' K' f' => ?_))
    refine AW.iret dX7_row_22 rfl ?_
    exact hP h' K' f'
  refine AW.iload_n 1 dX7_row_0 rfl (by rfl) ?_
  refine AW.cS1 4 dX7_row_1 rfl mi_X7_isSlot ms_X7_isSlot lk_X7_82 ⟨(Nat.le_of_ble_eq_true rfl), (Nat.le_of_ble_eq_true rfl)⟩ rfl (Nat.le_of_ble_eq_true rfl) (c_isSlot ?_)
  refine AW.zeq 18 7 dX7_row_4 (by decide) rfl (fun c1 => ?_) (fun c1 => ?_)
  · exact F (by rw [← slotB_eq s, c1]; rfl)
  · refine AW.aload_n 8 dX7_row_7 rfl (by rfl) ?_
    refine AW.getfield 11 dX7_row_8 rfl fl_X7_10 (by assumption) (by rfl) ?_
    refine AW.iload_n 12 dX7_row_11 rfl (by rfl) ?_
    refine AW.cV1 15 dX7_row_12 rfl mi_X0_isPoint mv_X0_isPoint lk_X7_93 ⟨(Nat.le_of_ble_eq_true rfl), (Nat.le_of_ble_eq_true rfl)⟩ rfl (by assumption) rfl (Nat.le_of_ble_eq_true rfl) (c_isPoint B ?_)
    refine AW.zne 23 18 dX7_row_15 (by decide) rfl (fun c2 => ?_) (fun c2 => ?_)
    · rcases inB_cases (m := 6) (by omega) s with ⟨s', hs', rfl, e1⟩ | ⟨-, e1⟩
      · rcases inB_cases (m := X.1.1) (by omega) x with ⟨x', hx', rfl, e2⟩ | ⟨-, e2⟩
        · have eR : rowR X (nI s') (nI x') = (nI (cr X.1.1 (X.1.2.1 s') x'), X) := by simp only [rowR, e1, e2, Bool.and_self, if_true, cl_nI (show s' < 2147483648 by omega), cl_nI (show x' < 2147483648 by omega)]
          rw [eR] at hP
          obtain ⟨p1, p2⟩ := B.2.1.2.2.1 s' hs'
          refine AW.aload_n 24 dX7_row_23 rfl (by rfl) ?_
          refine AW.getfield 27 dX7_row_24 rfl fl_X7_10 (by assumption) (by rfl) ?_
          refine AW.iload_n 28 dX7_row_27 rfl (by rfl) ?_
          refine AW.cV1 31 dX7_row_28 rfl mi_X0_part mv_X0_part lk_X7_96 ⟨(Nat.le_of_ble_eq_true rfl), (Nat.le_of_ble_eq_true rfl)⟩ rfl (by assumption) rfl (Nat.le_of_ble_eq_true rfl) (c_part B hs' ?_)
          refine AW.getfield 34 dX7_row_31 rfl fl_X7_100 (by assumption) (by rfl) ?_
          refine AW.iload_n 35 dX7_row_34 rfl (by rfl) ?_
          refine AW.iaload 36 _ dX7_row_35 rfl (by assumption) (by first | exact Or.inl rfl | exact Or.inr rfl) (ix_nI (by omega)) (by omega) ?_
          refine AW.iret dX7_row_36 rfl ?_
          exact hP h K (fun _ _ => rfl)
        · rw [c2] at e2; cases e2
      · rw [← slotB_eq, c1] at e1; cases e1
    · exact F (by rw [c2, Bool.and_false])
theorem c_under {a b pa pb : Nat} (K : ClsAt h X) (ha : a < 6) (hb : b < 6) (hpa : pa = 5 + 2 + 2 * a) (hpb : pb = 5 + 2 + 2 * b) (hP : P (some (.int (nI (b01 (undF X.1.1 (X.1.2.1 a) (X.1.2.1 b)))))) N h) : AM X3_isUnder [.ref pa, .ref pb] N h P := by
  subst hpa
  subst hpb
  obtain ⟨p1, p2⟩ := K.2.2.2.1.2.1.2.2.1 a ha
  obtain ⟨p3, p4⟩ := K.2.2.2.1.2.1.2.2.1 b hb
  have hn := K.2.2.2.1.2.1.2.2.2.2.2.1
  exact c_isUnder p1 p2 p3 p4 hn (fun x hx => cr_lt _ _ x (by omega)) (fun x hx => cr_lt _ _ x (by omega)) hP
theorem c_below {a b : Int32} (K : ClsAt h X) (hP : ∀ h', ClsAt h' (belowR X a b).2 → FrC h h' → P (some (.int (belowR X a b).1)) N h') : AM X7_below [.ref 3, .int a, .int b] N h P := by
  have k3 := K.2.2.1
  have k4 := K.2.2.2.1.1
  have B := K.2.2.2.1
  refine AM.of0 rfl (Nat.le_of_ble_eq_true rfl) rfl [some (.ref 3), some (.int a), some (.int b)] rfl ?_
  have F : (inB 6 a && inB 6 b) = false → AW X7_below 14 [some (.ref 3), some (.int a), some (.int b)] [] N (0, 0) h P := by
    intro e
    rw [belowR, e] at hP
    refine AW.aload_n 15 dX7_below_14 rfl (by rfl) ?_
    refine AW.cV0 18 dX7_below_15 rfl mi_X7_bad mv_X7_bad lk_X7_86 ⟨(Nat.le_of_ble_eq_true rfl), (Nat.le_of_ble_eq_true rfl)⟩ rfl (by assumption) rfl (Nat.le_of_ble_eq_true rfl) (c_bad K (fun h' K' f' => ?_))
    refine AW.iret dX7_below_18 rfl ?_
    exact hP h' K' f'
  refine AW.iload_n 1 dX7_below_0 rfl (by rfl) ?_
  refine AW.cS1 4 dX7_below_1 rfl mi_X7_isSlot ms_X7_isSlot lk_X7_82 ⟨(Nat.le_of_ble_eq_true rfl), (Nat.le_of_ble_eq_true rfl)⟩ rfl (Nat.le_of_ble_eq_true rfl) (c_isSlot ?_)
  refine AW.zeq 14 7 dX7_below_4 (by decide) rfl (fun c1 => ?_) (fun c1 => ?_)
  · exact F (by rw [← slotB_eq a, c1]; rfl)
  · refine AW.iload_n 8 dX7_below_7 rfl (by rfl) ?_
    refine AW.cS1 11 dX7_below_8 rfl mi_X7_isSlot ms_X7_isSlot lk_X7_82 ⟨(Nat.le_of_ble_eq_true rfl), (Nat.le_of_ble_eq_true rfl)⟩ rfl (Nat.le_of_ble_eq_true rfl) (c_isSlot ?_)
    refine AW.zne 19 14 dX7_below_11 (by decide) rfl (fun c2 => ?_) (fun c2 => ?_)
    · obtain ⟨a', b', ha', hb', rfl, rfl, e1, e2⟩ := slot_two a b c1 c2
      have eR : belowR X (nI a') (nI b') = (nI (b01 (undF X.1.1 (X.1.2.1 a') (X.1.2.1 b'))), X) := by simp only [belowR, e1, e2, Bool.and_self, if_true, cl_nI (show a' < 2147483648 by omega), cl_nI (show b' < 2147483648 by omega)]
      rw [eR] at hP
      obtain ⟨p1, p2⟩ := B.2.1.2.2.1 a' ha'
      refine AW.aload_n 20 dX7_below_19 rfl (by rfl) ?_
      refine AW.getfield 23 dX7_below_20 rfl fl_X7_10 (by assumption) (by rfl) ?_
      refine AW.iload_n 24 dX7_below_23 rfl (by rfl) ?_
      refine AW.cV1 27 dX7_below_24 rfl mi_X0_part mv_X0_part lk_X7_96 ⟨(Nat.le_of_ble_eq_true rfl), (Nat.le_of_ble_eq_true rfl)⟩ rfl (by assumption) rfl (Nat.le_of_ble_eq_true rfl) (c_part B ha' ?_)
      refine AW.aload_n 28 dX7_below_27 rfl (by rfl) ?_
      refine AW.getfield 31 dX7_below_28 rfl fl_X7_10 (by assumption) (by rfl) ?_
      refine AW.iload_n 32 dX7_below_31 rfl (by rfl) ?_
      refine AW.cV1 35 dX7_below_32 rfl mi_X0_part mv_X0_part lk_X7_96 ⟨(Nat.le_of_ble_eq_true rfl), (Nat.le_of_ble_eq_true rfl)⟩ rfl (by assumption) rfl (Nat.le_of_ble_eq_true rfl) (c_part B hb' ?_)
      refine AW.cV1 38 dX7_below_35 rfl mi_X3_isUnder mv_X3_isUnder lk_X7_106 ⟨(Nat.le_of_ble_eq_true rfl), (Nat.le_of_ble_eq_true rfl)⟩ rfl (by assumption) rfl (Nat.le_of_ble_eq_true rfl) (c_under K ha' hb' rfl rfl ?_)
      refine AW.zeq 45 41 dX7_below_38 (by decide) rfl (fun c3 => ?_) (fun c3 => ?_)
      · refine AW.iconst 46 dX7_below_45 rfl (nI 0) rfl ?_
        refine AW.iret dX7_below_46 rfl ?_
        rw [b01_f c3] at hP
        exact hP h K (fun _ _ => rfl)
      · refine AW.iconst 42 dX7_below_41 rfl (nI 1) rfl ?_
        refine AW.goto 46 dX7_below_42 (by decide) ?_
        refine AW.iret dX7_below_46 rfl ?_
        rw [b01_t c3] at hP
        exact hP h K (fun _ _ => rfl)
    · exact F (by rw [← slotB_eq b, c2, Bool.and_false])
theorem c_count {w : Int32} (K : ClsAt h X) (hP : ∀ h', ClsAt h' (countR X w).2 → FrC h h' → P (some (.int (countR X w).1)) N h') : AM X7_count [.ref 3, .int w] N h P := by
  have k3 := K.2.2.1
  have k4 := K.2.2.2.1.1
  refine AM.of0 rfl (Nat.le_of_ble_eq_true rfl) rfl [some (.ref 3), some (.int w)] rfl ?_
  have F : inB 10 w = false → AW X7_count 10 [some (.ref 3), some (.int w)] [] N (0, 0) h P := by
    intro e
    rw [countR, e] at hP
    refine AW.aload_n 11 dX7_count_10 rfl (by rfl) ?_
    refine AW.cV0 14 dX7_count_11 rfl mi_X7_bad mv_X7_bad lk_X7_86 ⟨(Nat.le_of_ble_eq_true rfl), (Nat.le_of_ble_eq_true rfl)⟩ rfl (by assumption) rfl (Nat.le_of_ble_eq_true rfl) (c_bad K (fun h' K' f' => ?_))
    refine AW.iret dX7_count_14 rfl ?_
    exact hP h' K' f'
  refine AW.iload_n 1 dX7_count_0 rfl (by rfl) ?_
  refine AW.if_lt 10 4 dX7_count_1 (by decide) rfl (fun c2 => ?_) (fun c2 => ?_)
  · exact F (inB_f (by omega) (Or.inl c2))
  · refine AW.iload_n 5 dX7_count_4 rfl (by rfl) ?_
    refine AW.bipush 7 dX7_count_5 rfl (nI 10) rfl ?_
    refine AW.icmp_lt 15 10 dX7_count_7 (by decide) rfl (fun c3 => ?_) (fun c3 => ?_)
    · rcases inB_cases (m := 10) (by omega) w with ⟨w', hw', rfl, e2⟩ | ⟨z, -⟩
      · rw [countR, e2, if_pos rfl, cl_nI (by omega)] at hP
        refine AW.aload_n 16 dX7_count_15 rfl (by rfl) ?_
        refine AW.getfield 19 dX7_count_16 rfl fl_X7_10 (by assumption) (by rfl) ?_
        refine AW.iload_n 20 dX7_count_19 rfl (by rfl) ?_
        refine AW.cV1 23 dX7_count_20 rfl mi_X0_amount mv_X0_amount lk_X7_110 ⟨(Nat.le_of_ble_eq_true rfl), (Nat.le_of_ble_eq_true rfl)⟩ rfl (by assumption) rfl (Nat.le_of_ble_eq_true rfl) (c_amount K.1 K.2.2.2.1 hw' ?_)
        refine AW.iret dX7_count_23 rfl ?_
        exact hP h K (fun _ _ => rfl)
      · rcases z with z | z
        · exact absurd z c2
        · exact (Int32.lt_irrefl (Int32.lt_of_lt_of_le c3 z)).elim
    · exact F (inB_f (by omega) (Or.inr (Int32.not_lt.mp c3)))
theorem c_evens (K : ClsAt h X) (hP : ∀ h', ClsAt h' (evensR X).2 → FrC h h' → P (some (.int (evensR X).1)) N h') : AM X7_evens [.ref 3] N h P := by
  have k3 := K.2.2.1
  have k4 := K.2.2.2.1.1
  have B := K.2.2.2.1
  have k5 := B.2.1.1
  have hn := B.2.1.2.2.2.2.2.1
  refine AM.of0 rfl (Nat.le_of_ble_eq_true rfl) rfl [some (.ref 3), none] rfl ?_
  refine AW.aload_n 1 dX7_evens_0 rfl (by rfl) ?_
  refine AW.getfield 4 dX7_evens_1 rfl fl_X7_10 (by assumption) (by rfl) ?_
  refine AW.getfield 7 dX7_evens_4 rfl fl_X7_47 (by assumption) (by rfl) ?_
  refine AW.getfield 10 dX7_evens_7 rfl fl_X7_113 (by assumption) (by rfl) ?_
  refine AW.istore_n 11 dX7_evens_10 rfl (Nat.le_of_ble_eq_true rfl) rfl ?_
  refine AW.iload_n 12 dX7_evens_11 rfl (by rfl) ?_
  refine AW.iconst 13 dX7_evens_12 rfl (nI 2) rfl ?_
  refine AW.iremN 14 dX7_evens_13 rfl (by omega) (by omega) (by omega) ?_
  refine AW.ine 27 17 dX7_evens_14 (by decide) rfl (by omega) (fun c => ?_) (fun c => ?_)
  · rw [evensR, if_neg c] at hP
    refine AW.aload_n 28 dX7_evens_27 rfl (by rfl) ?_
    refine AW.cV0 31 dX7_evens_28 rfl mi_X7_no mv_X7_no lk_X7_121 ⟨(Nat.le_of_ble_eq_true rfl), (Nat.le_of_ble_eq_true rfl)⟩ rfl (by assumption) rfl (Nat.le_of_ble_eq_true rfl) (c_no K (fun h' K' f' => ?_))
    refine AW.iret dX7_evens_31 rfl ?_
    exact hP h' K' f'
  · rw [evensR, if_pos c] at hP
    refine AW.iload_n 18 dX7_evens_17 rfl (by rfl) ?_
    refine AW.iload_n 19 dX7_evens_18 rfl (by rfl) ?_
    refine AW.iconst 20 dX7_evens_19 rfl (nI 2) rfl ?_
    refine AW.idivN 21 dX7_evens_20 rfl (by omega) (by omega) (by omega) ?_
    refine AW.cS2 24 dX7_evens_21 rfl mi_X7_choose ms_X7_choose lk_X7_118 ⟨(Nat.le_of_ble_eq_true rfl), (Nat.le_of_ble_eq_true rfl)⟩ rfl (Nat.le_of_ble_eq_true rfl) (c_choose (by omega) ?_ (by omega))
    refine AW.goto 31 dX7_evens_24 (by decide) ?_
    refine AW.iret dX7_evens_31 rfl ?_
    exact hP h K (fun _ _ => rfl)
theorem c_covers {s i : Int32} (K : ClsAt h X) (hJ : ∀ a, a < 6 → ∀ x y, x < X.1.1 → y < X.1.1 → ∀ z, z < X.1.1 → joinF (cr X.1.1 (X.1.2.1 a)) (pairF x y) X.1.1 z ≤ z) (hP : ∀ h', ClsAt h' (coversR X s i).2 → FrC h h' → P (some (.int (coversR X s i).1)) N h') : AM X7_covers [.ref 3, .int s, .int i] N h P := by
  have k3 := K.2.2.1
  have k4 := K.2.2.2.1.1
  have B := K.2.2.2.1
  have k20 := B.2.2.1.1
  have hn := B.2.1.2.2.2.2.2.1
  have hn1 := B.2.1.2.2.2.2.1
  refine AM.of0 rfl (Nat.le_of_ble_eq_true rfl) rfl [some (.ref 3), some (.int s), some (.int i)] rfl ?_
  have F : (inB 6 s && ngB i) = false → AW X7_covers 11 [some (.ref 3), some (.int s), some (.int i)] [] N (0, 0) h P := by
    intro e
    rw [coversR, e] at hP
    refine AW.aload_n 12 dX7_covers_11 rfl (by rfl) ?_
    refine AW.cV0 15 dX7_covers_12 rfl mi_X7_bad mv_X7_bad lk_X7_86 ⟨(Nat.le_of_ble_eq_true rfl), (Nat.le_of_ble_eq_true rfl)⟩ rfl (by assumption) rfl (Nat.le_of_ble_eq_true rfl) (c_bad K (fun h' K' f' => ?_))
    refine AW.iret dX7_covers_15 rfl ?_
    exact hP h' K' f'
  refine AW.iload_n 1 dX7_covers_0 rfl (by rfl) ?_
  refine AW.cS1 4 dX7_covers_1 rfl mi_X7_isSlot ms_X7_isSlot lk_X7_82 ⟨(Nat.le_of_ble_eq_true rfl), (Nat.le_of_ble_eq_true rfl)⟩ rfl (Nat.le_of_ble_eq_true rfl) (c_isSlot ?_)
  refine AW.zeq 11 7 dX7_covers_4 (by decide) rfl (fun c1 => ?_) (fun c1 => ?_)
  · exact F (by rw [← slotB_eq s, c1]; rfl)
  · refine AW.iload_n 8 dX7_covers_7 rfl (by rfl) ?_
    refine AW.if_ge 16 11 dX7_covers_8 (by decide) rfl (fun c2 => ?_) (fun c2 => ?_)
    · rcases inB_cases (m := 6) (by omega) s with ⟨s', hs', rfl, e1⟩ | ⟨-, e1⟩
      · obtain ⟨i', hi', rfl⟩ := nI_of (Int32.not_lt.mpr c2)
        have eR : coversR X (nI s') (nI i') = (cvR (cvY (cr X.1.1 (X.1.2.1 s')) X.1.1 i' (X.1.1 - 1) 1 0), X) := by
          rw [coversR, e1, show ngB (nI i') = true from decide_eq_true c2, Bool.and_self, if_pos rfl, cl_nI (by omega), cl_nI hi']
        rw [eR] at hP
        obtain ⟨p1, p2⟩ := B.2.1.2.2.1 s' hs'
        refine AW.aload_n 17 dX7_covers_16 rfl (by rfl) ?_
        refine AW.getfield 20 dX7_covers_17 rfl fl_X7_10 (by assumption) (by rfl) ?_
        refine AW.getfield 23 dX7_covers_20 rfl fl_X7_124 (by assumption) (by rfl) ?_
        refine AW.aload_n 24 dX7_covers_23 rfl (by rfl) ?_
        refine AW.getfield 27 dX7_covers_24 rfl fl_X7_10 (by assumption) (by rfl) ?_
        refine AW.iload_n 28 dX7_covers_27 rfl (by rfl) ?_
        refine AW.cV1 31 dX7_covers_28 rfl mi_X0_part mv_X0_part lk_X7_96 ⟨(Nat.le_of_ble_eq_true rfl), (Nat.le_of_ble_eq_true rfl)⟩ rfl (by assumption) rfl (Nat.le_of_ble_eq_true rfl) (c_part B hs' ?_)
        refine AW.iload_n 32 dX7_covers_31 rfl (by rfl) ?_
        refine AW.cV2 35 dX7_covers_32 rfl mi_X1_coverOf mv_X1_coverOf lk_X7_128 ⟨(Nat.le_of_ble_eq_true rfl), (Nat.le_of_ble_eq_true rfl)⟩ rfl (by assumption) rfl (Nat.le_of_ble_eq_true rfl) (c_coverOf B.2.2.1 p1 p2 (by omega) (by omega) hn hn1 hi' (fun x hx => cr_lt _ _ x hx) (fun x y hx hy z hz => hJ s' hs' x y hx hy z hz) (fun h' w' f' => ?_))
        refine AW.iret dX7_covers_35 rfl ?_
        exact hP h' (K.brd (B.lw w' f') (fun z hz => f' z (by omega))) (fun z hz => f' z (by omega))
      · rw [← slotB_eq, c1] at e1; cases e1
    · exact F (by rw [show ngB i = false from decide_eq_false c2, Bool.and_false])
theorem c_mark {a b : Int32} (K : ClsAt h X) (hV : VdS X.1) (hP : ∀ h', ClsAt h' (markR X a b).2 → FrC h h' → P (some (.int (markR X a b).1)) N h') : AM X7_mark [.ref 3, .int a, .int b] N h P := by
  have k3 := K.2.2.1
  have k4 := K.2.2.2.1.1
  have B := K.2.2.2.1
  have hn := B.2.1.2.2.2.2.2.1
  have hn1 := B.2.1.2.2.2.2.1
  refine AM.of0 rfl (Nat.le_of_ble_eq_true rfl) rfl [some (.ref 3), some (.int a), some (.int b), none, none] rfl ?_
  have F : (inB 6 a && inB 6 b) = false → AW X7_mark 14 [some (.ref 3), some (.int a), some (.int b), none, none] [] N (0, 0) h P := by
    intro e
    rw [markR, e] at hP
    refine AW.aload_n 15 dX7_mark_14 rfl (by rfl) ?_
    refine AW.cV0 18 dX7_mark_15 rfl mi_X7_bad mv_X7_bad lk_X7_86 ⟨(Nat.le_of_ble_eq_true rfl), (Nat.le_of_ble_eq_true rfl)⟩ rfl (by assumption) rfl (Nat.le_of_ble_eq_true rfl) (c_bad K (fun h' K' f' => ?_))
    refine AW.iret dX7_mark_18 rfl ?_
    exact hP h' K' f'
  refine AW.iload_n 1 dX7_mark_0 rfl (by rfl) ?_
  refine AW.cS1 4 dX7_mark_1 rfl mi_X7_isSlot ms_X7_isSlot lk_X7_82 ⟨(Nat.le_of_ble_eq_true rfl), (Nat.le_of_ble_eq_true rfl)⟩ rfl (Nat.le_of_ble_eq_true rfl) (c_isSlot ?_)
  refine AW.zeq 14 7 dX7_mark_4 (by decide) rfl (fun c1 => ?_) (fun c1 => ?_)
  · exact F (by rw [← slotB_eq a, c1]; rfl)
  · refine AW.iload_n 8 dX7_mark_7 rfl (by rfl) ?_
    refine AW.cS1 11 dX7_mark_8 rfl mi_X7_isSlot ms_X7_isSlot lk_X7_82 ⟨(Nat.le_of_ble_eq_true rfl), (Nat.le_of_ble_eq_true rfl)⟩ rfl (Nat.le_of_ble_eq_true rfl) (c_isSlot ?_)
    refine AW.zne 19 14 dX7_mark_11 (by decide) rfl (fun c2 => ?_) (fun c2 => ?_)
    · obtain ⟨a', b', ha', hb', rfl, rfl, e1, e2⟩ := slot_two a b c1 c2
      have eR : markR X (nI a') (nI b') = (if undF X.1.1 (X.1.2.1 a') (X.1.2.1 b') && rankF (cr X.1.1 (X.1.2.1 b')) X.1.1 == rankF (cr X.1.1 (X.1.2.1 a')) X.1.1 + 1 then (nI (lblF (cr X.1.1 (X.1.2.1 a')) (cr X.1.1 (X.1.2.1 b')) X.1.1), X) else noX X) := by simp only [markR, e1, e2, Bool.and_self, if_true, cl_nI (show a' < 2147483648 by omega), cl_nI (show b' < 2147483648 by omega)]
      rw [eR] at hP
      obtain ⟨p1, p2⟩ := B.2.1.2.2.1 a' ha'
      obtain ⟨p3, p4⟩ := B.2.1.2.2.1 b' hb'
      have hr := fun c i (hi : i < X.1.1) => cr_lt X.1.1 c i (by omega)
      have rk : ∀ (r : Nat → Nat) k, rankF r k ≤ k := by
        intro r k
        induction k with
        | zero => exact Nat.le_refl _
        | succ k ih =>
          show rankF r k + (if r k == k then 0 else 1) ≤ k + 1
          split <;> omega
      have rka := rk (cr X.1.1 (X.1.2.1 a')) X.1.1
      have rkb := rk (cr X.1.1 (X.1.2.1 b')) X.1.1
      have G : (undF X.1.1 (X.1.2.1 a') (X.1.2.1 b') && rankF (cr X.1.1 (X.1.2.1 b')) X.1.1 == rankF (cr X.1.1 (X.1.2.1 a')) X.1.1 + 1) = false → AW X7_mark 61 [some (.ref 3), some (.int (nI a')), some (.int (nI b')), some (.ref (5 + 2 + 2 * a')), some (.ref (5 + 2 + 2 * b'))] [] N (0, 0) h P := by
        intro e
        rw [e] at hP
        refine AW.aload_n 62 dX7_mark_61 rfl (by rfl) ?_
        refine AW.cV0 65 dX7_mark_62 rfl mi_X7_no mv_X7_no lk_X7_121 ⟨(Nat.le_of_ble_eq_true rfl), (Nat.le_of_ble_eq_true rfl)⟩ rfl (by assumption) rfl (Nat.le_of_ble_eq_true rfl) (c_no K (fun h' K' f' => ?_))
        refine AW.iret dX7_mark_65 rfl ?_
        exact hP h' K' f'
      refine AW.aload_n 20 dX7_mark_19 rfl (by rfl) ?_
      refine AW.getfield 23 dX7_mark_20 rfl fl_X7_10 (by assumption) (by rfl) ?_
      refine AW.iload_n 24 dX7_mark_23 rfl (by rfl) ?_
      refine AW.cV1 27 dX7_mark_24 rfl mi_X0_part mv_X0_part lk_X7_96 ⟨(Nat.le_of_ble_eq_true rfl), (Nat.le_of_ble_eq_true rfl)⟩ rfl (by assumption) rfl (Nat.le_of_ble_eq_true rfl) (c_part B ha' ?_)
      refine AW.astore_n 28 dX7_mark_27 rfl (Nat.le_of_ble_eq_true rfl) rfl ?_
      refine AW.aload_n 29 dX7_mark_28 rfl (by rfl) ?_
      refine AW.getfield 32 dX7_mark_29 rfl fl_X7_10 (by assumption) (by rfl) ?_
      refine AW.iload_n 33 dX7_mark_32 rfl (by rfl) ?_
      refine AW.cV1 36 dX7_mark_33 rfl mi_X0_part mv_X0_part lk_X7_96 ⟨(Nat.le_of_ble_eq_true rfl), (Nat.le_of_ble_eq_true rfl)⟩ rfl (by assumption) rfl (Nat.le_of_ble_eq_true rfl) (c_part B hb' ?_)
      refine AW.astore 38 dX7_mark_36 rfl (Nat.le_of_ble_eq_true rfl) rfl ?_
      refine AW.aload_n 39 dX7_mark_38 rfl (by rfl) ?_
      refine AW.aload 41 dX7_mark_39 rfl (by rfl) ?_
      refine AW.cV1 44 dX7_mark_41 rfl mi_X3_isUnder mv_X3_isUnder lk_X7_106 ⟨(Nat.le_of_ble_eq_true rfl), (Nat.le_of_ble_eq_true rfl)⟩ rfl (by assumption) rfl (Nat.le_of_ble_eq_true rfl) (c_under K ha' hb' rfl rfl ?_)
      refine AW.zeq 61 47 dX7_mark_44 (by decide) rfl (fun c3 => ?_) (fun c3 => ?_)
      · exact G (by rw [c3]; rfl)
      · refine AW.aload 49 dX7_mark_47 rfl (by rfl) ?_
        refine AW.cV0 52 dX7_mark_49 rfl mi_X3_rank mv_X3_rank lk_X7_134 ⟨(Nat.le_of_ble_eq_true rfl), (Nat.le_of_ble_eq_true rfl)⟩ rfl (by assumption) rfl (Nat.le_of_ble_eq_true rfl) (c_rank p3 p4 hn (hr _) ?_)
        refine AW.aload_n 53 dX7_mark_52 rfl (by rfl) ?_
        refine AW.cV0 56 dX7_mark_53 rfl mi_X3_rank mv_X3_rank lk_X7_134 ⟨(Nat.le_of_ble_eq_true rfl), (Nat.le_of_ble_eq_true rfl)⟩ rfl (by assumption) rfl (Nat.le_of_ble_eq_true rfl) (c_rank p1 p2 hn (hr _) ?_)
        refine AW.iconst 57 dX7_mark_56 rfl (nI 1) rfl ?_
        first | refine AW.iaddN 58 dX7_mark_57 rfl ?_ | refine AW.iadd 58 dX7_mark_57 rfl ?_
        refine AW.neq 66 61 dX7_mark_58 (by decide) rfl (by omega) (by omega) (fun c4 => ?_) (fun c4 => ?_)
        · have hc : (undF X.1.1 (X.1.2.1 a') (X.1.2.1 b') && rankF (cr X.1.1 (X.1.2.1 b')) X.1.1 == rankF (cr X.1.1 (X.1.2.1 a')) X.1.1 + 1) = true := by rw [c3, c4]; simp
          rw [hc, if_pos rfl] at hP
          refine AW.aload_n 67 dX7_mark_66 rfl (by rfl) ?_
          refine AW.aload 69 dX7_mark_67 rfl (by rfl) ?_
          refine AW.cV1 72 dX7_mark_69 rfl mi_X3_labelTo mv_X3_labelTo lk_X7_137 ⟨(Nat.le_of_ble_eq_true rfl), (Nat.le_of_ble_eq_true rfl)⟩ rfl (by assumption) rfl (Nat.le_of_ble_eq_true rfl) (c_labelTo p1 p2 p3 p4 hn hn1 (fun x hx => cr_lt _ _ x hx) (fun x hx => ?_) ?_)
          · rcases Nat.lt_or_ge x X.1.1 with z | z
            · exact (hV b' hb').1 x z
            · rw [cr, if_neg (by omega), idn, if_pos hx]; exact Nat.le_refl _
          · refine AW.iret dX7_mark_72 rfl ?_
            exact hP h K (fun _ _ => rfl)
        · exact G (by rw [c3]; simpa using c4)
    · exact F (by rw [← slotB_eq b, c2, Bool.and_false])
/-- the error of an interval, counted; 0: none -/
def ieR (X : aX) (a b : Int32) : Int32 × aX := if inB 6 a && inB 6 b then (if undF X.1.1 (X.1.2.1 (cl a)) (X.1.2.1 (cl b)) then (nI 0, X) else noX X) else badX X
theorem c_intervalError {a b : Int32} (K : ClsAt h X) (hP : ∀ h', ClsAt h' (ieR X a b).2 → FrC h h' → P (some (.int (ieR X a b).1)) N h') : AM X7_intervalError [.ref 3, .int a, .int b] N h P := by
  have k3 := K.2.2.1
  have k4 := K.2.2.2.1.1
  have B := K.2.2.2.1
  refine AM.of0 rfl (Nat.le_of_ble_eq_true rfl) rfl [some (.ref 3), some (.int a), some (.int b)] rfl ?_
  have F : (inB 6 a && inB 6 b) = false → AW X7_intervalError 14 [some (.ref 3), some (.int a), some (.int b)] [] N (0, 0) h P := by
    intro e
    rw [ieR, e] at hP
    refine AW.aload_n 15 dX7_intervalError_14 rfl (by rfl) ?_
    refine AW.cV0 18 dX7_intervalError_15 rfl mi_X7_bad mv_X7_bad lk_X7_86 ⟨(Nat.le_of_ble_eq_true rfl), (Nat.le_of_ble_eq_true rfl)⟩ rfl (by assumption) rfl (Nat.le_of_ble_eq_true rfl) (c_bad K (fun h' K' f' => ?_))
    refine AW.iret dX7_intervalError_18 rfl ?_
    exact hP h' K' f'
  refine AW.iload_n 1 dX7_intervalError_0 rfl (by rfl) ?_
  refine AW.cS1 4 dX7_intervalError_1 rfl mi_X7_isSlot ms_X7_isSlot lk_X7_82 ⟨(Nat.le_of_ble_eq_true rfl), (Nat.le_of_ble_eq_true rfl)⟩ rfl (Nat.le_of_ble_eq_true rfl) (c_isSlot ?_)
  refine AW.zeq 14 7 dX7_intervalError_4 (by decide) rfl (fun c1 => ?_) (fun c1 => ?_)
  · exact F (by rw [← slotB_eq a, c1]; rfl)
  · refine AW.iload_n 8 dX7_intervalError_7 rfl (by rfl) ?_
    refine AW.cS1 11 dX7_intervalError_8 rfl mi_X7_isSlot ms_X7_isSlot lk_X7_82 ⟨(Nat.le_of_ble_eq_true rfl), (Nat.le_of_ble_eq_true rfl)⟩ rfl (Nat.le_of_ble_eq_true rfl) (c_isSlot ?_)
    refine AW.zne 19 14 dX7_intervalError_11 (by decide) rfl (fun c2 => ?_) (fun c2 => ?_)
    · obtain ⟨a', b', ha', hb', rfl, rfl, e1, e2⟩ := slot_two a b c1 c2
      have eR : ieR X (nI a') (nI b') = (if undF X.1.1 (X.1.2.1 a') (X.1.2.1 b') then (nI 0, X) else noX X) := by simp only [ieR, e1, e2, Bool.and_self, if_true, cl_nI (show a' < 2147483648 by omega), cl_nI (show b' < 2147483648 by omega)]
      rw [eR] at hP
      obtain ⟨p1, p2⟩ := B.2.1.2.2.1 a' ha'
      refine AW.aload_n 20 dX7_intervalError_19 rfl (by rfl) ?_
      refine AW.getfield 23 dX7_intervalError_20 rfl fl_X7_10 (by assumption) (by rfl) ?_
      refine AW.iload_n 24 dX7_intervalError_23 rfl (by rfl) ?_
      refine AW.cV1 27 dX7_intervalError_24 rfl mi_X0_part mv_X0_part lk_X7_96 ⟨(Nat.le_of_ble_eq_true rfl), (Nat.le_of_ble_eq_true rfl)⟩ rfl (by assumption) rfl (Nat.le_of_ble_eq_true rfl) (c_part B ha' ?_)
      refine AW.aload_n 28 dX7_intervalError_27 rfl (by rfl) ?_
      refine AW.getfield 31 dX7_intervalError_28 rfl fl_X7_10 (by assumption) (by rfl) ?_
      refine AW.iload_n 32 dX7_intervalError_31 rfl (by rfl) ?_
      refine AW.cV1 35 dX7_intervalError_32 rfl mi_X0_part mv_X0_part lk_X7_96 ⟨(Nat.le_of_ble_eq_true rfl), (Nat.le_of_ble_eq_true rfl)⟩ rfl (by assumption) rfl (Nat.le_of_ble_eq_true rfl) (c_part B hb' ?_)
      refine AW.cV1 38 dX7_intervalError_35 rfl mi_X3_isUnder mv_X3_isUnder lk_X7_106 ⟨(Nat.le_of_ble_eq_true rfl), (Nat.le_of_ble_eq_true rfl)⟩ rfl (by assumption) rfl (Nat.le_of_ble_eq_true rfl) (c_under K ha' hb' rfl rfl ?_)
      refine AW.zeq 45 41 dX7_intervalError_38 (by decide) rfl (fun c3 => ?_) (fun c3 => ?_)
      · rw [c3] at hP
        refine AW.aload_n 46 dX7_intervalError_45 rfl (by rfl) ?_
        refine AW.cV0 49 dX7_intervalError_46 rfl mi_X7_no mv_X7_no lk_X7_121 ⟨(Nat.le_of_ble_eq_true rfl), (Nat.le_of_ble_eq_true rfl)⟩ rfl (by assumption) rfl (Nat.le_of_ble_eq_true rfl) (c_no K (fun h' K' f' => ?_))
        refine AW.iret dX7_intervalError_49 rfl ?_
        exact hP h' K' f'
      · rw [c3, if_pos rfl] at hP
        refine AW.iconst 42 dX7_intervalError_41 rfl (nI 0) rfl ?_
        refine AW.goto 49 dX7_intervalError_42 (by decide) ?_
        refine AW.iret dX7_intervalError_49 rfl ?_
        exact hP h K (fun _ _ => rfl)
    · exact F (by rw [← slotB_eq b, c2, Bool.and_false])
theorem szsum (r : Nat → Nat) : ∀ n x, cnt (fun y => szF r n y) x ≤ n := by
  intro n
  induction n with
  | zero =>
    intro x
    induction x with
    | zero => exact Nat.le_refl _
    | succ x ih => exact ih
  | succ n ih =>
    intro x
    have e : ∀ m, cnt (fun y => szF r (n + 1) y) m = cnt (fun y => szF r n y) m + cnt (fun y => if y ≤ n && r n == y then 1 else 0) m := by
      intro m
      induction m with
      | zero => rfl
      | succ m ihm =>
        show cnt _ m + szF r (n + 1) m = cnt _ m + szF r n m + (cnt _ m + (if m ≤ n && r n == m then 1 else 0))
        rw [ihm, show szF r (n + 1) m = szF r n m + (if m ≤ n && r n == m then 1 else 0) from rfl]
        omega
    have e2 : ∀ m, cnt (fun y => if y ≤ n && r n == y then 1 else 0) m ≤ if r n < m then 1 else 0 := by
      intro m
      induction m with
      | zero => exact Nat.zero_le _
      | succ m ihm =>
        show cnt (fun y => if y ≤ n && r n == y then 1 else 0) m + (if m ≤ n && r n == m then 1 else 0) ≤ _
        generalize cnt (fun y => if y ≤ n && r n == y then 1 else 0) m = z at ihm ⊢
        by_cases c : r n = m
        · rw [if_neg (show ¬ r n < m by omega)] at ihm
          rw [if_pos (show r n < m + 1 by omega)]
          have : (if m ≤ n && r n == m then 1 else 0) ≤ 1 := by split <;> decide
          omega
        · rw [show (if m ≤ n && r n == m then 1 else 0) = 0 by simp [c]]
          by_cases d : r n < m
          · rw [if_pos d] at ihm
            rw [if_pos (show r n < m + 1 by omega)]
            omega
          · rw [if_neg d] at ihm
            omega
    have i1 := ih x
    have i2 := e x
    have i3 := e2 x
    have : (if r n < x then 1 else 0) ≤ 1 := by split <;> decide
    omega
theorem cop_le (r : Nat → Nat) (n : Nat) : ∀ x, (copF r n x).1 ≤ cnt (fun y => szF r n y) x := by
  intro x
  induction x with
  | zero => exact Nat.le_refl _
  | succ x ih =>
    unfold copF
    show _ ≤ cnt _ x + szF r n x
    split
    · show (copF r n x).1 + (szF r n x - 1) ≤ _
      omega
    · omega
theorem c_chains {a b : Int32} (K : ClsAt h X) (hV : VdS X.1) (hP : ∀ h', ClsAt h' (intR chnF X a b).2 → FrC h h' → P (some (.int (intR chnF X a b).1)) N h') : AM X7_chains [.ref 3, .int a, .int b] N h P := by
  have B := K.2.2.2.1
  have hn := B.2.1.2.2.2.2.2.1
  have k3 := K.2.2.1
  refine AM.of0 rfl (Nat.le_of_ble_eq_true rfl) rfl [some (.ref 3), some (.int a), some (.int b), none] rfl ?_
  refine AW.aload_n 1 dX7_chains_0 rfl (by rfl) ?_
  refine AW.iload_n 2 dX7_chains_1 rfl (by rfl) ?_
  refine AW.iload_n 3 dX7_chains_2 rfl (by rfl) ?_
  refine AW.cV2 6 dX7_chains_3 rfl mi_X7_intervalError mv_X7_intervalError lk_X7_141 ⟨(Nat.le_of_ble_eq_true rfl), (Nat.le_of_ble_eq_true rfl)⟩ rfl (by assumption) rfl (Nat.le_of_ble_eq_true rfl) (c_intervalError K (fun h1 K0 f1 => ?_))
  have E : ∀ r : Int32 × aX, ieR X a b = r → intR chnF X a b = r → ¬ r.1 = nI 0 → AW X7_chains 6 [some (.ref 3), some (.int a), some (.int b), none] [.int (ieR X a b).1] N (0, 0) h1 P := by
    intro r e1 e2 h0
    rw [e1] at K0 ⊢
    rw [e2] at hP
    refine AW.istore_n 7 dX7_chains_6 rfl (Nat.le_of_ble_eq_true rfl) rfl ?_
    refine AW.iload_n 8 dX7_chains_7 rfl (by rfl) ?_
    refine AW.if_ne 26 11 dX7_chains_8 (by decide) rfl (fun c => ?_) (fun c => ?_)
    · refine AW.iload_n 27 dX7_chains_26 rfl (by rfl) ?_
      refine AW.iret dX7_chains_27 rfl ?_
      exact hP h1 K0 f1
    · exact absurd c h0
  rcases inB_cases (m := 6) (by omega) a with ⟨a', ha', rfl, e1⟩ | ⟨-, e1⟩
  · rcases inB_cases (m := 6) (by omega) b with ⟨b', hb', rfl, e2⟩ | ⟨-, e2⟩
    · by_cases c : undF X.1.1 (X.1.2.1 a') (X.1.2.1 b') = true
      · have eI : ieR X (nI a') (nI b') = (nI 0, X) := by simp only [ieR, e1, e2, Bool.and_self, if_true, cl_nI (show a' < 2147483648 by omega), cl_nI (show b' < 2147483648 by omega), c]
        have eR : intR chnF X (nI a') (nI b') = (chnF X.1.1 (X.1.2.1 a') (X.1.2.1 b'), X) := by simp only [intR, e1, e2, Bool.and_self, if_true, cl_nI (show a' < 2147483648 by omega), cl_nI (show b' < 2147483648 by omega), c]
        rw [eI] at K0 ⊢
        rw [eR] at hP
        have K0 : ClsAt h1 X := K0
        have y3 := K0.2.2.1
        have y4 := K0.2.2.2.1.1
        refine AW.istore_n 7 dX7_chains_6 rfl (Nat.le_of_ble_eq_true rfl) rfl ?_
        refine AW.iload_n 8 dX7_chains_7 rfl (by rfl) ?_
        refine AW.if_ne 26 11 dX7_chains_8 (by decide) rfl (fun c2 => ?_) (fun c2 => ?_)
        · exact absurd rfl c2
        · refine AW.aload_n 12 dX7_chains_11 rfl (by rfl) ?_
          refine AW.getfield 15 dX7_chains_12 rfl fl_X7_10 (by assumption) (by rfl) ?_
          refine AW.iload_n 16 dX7_chains_15 rfl (by rfl) ?_
          refine AW.iload_n 17 dX7_chains_16 rfl (by rfl) ?_
          refine AW.cV2 20 dX7_chains_17 rfl mi_X0_interval mv_X0_interval lk_X7_144 ⟨(Nat.le_of_ble_eq_true rfl), (Nat.le_of_ble_eq_true rfl)⟩ rfl (by assumption) rfl (Nat.le_of_ble_eq_true rfl) (c_interval K0.2.2.2.1 ha' hb' (hV b' hb').1 (fun h2 B2 f2 q1 q2 => ?_))
          have K1 := K0.brd B2 f2
          refine AW.cV0 23 dX7_chains_20 rfl mi_X3_chainsOfProduct mv_X3_chainsOfProduct lk_X7_148 ⟨(Nat.le_of_ble_eq_true rfl), (Nat.le_of_ble_eq_true rfl)⟩ rfl (by assumption) rfl (Nat.le_of_ble_eq_true rfl) (c_chainsOfProduct K1.2.1 q1 q2 hn (fun i hi => cr_lt _ _ i (by omega)) (fun x hx => Nat.lt_of_le_of_lt (Nat.le_trans (cop_le _ _ x) (szsum _ _ x)) (by omega)) ?_)
          refine AW.goto 27 dX7_chains_23 (by decide) ?_
          refine AW.iret dX7_chains_27 rfl ?_
          exact hP h2 K1 (fun z hz => by rw [f2 z (by omega), f1 z hz])
      · have c' : undF X.1.1 (X.1.2.1 a') (X.1.2.1 b') = false := by simpa using c
        exact E (noX X) (by simp [ieR, e1, e2, cl_nI (show a' < 2147483648 by omega), cl_nI (show b' < 2147483648 by omega), c']) (by simp [intR, e1, e2, cl_nI (show a' < 2147483648 by omega), cl_nI (show b' < 2147483648 by omega), c']) (show ¬ (-3 : Int32) = nI 0 by decide)
    · exact E (badX X) (by simp [ieR, e2]) (by simp [intR, e2]) (show ¬ (-2 : Int32) = nI 0 by decide)
  · exact E (badX X) (by simp [ieR, e1]) (by simp [intR, e1]) (show ¬ (-2 : Int32) = nI 0 by decide)
theorem c_signed {a b : Int32} (K : ClsAt h X) (hV : VdS X.1) (hP : ∀ h', ClsAt h' (intR sgnF X a b).2 → FrC h h' → P (some (.int (intR sgnF X a b).1)) N h') : AM X7_signed [.ref 3, .int a, .int b] N h P := by
  have B := K.2.2.2.1
  have hn := B.2.1.2.2.2.2.2.1
  have k3 := K.2.2.1
  refine AM.of0 rfl (Nat.le_of_ble_eq_true rfl) rfl [some (.ref 3), some (.int a), some (.int b), none] rfl ?_
  refine AW.aload_n 1 dX7_signed_0 rfl (by rfl) ?_
  refine AW.iload_n 2 dX7_signed_1 rfl (by rfl) ?_
  refine AW.iload_n 3 dX7_signed_2 rfl (by rfl) ?_
  refine AW.cV2 6 dX7_signed_3 rfl mi_X7_intervalError mv_X7_intervalError lk_X7_141 ⟨(Nat.le_of_ble_eq_true rfl), (Nat.le_of_ble_eq_true rfl)⟩ rfl (by assumption) rfl (Nat.le_of_ble_eq_true rfl) (c_intervalError K (fun h1 K0 f1 => ?_))
  have E : ∀ r : Int32 × aX, ieR X a b = r → intR sgnF X a b = r → ¬ r.1 = nI 0 → AW X7_signed 6 [some (.ref 3), some (.int a), some (.int b), none] [.int (ieR X a b).1] N (0, 0) h1 P := by
    intro r e1 e2 h0
    rw [e1] at K0 ⊢
    rw [e2] at hP
    refine AW.istore_n 7 dX7_signed_6 rfl (Nat.le_of_ble_eq_true rfl) rfl ?_
    refine AW.iload_n 8 dX7_signed_7 rfl (by rfl) ?_
    refine AW.if_ne 26 11 dX7_signed_8 (by decide) rfl (fun c => ?_) (fun c => ?_)
    · refine AW.iload_n 27 dX7_signed_26 rfl (by rfl) ?_
      refine AW.iret dX7_signed_27 rfl ?_
      exact hP h1 K0 f1
    · exact absurd c h0
  rcases inB_cases (m := 6) (by omega) a with ⟨a', ha', rfl, e1⟩ | ⟨-, e1⟩
  · rcases inB_cases (m := 6) (by omega) b with ⟨b', hb', rfl, e2⟩ | ⟨-, e2⟩
    · by_cases c : undF X.1.1 (X.1.2.1 a') (X.1.2.1 b') = true
      · have eI : ieR X (nI a') (nI b') = (nI 0, X) := by simp only [ieR, e1, e2, Bool.and_self, if_true, cl_nI (show a' < 2147483648 by omega), cl_nI (show b' < 2147483648 by omega), c]
        have eR : intR sgnF X (nI a') (nI b') = (sgnF X.1.1 (X.1.2.1 a') (X.1.2.1 b'), X) := by simp only [intR, e1, e2, Bool.and_self, if_true, cl_nI (show a' < 2147483648 by omega), cl_nI (show b' < 2147483648 by omega), c]
        rw [eI] at K0 ⊢
        rw [eR] at hP
        have K0 : ClsAt h1 X := K0
        have y3 := K0.2.2.1
        have y4 := K0.2.2.2.1.1
        refine AW.istore_n 7 dX7_signed_6 rfl (Nat.le_of_ble_eq_true rfl) rfl ?_
        refine AW.iload_n 8 dX7_signed_7 rfl (by rfl) ?_
        refine AW.if_ne 26 11 dX7_signed_8 (by decide) rfl (fun c2 => ?_) (fun c2 => ?_)
        · exact absurd rfl c2
        · refine AW.aload_n 12 dX7_signed_11 rfl (by rfl) ?_
          refine AW.getfield 15 dX7_signed_12 rfl fl_X7_10 (by assumption) (by rfl) ?_
          refine AW.iload_n 16 dX7_signed_15 rfl (by rfl) ?_
          refine AW.iload_n 17 dX7_signed_16 rfl (by rfl) ?_
          refine AW.cV2 20 dX7_signed_17 rfl mi_X0_interval mv_X0_interval lk_X7_144 ⟨(Nat.le_of_ble_eq_true rfl), (Nat.le_of_ble_eq_true rfl)⟩ rfl (by assumption) rfl (Nat.le_of_ble_eq_true rfl) (c_interval K0.2.2.2.1 ha' hb' (hV b' hb').1 (fun h2 B2 f2 q1 q2 => ?_))
          have K1 := K0.brd B2 f2
          refine AW.cV0 23 dX7_signed_20 rfl mi_X3_moebiusOfProduct mv_X3_moebiusOfProduct lk_X7_157 ⟨(Nat.le_of_ble_eq_true rfl), (Nat.le_of_ble_eq_true rfl)⟩ rfl (by assumption) rfl (Nat.le_of_ble_eq_true rfl) (c_moebiusOfProduct K1.1 q1 q2 hn (fun i hi => cr_lt _ _ i (by omega)) ?_)
          refine AW.goto 27 dX7_signed_23 (by decide) ?_
          refine AW.iret dX7_signed_27 rfl ?_
          exact hP h2 K1 (fun z hz => by rw [f2 z (by omega), f1 z hz])
      · have c' : undF X.1.1 (X.1.2.1 a') (X.1.2.1 b') = false := by simpa using c
        exact E (noX X) (by simp [ieR, e1, e2, cl_nI (show a' < 2147483648 by omega), cl_nI (show b' < 2147483648 by omega), c']) (by simp [intR, e1, e2, cl_nI (show a' < 2147483648 by omega), cl_nI (show b' < 2147483648 by omega), c']) (show ¬ (-3 : Int32) = nI 0 by decide)
    · exact E (badX X) (by simp [ieR, e2]) (by simp [intR, e2]) (show ¬ (-2 : Int32) = nI 0 by decide)
  · exact E (badX X) (by simp [ieR, e1]) (by simp [intR, e1]) (show ¬ (-2 : Int32) = nI 0 by decide)
theorem c_between {a b : Int32} (K : ClsAt h X) (hV : VdS X.1) (hP : ∀ h', ClsAt h' (intR btwF X a b).2 → FrC h h' → P (some (.int (intR btwF X a b).1)) N h') : AM X7_between [.ref 3, .int a, .int b] N h P := by
  have B := K.2.2.2.1
  have hn := B.2.1.2.2.2.2.2.1
  have k3 := K.2.2.1
  refine AM.of0 rfl (Nat.le_of_ble_eq_true rfl) rfl [some (.ref 3), some (.int a), some (.int b), none] rfl ?_
  refine AW.aload_n 1 dX7_between_0 rfl (by rfl) ?_
  refine AW.iload_n 2 dX7_between_1 rfl (by rfl) ?_
  refine AW.iload_n 3 dX7_between_2 rfl (by rfl) ?_
  refine AW.cV2 6 dX7_between_3 rfl mi_X7_intervalError mv_X7_intervalError lk_X7_141 ⟨(Nat.le_of_ble_eq_true rfl), (Nat.le_of_ble_eq_true rfl)⟩ rfl (by assumption) rfl (Nat.le_of_ble_eq_true rfl) (c_intervalError K (fun h1 K0 f1 => ?_))
  have E : ∀ r : Int32 × aX, ieR X a b = r → intR btwF X a b = r → ¬ r.1 = nI 0 → AW X7_between 6 [some (.ref 3), some (.int a), some (.int b), none] [.int (ieR X a b).1] N (0, 0) h1 P := by
    intro r e1 e2 h0
    rw [e1] at K0 ⊢
    rw [e2] at hP
    refine AW.istore_n 7 dX7_between_6 rfl (Nat.le_of_ble_eq_true rfl) rfl ?_
    refine AW.iload_n 8 dX7_between_7 rfl (by rfl) ?_
    refine AW.if_ne 26 11 dX7_between_8 (by decide) rfl (fun c => ?_) (fun c => ?_)
    · refine AW.iload_n 27 dX7_between_26 rfl (by rfl) ?_
      refine AW.iret dX7_between_27 rfl ?_
      exact hP h1 K0 f1
    · exact absurd c h0
  rcases inB_cases (m := 6) (by omega) a with ⟨a', ha', rfl, e1⟩ | ⟨-, e1⟩
  · rcases inB_cases (m := 6) (by omega) b with ⟨b', hb', rfl, e2⟩ | ⟨-, e2⟩
    · by_cases c : undF X.1.1 (X.1.2.1 a') (X.1.2.1 b') = true
      · have eI : ieR X (nI a') (nI b') = (nI 0, X) := by simp only [ieR, e1, e2, Bool.and_self, if_true, cl_nI (show a' < 2147483648 by omega), cl_nI (show b' < 2147483648 by omega), c]
        have eR : intR btwF X (nI a') (nI b') = (btwF X.1.1 (X.1.2.1 a') (X.1.2.1 b'), X) := by simp only [intR, e1, e2, Bool.and_self, if_true, cl_nI (show a' < 2147483648 by omega), cl_nI (show b' < 2147483648 by omega), c]
        rw [eI] at K0 ⊢
        rw [eR] at hP
        have K0 : ClsAt h1 X := K0
        have y3 := K0.2.2.1
        have y4 := K0.2.2.2.1.1
        refine AW.istore_n 7 dX7_between_6 rfl (Nat.le_of_ble_eq_true rfl) rfl ?_
        refine AW.iload_n 8 dX7_between_7 rfl (by rfl) ?_
        refine AW.if_ne 26 11 dX7_between_8 (by decide) rfl (fun c2 => ?_) (fun c2 => ?_)
        · exact absurd rfl c2
        · refine AW.aload_n 12 dX7_between_11 rfl (by rfl) ?_
          refine AW.getfield 15 dX7_between_12 rfl fl_X7_10 (by assumption) (by rfl) ?_
          refine AW.iload_n 16 dX7_between_15 rfl (by rfl) ?_
          refine AW.iload_n 17 dX7_between_16 rfl (by rfl) ?_
          refine AW.cV2 20 dX7_between_17 rfl mi_X0_interval mv_X0_interval lk_X7_144 ⟨(Nat.le_of_ble_eq_true rfl), (Nat.le_of_ble_eq_true rfl)⟩ rfl (by assumption) rfl (Nat.le_of_ble_eq_true rfl) (c_interval K0.2.2.2.1 ha' hb' (hV b' hb').1 (fun h2 B2 f2 q1 q2 => ?_))
          have K1 := K0.brd B2 f2
          refine AW.cV0 23 dX7_between_20 rfl mi_X3_sizeOfProduct mv_X3_sizeOfProduct lk_X7_160 ⟨(Nat.le_of_ble_eq_true rfl), (Nat.le_of_ble_eq_true rfl)⟩ rfl (by assumption) rfl (Nat.le_of_ble_eq_true rfl) (c_sizeOfProduct K1.1 q1 q2 hn (fun i hi => cr_lt _ _ i (by omega)) ?_)
          refine AW.goto 27 dX7_between_23 (by decide) ?_
          refine AW.iret dX7_between_27 rfl ?_
          exact hP h2 K1 (fun z hz => by rw [f2 z (by omega), f1 z hz])
      · have c' : undF X.1.1 (X.1.2.1 a') (X.1.2.1 b') = false := by simpa using c
        exact E (noX X) (by simp [ieR, e1, e2, cl_nI (show a' < 2147483648 by omega), cl_nI (show b' < 2147483648 by omega), c']) (by simp [intR, e1, e2, cl_nI (show a' < 2147483648 by omega), cl_nI (show b' < 2147483648 by omega), c']) (show ¬ (-3 : Int32) = nI 0 by decide)
    · exact E (badX X) (by simp [ieR, e2]) (by simp [intR, e2]) (show ¬ (-2 : Int32) = nI 0 by decide)
  · exact E (badX X) (by simp [ieR, e1]) (by simp [intR, e1]) (show ¬ (-2 : Int32) = nI 0 by decide)
end CLS2
