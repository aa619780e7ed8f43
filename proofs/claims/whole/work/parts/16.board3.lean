/-! BOARD, the queries and the orders -/
section BOARD3
variable {N : Nat} {h : aH} {P : aP} {σ : aS}
theorem BoardAt.lw {h h' : aH} (B : BoardAt h σ) (w : LW h') (e : ∀ z, z < 20 ∨ 44 ≤ z → h' z = h z) : BoardAt h' σ := by
  obtain ⟨b1, b2, -, m0, f, g1, g2, g3⟩ := B
  exact ⟨by rw [e 4 (by omega), b1], b2.same (fun z z1 z2 => e z (by omega)), w, ⟨m0, f, by rw [e 44 (by omega), g1], by rw [e 45 (by omega), g2], g3⟩⟩
def propF (n c : Nat) (w : Nat) : Nat := match w with
  | 0 => plcF (cr n c) n
  | 1 => rankF (cr n c) n
  | 2 => sglF (cr n c) n n
  | 3 => lgF (cr n c) n n
  | 4 => prsF (cr n (coC n c)) n n
  | _ => prsF (cr n c) n n
theorem c_property {s w : Nat} (B : BoardAt h σ) (hs6 : s < 6) (hw : w < 6) (hV : ∀ x, x < σ.1 → cr σ.1 (σ.2.1 s) x ≤ x) (hP : ∀ h', BoardAt h' σ → FrB h h' → P (some (.int (nI (propF σ.1 (σ.2.1 s) w)))) N h') : AM X0_property [.ref 4, .int (nI s), .int (nI w)] N h P := by
  obtain ⟨b1, b2, lw, b4⟩ := id B
  have x5 := b2.1
  have x6 := b2.2.1
  have x20 := lw.1
  have hn := b2.2.2.2.2.2.1
  obtain ⟨p1, p2⟩ := b2.2.2.1 s hs6
  have hr := fun i (hi : i < σ.1) => cr_lt σ.1 (σ.2.1 s) i (by omega)
  refine AM.of0 rfl (Nat.le_of_ble_eq_true rfl) rfl [some (.ref 4), some (.int (nI s)), some (.int (nI w)), none] rfl ?_
  refine AW.aload_n 1 dX0_property_0 rfl (by rfl) ?_
  refine AW.getfield 4 dX0_property_1 rfl fl_X0_12 (by assumption) (by rfl) ?_
  refine AW.getfield 7 dX0_property_4 rfl fl_X0_36 (by assumption) (by rfl) ?_
  refine AW.iload_n 8 dX0_property_7 rfl (by rfl) ?_
  refine AW.aaload 9 _ dX0_property_8 rfl (by assumption) (fun _ => rfl) rfl (ix_nI (by omega)) (by omega) (if_pos (show s < 6 by omega)) ?_
  refine AW.astore_n 10 dX0_property_9 rfl (Nat.le_of_ble_eq_true rfl) rfl ?_
  refine AW.iload_n 11 dX0_property_10 rfl (by rfl) ?_
  have tw : (nI w).toInt = (w : Int) := nI_toInt (by omega)
  rcases Nat.lt_or_ge w 5 with hw5 | hw5
  · have hc : w = 0 ∨ w = 1 ∨ w = 2 ∨ w = 3 ∨ w = 4 := by omega
    rcases hc with rfl | rfl | rfl | rfl | rfl
    · refine AW.tsIn 44 dX0_property_11 (by omega) (by omega) rfl (by decide) ?_
      refine AW.aload_n 45 dX0_property_44 rfl (by rfl) ?_
      refine AW.getfield 48 dX0_property_45 rfl fl_X0_21 (by assumption) (by rfl) ?_
      refine AW.aload_n 49 dX0_property_48 rfl (by rfl) ?_
      refine AW.cV1 52 dX0_property_49 rfl mi_X1_placeOf mv_X1_placeOf lk_X0_73 ⟨(Nat.le_of_ble_eq_true rfl), (Nat.le_of_ble_eq_true rfl)⟩ rfl (by assumption) rfl (Nat.le_of_ble_eq_true rfl) (c_placeOf lw p1 p2 (by omega) (by omega) hn hV (fun f => ?_))
      refine AW.iret dX0_property_52 rfl ?_
      exact hP _ (B.lw lw.s22 (fun z hz => hs_ne (by omega))) (fun z hz => hs_ne (by omega))
    · refine AW.tsIn 53 dX0_property_11 (by omega) (by omega) rfl (by decide) ?_
      refine AW.aload_n 54 dX0_property_53 rfl (by rfl) ?_
      refine AW.cV0 57 dX0_property_54 rfl mi_X3_rank mv_X3_rank lk_X0_89 ⟨(Nat.le_of_ble_eq_true rfl), (Nat.le_of_ble_eq_true rfl)⟩ rfl (by assumption) rfl (Nat.le_of_ble_eq_true rfl) (c_rank p1 p2 hn hr ?_)
      refine AW.iret dX0_property_57 rfl ?_
      exact hP h B (fun _ _ => rfl)
    · refine AW.tsIn 58 dX0_property_11 (by omega) (by omega) rfl (by decide) ?_
      refine AW.aload_n 59 dX0_property_58 rfl (by rfl) ?_
      refine AW.cV0 62 dX0_property_59 rfl mi_X3_singles mv_X3_singles lk_X0_122 ⟨(Nat.le_of_ble_eq_true rfl), (Nat.le_of_ble_eq_true rfl)⟩ rfl (by assumption) rfl (Nat.le_of_ble_eq_true rfl) (c_singles p1 p2 hn hr ?_)
      refine AW.iret dX0_property_62 rfl ?_
      exact hP h B (fun _ _ => rfl)
    · refine AW.tsIn 63 dX0_property_11 (by omega) (by omega) rfl (by decide) ?_
      refine AW.aload_n 64 dX0_property_63 rfl (by rfl) ?_
      refine AW.cV0 67 dX0_property_64 rfl mi_X3_largest mv_X3_largest lk_X0_125 ⟨(Nat.le_of_ble_eq_true rfl), (Nat.le_of_ble_eq_true rfl)⟩ rfl (by assumption) rfl (Nat.le_of_ble_eq_true rfl) (c_largest p1 p2 hn hr ?_)
      refine AW.iret dX0_property_67 rfl ?_
      exact hP h B (fun _ _ => rfl)
    · refine AW.tsIn 68 dX0_property_11 (by omega) (by omega) rfl (by decide) ?_
      refine AW.aload_n 69 dX0_property_68 rfl (by rfl) ?_
      refine AW.getfield 72 dX0_property_69 rfl fl_X0_21 (by assumption) (by rfl) ?_
      refine AW.aload_n 73 dX0_property_72 rfl (by rfl) ?_
      refine AW.cV1 76 dX0_property_73 rfl mi_X1_coversOf mv_X1_coversOf lk_X0_128 ⟨(Nat.le_of_ble_eq_true rfl), (Nat.le_of_ble_eq_true rfl)⟩ rfl (by assumption) rfl (Nat.le_of_ble_eq_true rfl) (c_coversOf lw p1 p2 (by omega) (by omega) hn hr (fun h' w' e' => ?_))
      refine AW.iret dX0_property_76 rfl ?_
      have hP := hP h' (B.lw w' e') (fun z hz => e' z (by omega))
      rw [show propF σ.1 (σ.2.1 s) 4 = prsF (cr σ.1 (coC σ.1 (σ.2.1 s))) σ.1 σ.1 from rfl, coC, cr_comp hn] at hP
      exact hP
  · obtain rfl : w = 5 := by omega
    refine AW.tsOut 77 dX0_property_11 (Or.inr (by omega)) (by decide) ?_
    refine AW.aload_n 78 dX0_property_77 rfl (by rfl) ?_
    refine AW.cV0 81 dX0_property_78 rfl mi_X3_pairs mv_X3_pairs lk_X0_131 ⟨(Nat.le_of_ble_eq_true rfl), (Nat.le_of_ble_eq_true rfl)⟩ rfl (by assumption) rfl (Nat.le_of_ble_eq_true rfl) (c_pairs p1 p2 hn hr ?_)
    refine AW.iret dX0_property_81 rfl ?_
    exact hP h B (fun _ _ => rfl)
/-- choose(n, k), k one more than meant, so that -1 is 0 -/
def chP (n k : Nat) : Nat := match k with
  | 0 => 0
  | k + 1 => chF n k
def rkdF (n k : Nat) : Int32 := nI (chP (n - 1) (k + 1) * chP (n - 1) (k + 1)) - nI (chP (n - 1) k * chP (n - 1) (k + 2))
theorem c_ranked {n k : Nat} (hn : n ≤ 8) (h1 : 1 ≤ n) (hk : k ≤ 7) (hP : P (some (.int (rkdF n k))) N h) : AM X0_ranked [.int (nI n), .int (nI k)] N h P := by
  refine AM.of0 rfl (Nat.le_of_ble_eq_true rfl) rfl [some (.int (nI n)), some (.int (nI k)), none] rfl ?_
  refine AW.iload_n 1 dX0_ranked_0 rfl (by rfl) ?_
  refine AW.iconst 2 dX0_ranked_1 rfl (nI 1) rfl ?_
  first | refine AW.isubN 3 dX0_ranked_2 rfl (by omega) ?_ | refine AW.isub 3 dX0_ranked_2 rfl ?_
  refine AW.iload_n 4 dX0_ranked_3 rfl (by rfl) ?_
  refine AW.cN2 7 dX0_ranked_4 rfl mi_X7_choose ms_X7_choose lk_X0_137 ⟨(Nat.le_of_ble_eq_true rfl), (Nat.le_of_ble_eq_true rfl)⟩ rfl (Nat.le_of_ble_eq_true rfl) (c_choose (by omega) ?_ (by omega))
  refine AW.istore_n 8 dX0_ranked_7 rfl (Nat.le_of_ble_eq_true rfl) rfl ?_
  refine AW.iload_n 9 dX0_ranked_8 rfl (by rfl) ?_
  refine AW.iload_n 10 dX0_ranked_9 rfl (by rfl) ?_
  first | refine AW.imulN 11 dX0_ranked_10 rfl ?_ | refine AW.imul 11 dX0_ranked_10 rfl ?_
  refine AW.iload_n 12 dX0_ranked_11 rfl (by rfl) ?_
  refine AW.iconst 13 dX0_ranked_12 rfl (nI 1) rfl ?_
  first | refine AW.isubN 14 dX0_ranked_13 rfl (by omega) ?_ | refine AW.isub 14 dX0_ranked_13 rfl ?_
  refine AW.iload_n 15 dX0_ranked_14 rfl (by rfl) ?_
  have J : AW X0_ranked 20 [some (.int (nI n)), some (.int (nI k)), some (.int (nI (chF (n - 1) k)))] [.int (nI (chP (n - 1) k)), .int (nI (chF (n - 1) k * chF (n - 1) k))] N (0, 0) h P := by
    refine AW.iload_n 21 dX0_ranked_20 rfl (by rfl) ?_
    refine AW.iconst 22 dX0_ranked_21 rfl (nI 1) rfl ?_
    first | refine AW.isubN 23 dX0_ranked_22 rfl (by omega) ?_ | refine AW.isub 23 dX0_ranked_22 rfl ?_
    refine AW.iload_n 24 dX0_ranked_23 rfl (by rfl) ?_
    refine AW.iconst 25 dX0_ranked_24 rfl (nI 1) rfl ?_
    first | refine AW.iaddN 26 dX0_ranked_25 rfl ?_ | refine AW.iadd 26 dX0_ranked_25 rfl ?_
    refine AW.cN2 29 dX0_ranked_26 rfl mi_X7_choose ms_X7_choose lk_X0_137 ⟨(Nat.le_of_ble_eq_true rfl), (Nat.le_of_ble_eq_true rfl)⟩ rfl (Nat.le_of_ble_eq_true rfl) (c_choose (by omega) ?_ (by omega))
    first | refine AW.imulN 30 dX0_ranked_29 rfl ?_ | refine AW.imul 30 dX0_ranked_29 rfl ?_
    refine AW.isub 31 dX0_ranked_30 rfl ?_
    refine AW.iret dX0_ranked_31 rfl ?_
    exact hP
  cases k with
  | zero =>
    refine AW.iconst 16 dX0_ranked_15 rfl (nI 1) rfl ?_
    refine AW.isub 17 dX0_ranked_16 rfl ?_
    refine AW.cN2 20 dX0_ranked_17 rfl mi_X7_choose ms_X7_choose lk_X0_137 ⟨(Nat.le_of_ble_eq_true rfl), (Nat.le_of_ble_eq_true rfl)⟩ rfl (Nat.le_of_ble_eq_true rfl) (c_chooseM ?_)
    exact J
  | succ k =>
    refine AW.iconst 16 dX0_ranked_15 rfl (nI 1) rfl ?_
    first | refine AW.isubN 17 dX0_ranked_16 rfl (by omega) ?_ | refine AW.isub 17 dX0_ranked_16 rfl ?_
    refine AW.cN2 20 dX0_ranked_17 rfl mi_X7_choose ms_X7_choose lk_X0_137 ⟨(Nat.le_of_ble_eq_true rfl), (Nat.le_of_ble_eq_true rfl)⟩ rfl (Nat.le_of_ble_eq_true rfl) (c_choose (by omega) ?_ (by omega))
    exact J
def amtF (n w : Nat) : Int32 := if w = 0 then nI n else if w = 1 then nI (catN n) else rkdF n (w - 2)
theorem c_amount {w : Nat} (hC : h 0 = sA catN) (B : BoardAt h σ) (hw : w < 10) (hP : P (some (.int (amtF σ.1 w))) N h) : AM X0_amount [.ref 4, .int (nI w)] N h P := by
  obtain ⟨b1, b2, lw, b4⟩ := id B
  have x5 := b2.1
  have hn := b2.2.2.2.2.2.1
  have hn1 := b2.2.2.2.2.1
  refine AM.of0 rfl (Nat.le_of_ble_eq_true rfl) rfl [some (.ref 4), some (.int (nI w))] rfl ?_
  refine AW.iload_n 1 dX0_amount_0 rfl (by rfl) ?_
  refine AW.ine 12 4 dX0_amount_1 (by decide) rfl (by omega) (fun c => ?_) (fun c => ?_)
  · refine AW.iload_n 13 dX0_amount_12 rfl (by rfl) ?_
    refine AW.iconst 14 dX0_amount_13 rfl (nI 1) rfl ?_
    refine AW.nne 31 17 dX0_amount_14 (by decide) rfl (by omega) (by omega) (fun c2 => ?_) (fun c2 => ?_)
    · refine AW.aload_n 32 dX0_amount_31 rfl (by rfl) ?_
      refine AW.getfield 35 dX0_amount_32 rfl fl_X0_12 (by assumption) (by rfl) ?_
      refine AW.getfield 38 dX0_amount_35 rfl fl_X0_32 (by assumption) (by rfl) ?_
      refine AW.iload_n 39 dX0_amount_38 rfl (by rfl) ?_
      refine AW.iconst 40 dX0_amount_39 rfl (nI 2) rfl ?_
      first | refine AW.isubN 41 dX0_amount_40 rfl (by omega) ?_ | refine AW.isub 41 dX0_amount_40 rfl ?_
      refine AW.cS2 44 dX0_amount_41 rfl mi_X0_ranked ms_X0_ranked lk_X0_134 ⟨(Nat.le_of_ble_eq_true rfl), (Nat.le_of_ble_eq_true rfl)⟩ rfl (Nat.le_of_ble_eq_true rfl) (c_ranked hn hn1 (by omega) ?_)
      rw [amtF, if_neg c, if_neg c2] at hP
      refine AW.iret dX0_amount_44 rfl ?_
      exact hP
    · refine AW.getCat 20 dX0_amount_17 rfl fn_X0_77 ?_
      refine AW.aload_n 21 dX0_amount_20 rfl (by rfl) ?_
      refine AW.getfield 24 dX0_amount_21 rfl fl_X0_12 (by assumption) (by rfl) ?_
      refine AW.getfield 27 dX0_amount_24 rfl fl_X0_32 (by assumption) (by rfl) ?_
      refine AW.iaload 28 _ dX0_amount_27 rfl (by assumption) (by first | exact Or.inl rfl | exact Or.inr rfl) (ix_nI (by omega)) (by omega) ?_
      refine AW.goto 44 dX0_amount_28 (by decide) ?_
      refine AW.iret dX0_amount_44 rfl ?_
      rw [amtF, if_neg c, if_pos c2] at hP
      exact hP
  · refine AW.aload_n 5 dX0_amount_4 rfl (by rfl) ?_
    refine AW.getfield 8 dX0_amount_5 rfl fl_X0_12 (by assumption) (by rfl) ?_
    refine AW.getfield 11 dX0_amount_8 rfl fl_X0_32 (by assumption) (by rfl) ?_
    refine AW.iret dX0_amount_11 rfl ?_
    rw [amtF, if_pos c] at hP
    exact hP
theorem c_interval {a b : Nat} (B : BoardAt h σ) (ha : a < 6) (hb : b < 6) (hV : ∀ x, x < σ.1 → cr σ.1 (σ.2.1 b) x ≤ x) (hP : ∀ h', BoardAt h' σ → FrB h h' → h' 44 = oP σ.1 45 → h' 45 = iA 8 (cr σ.1 (inC σ.1 (σ.2.1 a) (σ.2.1 b))) → P (some (.ref 44)) N h') : AM X0_interval [.ref 4, .int (nI a), .int (nI b)] N h P := by
  obtain ⟨b1, b2, lw, b4⟩ := id B
  have x5 := b2.1
  have x6 := b2.2.1
  have hn := b2.2.2.2.2.2.1
  obtain ⟨p1, p2⟩ := b2.2.2.1 a ha
  obtain ⟨p3, p4⟩ := b2.2.2.1 b hb
  have hr2 : ∀ x, x < σ.1 → cr σ.1 (σ.2.1 b) x < σ.1 := fun x hx => by have := hV x hx; omega
  obtain ⟨f, w2⟩ := lw.2.1
  refine AM.of0 rfl (Nat.le_of_ble_eq_true rfl) rfl [some (.ref 4), some (.int (nI a)), some (.int (nI b))] rfl ?_
  refine AW.aload_n 1 dX0_interval_0 rfl (by rfl) ?_
  refine AW.getfield 4 dX0_interval_1 rfl fl_X0_21 (by assumption) (by rfl) ?_
  refine AW.aload_n 5 dX0_interval_4 rfl (by rfl) ?_
  refine AW.getfield 8 dX0_interval_5 rfl fl_X0_28 (by assumption) (by rfl) ?_
  refine AW.aload_n 9 dX0_interval_8 rfl (by rfl) ?_
  refine AW.getfield 12 dX0_interval_9 rfl fl_X0_12 (by assumption) (by rfl) ?_
  refine AW.getfield 15 dX0_interval_12 rfl fl_X0_36 (by assumption) (by rfl) ?_
  refine AW.iload_n 16 dX0_interval_15 rfl (by rfl) ?_
  refine AW.aaload 17 _ dX0_interval_16 rfl (by assumption) (fun _ => rfl) rfl (ix_nI (by omega)) (by omega) (if_pos (show a < 6 by omega)) ?_
  refine AW.aload_n 18 dX0_interval_17 rfl (by rfl) ?_
  refine AW.getfield 21 dX0_interval_18 rfl fl_X0_12 (by assumption) (by rfl) ?_
  refine AW.getfield 24 dX0_interval_21 rfl fl_X0_36 (by assumption) (by rfl) ?_
  refine AW.iload_n 25 dX0_interval_24 rfl (by rfl) ?_
  refine AW.aaload 26 _ dX0_interval_25 rfl (by assumption) (fun _ => rfl) rfl (ix_nI (by omega)) (by omega) (if_pos (show b < 6 by omega)) ?_
  have w1 := lw.1
  refine AW.cV3 29 dX0_interval_26 rfl mi_X1_complementInside mv_X1_complementInside lk_X0_140 ⟨(Nat.le_of_ble_eq_true rfl), (Nat.le_of_ble_eq_true rfl)⟩ rfl (by assumption) rfl (Nat.le_of_ble_eq_true rfl) (c_complementInside w1 w2 p1 p2 p3 p4 b4 (by omega) hn (fun i hi => cr_lt _ _ i (by omega)) hr2 (fun f1 => ?_))
  generalize hh' : hs (hs (hs h 21 (stO f1)) 44 (oP σ.1 45)) 45 (iA 8 (insF (cr σ.1 (σ.2.1 a)) (cr σ.1 (σ.2.1 b)) σ.1)) = h'
  have q1 : h' 44 = oP σ.1 45 := by rw [← hh', hs_ne (by decide), hs_eq]
  have q2' : h' 45 = iA 8 (cr σ.1 (inC σ.1 (σ.2.1 a) (σ.2.1 b))) := by rw [← hh', hs_eq, inC, cr_ins hn hr2]
  have W' : LW h' := by rw [← hh']; exact (lw.s21.out (by decide)).out (by decide)
  have fr : ∀ z, z < 4 ∨ 46 ≤ z → h' z = h z := fun z hz => by rw [← hh', hs_ne (by omega), hs_ne (by omega), hs_ne (by omega)]
  have B' := BoardAt.made B W' (fun z hz => by rw [← hh', hs_ne (by omega), hs_ne (by omega), hs_ne (by omega)]) q1 q2'
  have y4 := B'.1
  refine AW.aload_n 30 dX0_interval_29 rfl (by rfl) ?_
  refine AW.getfield 33 dX0_interval_30 rfl fl_X0_28 (by assumption) (by rfl) ?_
  refine AW.aret dX0_interval_33 rfl ?_
  exact hP h' B' fr q1 q2'
def lowF (k : Nat) : Nat → Nat → Nat
  | 0, _ => 0
  | m + 1, v => (if v % 10 < k then 1 else 0) + lowF k m (v / 10)
def prkF (n v : Nat) : Bool := alln (fun k => decide (k + 1 ≤ lowF (k + 1) (n - 1) v)) (n - 1)
theorem lowF_le (k : Nat) : ∀ m v, lowF k m v ≤ m
  | 0, _ => Nat.le_refl _
  | m + 1, v => by
    have := lowF_le k m (v / 10)
    unfold lowF
    split <;> omega
theorem c_isParking {v : Nat} (B : BoardAt h σ) (hv : v < 2147483648) (hP : P (some (.int (nI (b01 (prkF σ.1 v))))) N h) : AM X0_isParking [.ref 4, .int (nI v)] N h P := by
  obtain ⟨b1, b2, lw, b4⟩ := id B
  have x5 := b2.1
  have hn := b2.2.2.2.2.2.1
  have hn1 := b2.2.2.2.2.1
  refine AM.of0 rfl (Nat.le_of_ble_eq_true rfl) rfl [some (.ref 4), some (.int (nI v)), none, none, none, none] rfl ?_
  refine AW.iconst 1 dX0_isParking_0 rfl (nI 1) rfl ?_
  refine AW.istore_n 2 dX0_isParking_1 rfl (Nat.le_of_ble_eq_true rfl) rfl ?_
  have L : ∀ j k, k + j + 1 = σ.1 → alln (fun k => decide (k + 1 ≤ lowF (k + 1) (σ.1 - 1) v)) k = true → ∀ o1 o2 o3, AW X0_isParking 2 [some (.ref 4), some (.int (nI v)), some (.int (nI (k + 1))), o1, o2, o3] [] N (0, 0) h P := by
    intro j
    induction j with
    | zero =>
      intro k hk ha o1 o2 o3
      refine AW.iload_n 3 dX0_isParking_2 rfl (by rfl) ?_
      refine AW.aload_n 4 dX0_isParking_3 rfl (by rfl) ?_
      refine AW.getfield 7 dX0_isParking_4 rfl fl_X0_12 (by assumption) (by rfl) ?_
      refine AW.getfield 10 dX0_isParking_7 rfl fl_X0_32 (by assumption) (by rfl) ?_
      refine AW.nge 76 13 dX0_isParking_10 (by decide) rfl (by omega) (by omega) (fun c => ?_) (fun c => ?_)
      · refine AW.iconst 77 dX0_isParking_76 rfl (nI 1) rfl ?_
        refine AW.zret dX0_isParking_77 rfl (by first | exact z_0 | exact z_1 | exact z_b01 _ | assumption) ?_
        rw [b01_t (by rw [prkF, show σ.1 - 1 = k by omega]; rw [show σ.1 - 1 = k by omega] at ha; exact ha)] at hP
        exact hP
      · omega
    | succ j ih =>
      intro k hk ha o1 o2 o3
      refine AW.iload_n 3 dX0_isParking_2 rfl (by rfl) ?_
      refine AW.aload_n 4 dX0_isParking_3 rfl (by rfl) ?_
      refine AW.getfield 7 dX0_isParking_4 rfl fl_X0_12 (by assumption) (by rfl) ?_
      refine AW.getfield 10 dX0_isParking_7 rfl fl_X0_32 (by assumption) (by rfl) ?_
      refine AW.nge 76 13 dX0_isParking_10 (by decide) rfl (by omega) (by omega) (fun c => ?_) (fun c => ?_)
      · omega
      · refine AW.iconst 14 dX0_isParking_13 rfl (nI 0) rfl ?_
        refine AW.istore_n 15 dX0_isParking_14 rfl (Nat.le_of_ble_eq_true rfl) rfl ?_
        refine AW.iload_n 16 dX0_isParking_15 rfl (by rfl) ?_
        refine AW.istore 18 dX0_isParking_16 rfl (Nat.le_of_ble_eq_true rfl) rfl ?_
        refine AW.iconst 19 dX0_isParking_18 rfl (nI 1) rfl ?_
        refine AW.istore 21 dX0_isParking_19 rfl (Nat.le_of_ble_eq_true rfl) rfl ?_
        have I : ∀ m i lo rest, i + m + 1 = σ.1 → lo ≤ i → rest < 2147483648 → lo + lowF (k + 1) m rest = lowF (k + 1) (σ.1 - 1) v → AW X0_isParking 21 [some (.ref 4), some (.int (nI v)), some (.int (nI (k + 1))), some (.int (nI lo)), some (.int (nI rest)), some (.int (nI (i + 1)))] [] N (0, 0) h P := by
          intro m
          induction m with
          | zero =>
            intro i lo rest hi hlo hrs he
            refine AW.iload 23 dX0_isParking_21 rfl (by rfl) ?_
            refine AW.aload_n 24 dX0_isParking_23 rfl (by rfl) ?_
            refine AW.getfield 27 dX0_isParking_24 rfl fl_X0_12 (by assumption) (by rfl) ?_
            refine AW.getfield 30 dX0_isParking_27 rfl fl_X0_32 (by assumption) (by rfl) ?_
            refine AW.nge 63 33 dX0_isParking_30 (by decide) rfl (by omega) (by omega) (fun c2 => ?_) (fun c2 => ?_)
            · have he : lo = lowF (k + 1) (σ.1 - 1) v := he
              refine AW.iload_n 64 dX0_isParking_63 rfl (by rfl) ?_
              refine AW.iload_n 65 dX0_isParking_64 rfl (by rfl) ?_
              refine AW.nge 70 68 dX0_isParking_65 (by decide) rfl (by omega) (by omega) (fun c3 => ?_) (fun c3 => ?_)
              · refine AW.iinc1 73 dX0_isParking_70 rfl (by rfl) rfl ?_
                refine AW.goto 2 dX0_isParking_73 (by decide) ?_
                exact ih (k + 1) (by omega) (alln_s ha (decide_eq_true (by omega))) _ _ _
              · have e := alln_f (p := fun k => decide (k + 1 ≤ lowF (k + 1) (σ.1 - 1) v)) (n := σ.1 - 1) (x := k) (by omega) (decide_eq_false (by omega))
                rw [b01_f (show prkF σ.1 v = false from e)] at hP
                refine AW.iconst 69 dX0_isParking_68 rfl (nI 0) rfl ?_
                refine AW.zret dX0_isParking_69 rfl (by first | exact z_0 | exact z_1 | exact z_b01 _ | assumption) ?_
                exact hP
            · omega
          | succ m ihm =>
            intro i lo rest hi hlo hrs he
            rw [lowF] at he
            refine AW.iload 23 dX0_isParking_21 rfl (by rfl) ?_
            refine AW.aload_n 24 dX0_isParking_23 rfl (by rfl) ?_
            refine AW.getfield 27 dX0_isParking_24 rfl fl_X0_12 (by assumption) (by rfl) ?_
            refine AW.getfield 30 dX0_isParking_27 rfl fl_X0_32 (by assumption) (by rfl) ?_
            refine AW.nge 63 33 dX0_isParking_30 (by decide) rfl (by omega) (by omega) (fun c2 => ?_) (fun c2 => ?_)
            · omega
            · have J : ∀ b, b = (if rest % 10 < k + 1 then 1 else 0) → AW X0_isParking 48 [some (.ref 4), some (.int (nI v)), some (.int (nI (k + 1))), some (.int (nI lo)), some (.int (nI rest)), some (.int (nI (i + 1)))] [.int (nI b), .int (nI lo)] N (0, 0) h P := by
                intro b hb
                rw [← hb] at he
                first | refine AW.iaddN 49 dX0_isParking_48 rfl ?_ | refine AW.iadd 49 dX0_isParking_48 rfl ?_
                refine AW.istore_n 50 dX0_isParking_49 rfl (Nat.le_of_ble_eq_true rfl) rfl ?_
                refine AW.iload 52 dX0_isParking_50 rfl (by rfl) ?_
                refine AW.bipush 54 dX0_isParking_52 rfl (nI 10) rfl ?_
                refine AW.idivN 55 dX0_isParking_54 rfl (by omega) (by omega) (by omega) ?_
                refine AW.istore 57 dX0_isParking_55 rfl (Nat.le_of_ble_eq_true rfl) rfl ?_
                refine AW.iinc1 60 dX0_isParking_57 rfl (by rfl) rfl ?_
                refine AW.goto 21 dX0_isParking_60 (by decide) ?_
                refine ihm (i + 1) (lo + b) (rest / 10) (by omega) ?_ (by omega) (by omega)
                split at hb <;> omega
              refine AW.iload_n 34 dX0_isParking_33 rfl (by rfl) ?_
              refine AW.iload 36 dX0_isParking_34 rfl (by rfl) ?_
              refine AW.bipush 38 dX0_isParking_36 rfl (nI 10) rfl ?_
              refine AW.iremN 39 dX0_isParking_38 rfl (by omega) (by omega) (by omega) ?_
              refine AW.iload_n 40 dX0_isParking_39 rfl (by rfl) ?_
              refine AW.nge 47 43 dX0_isParking_40 (by decide) rfl (by omega) (by omega) (fun c3 => ?_) (fun c3 => ?_)
              · refine AW.iconst 48 dX0_isParking_47 rfl (nI 0) rfl ?_
                exact J 0 (by rw [if_neg (by omega)])
              · refine AW.iconst 44 dX0_isParking_43 rfl (nI 1) rfl ?_
                refine AW.goto 48 dX0_isParking_44 (by decide) ?_
                exact J 1 (by rw [if_pos c3])
        exact I (σ.1 - 1) 0 0 v (by omega) (by omega) hv (by omega)
  exact L (σ.1 - 1) 0 (by omega) rfl none none none
/-- an order, by its letter -/
def carR (σ : aS) (L : Nat) (f : Nat → Int32) : Int32 × aS := if L = 110 then pointR σ (f 0) else if L = 112 then uniteR σ (f 0) (f 1) (f 2) else if L = 109 then meetR σ (f 0) (f 1) (f 2) else if L = 106 then joinR σ (f 0) (f 1) (f 2) else if L = 107 then compR σ (f 0) (f 1) else if L = 116 then turnR σ (f 0) (f 1) else if L = 117 then takeR σ (f 0) (f 1) else numR σ (f 0) (f 1)
def VdS (σ : aS) : Prop := ∀ a, a < 6 → (∀ x, x < σ.1 → cr σ.1 (σ.2.1 a) x ≤ x) ∧ ∀ x, x < σ.1 → cr σ.1 (tuC σ.1 (σ.2.1 a)) x ≤ x
theorem c_carryOut {pv L : Nat} {f : Nat → Int32} (hC : h 0 = sA catN) (B : BoardAt h σ) (hV : VdS σ) (hpv : h pv = .inl (0, (3, .inl f))) (hL : L = 110 ∨ L = 112 ∨ L = 109 ∨ L = 106 ∨ L = 107 ∨ L = 116 ∨ L = 117 ∨ L = 120) (hP : ∀ h', BoardAt h' (carR σ L f).2 → FrB h h' → P (some (.int (carR σ L f).1)) N h') : AM X0_carryOut [.ref 4, .int (nI L), .ref pv] N h P := by
  obtain ⟨b1, b2, lw, b4⟩ := id B
  have tL : (nI L).toInt = (L : Int) := nI_toInt (by omega)
  refine AM.of0 rfl (Nat.le_of_ble_eq_true rfl) rfl [some (.ref 4), some (.int (nI L)), some (.ref pv)] rfl ?_
  refine AW.iload_n 1 dX0_carryOut_0 rfl (by rfl) ?_
  have x0 : ix (nI 0) 0 := ix_nI (by omega)
  have x1 : ix (nI 1) 1 := ix_nI (by omega)
  have x2 : ix (nI 2) 2 := ix_nI (by omega)
  rcases hL with rfl | rfl | rfl | rfl | rfl | rfl | rfl | rfl
  · refine AW.tsIn 64 dX0_carryOut_1 (by omega) (by omega) rfl (by decide) ?_
    refine AW.aload_n 65 dX0_carryOut_64 rfl (by rfl) ?_
    refine AW.aload_n 66 dX0_carryOut_65 rfl (by rfl) ?_
    refine AW.iconst 67 dX0_carryOut_66 rfl (nI 0) rfl ?_
    refine AW.iaload 68 _ dX0_carryOut_67 rfl (by assumption) (by first | exact Or.inl rfl | exact Or.inr rfl) (ix_nI (by omega)) (by omega) ?_
    refine AW.cV1 71 dX0_carryOut_68 rfl mi_X0_changePoints mv_X0_changePoints lk_X0_96 ⟨(Nat.le_of_ble_eq_true rfl), (Nat.le_of_ble_eq_true rfl)⟩ rfl (by assumption) rfl (Nat.le_of_ble_eq_true rfl) (c_changePoints B (fun h' B' f' => ?_))
    refine AW.iret dX0_carryOut_71 rfl ?_
    exact hP h' B' f'
  · refine AW.tsIn 72 dX0_carryOut_1 (by omega) (by omega) rfl (by decide) ?_
    refine AW.aload_n 73 dX0_carryOut_72 rfl (by rfl) ?_
    refine AW.aload_n 74 dX0_carryOut_73 rfl (by rfl) ?_
    refine AW.iconst 75 dX0_carryOut_74 rfl (nI 0) rfl ?_
    refine AW.iaload 76 _ dX0_carryOut_75 rfl (by assumption) (by first | exact Or.inl rfl | exact Or.inr rfl) (ix_nI (by omega)) (by omega) ?_
    refine AW.aload_n 77 dX0_carryOut_76 rfl (by rfl) ?_
    refine AW.iconst 78 dX0_carryOut_77 rfl (nI 1) rfl ?_
    refine AW.iaload 79 _ dX0_carryOut_78 rfl (by assumption) (by first | exact Or.inl rfl | exact Or.inr rfl) (ix_nI (by omega)) (by omega) ?_
    refine AW.aload_n 80 dX0_carryOut_79 rfl (by rfl) ?_
    refine AW.iconst 81 dX0_carryOut_80 rfl (nI 2) rfl ?_
    refine AW.iaload 82 _ dX0_carryOut_81 rfl (by assumption) (by first | exact Or.inl rfl | exact Or.inr rfl) (ix_nI (by omega)) (by omega) ?_
    refine AW.cV3 85 dX0_carryOut_82 rfl mi_X0_unite mv_X0_unite lk_X0_99 ⟨(Nat.le_of_ble_eq_true rfl), (Nat.le_of_ble_eq_true rfl)⟩ rfl (by assumption) rfl (Nat.le_of_ble_eq_true rfl) (c_unite B (fun h' B' f' => ?_))
    refine AW.iret dX0_carryOut_85 rfl ?_
    exact hP h' B' f'
  · refine AW.tsIn 86 dX0_carryOut_1 (by omega) (by omega) rfl (by decide) ?_
    refine AW.aload_n 87 dX0_carryOut_86 rfl (by rfl) ?_
    refine AW.aload_n 88 dX0_carryOut_87 rfl (by rfl) ?_
    refine AW.iconst 89 dX0_carryOut_88 rfl (nI 0) rfl ?_
    refine AW.iaload 90 _ dX0_carryOut_89 rfl (by assumption) (by first | exact Or.inl rfl | exact Or.inr rfl) (ix_nI (by omega)) (by omega) ?_
    refine AW.aload_n 91 dX0_carryOut_90 rfl (by rfl) ?_
    refine AW.iconst 92 dX0_carryOut_91 rfl (nI 1) rfl ?_
    refine AW.iaload 93 _ dX0_carryOut_92 rfl (by assumption) (by first | exact Or.inl rfl | exact Or.inr rfl) (ix_nI (by omega)) (by omega) ?_
    refine AW.aload_n 94 dX0_carryOut_93 rfl (by rfl) ?_
    refine AW.iconst 95 dX0_carryOut_94 rfl (nI 2) rfl ?_
    refine AW.iaload 96 _ dX0_carryOut_95 rfl (by assumption) (by first | exact Or.inl rfl | exact Or.inr rfl) (ix_nI (by omega)) (by omega) ?_
    refine AW.cV3 99 dX0_carryOut_96 rfl mi_X0_putMeet mv_X0_putMeet lk_X0_103 ⟨(Nat.le_of_ble_eq_true rfl), (Nat.le_of_ble_eq_true rfl)⟩ rfl (by assumption) rfl (Nat.le_of_ble_eq_true rfl) (c_putMeet B (fun h' B' f' => ?_))
    refine AW.iret dX0_carryOut_99 rfl ?_
    exact hP h' B' f'
  · refine AW.tsIn 100 dX0_carryOut_1 (by omega) (by omega) rfl (by decide) ?_
    refine AW.aload_n 101 dX0_carryOut_100 rfl (by rfl) ?_
    refine AW.aload_n 102 dX0_carryOut_101 rfl (by rfl) ?_
    refine AW.iconst 103 dX0_carryOut_102 rfl (nI 0) rfl ?_
    refine AW.iaload 104 _ dX0_carryOut_103 rfl (by assumption) (by first | exact Or.inl rfl | exact Or.inr rfl) (ix_nI (by omega)) (by omega) ?_
    refine AW.aload_n 105 dX0_carryOut_104 rfl (by rfl) ?_
    refine AW.iconst 106 dX0_carryOut_105 rfl (nI 1) rfl ?_
    refine AW.iaload 107 _ dX0_carryOut_106 rfl (by assumption) (by first | exact Or.inl rfl | exact Or.inr rfl) (ix_nI (by omega)) (by omega) ?_
    refine AW.aload_n 108 dX0_carryOut_107 rfl (by rfl) ?_
    refine AW.iconst 109 dX0_carryOut_108 rfl (nI 2) rfl ?_
    refine AW.iaload 110 _ dX0_carryOut_109 rfl (by assumption) (by first | exact Or.inl rfl | exact Or.inr rfl) (ix_nI (by omega)) (by omega) ?_
    refine AW.cV3 113 dX0_carryOut_110 rfl mi_X0_putJoin mv_X0_putJoin lk_X0_106 ⟨(Nat.le_of_ble_eq_true rfl), (Nat.le_of_ble_eq_true rfl)⟩ rfl (by assumption) rfl (Nat.le_of_ble_eq_true rfl) (c_putJoin B (fun h' B' f' => ?_))
    refine AW.iret dX0_carryOut_113 rfl ?_
    exact hP h' B' f'
  · refine AW.tsIn 114 dX0_carryOut_1 (by omega) (by omega) rfl (by decide) ?_
    refine AW.aload_n 115 dX0_carryOut_114 rfl (by rfl) ?_
    refine AW.aload_n 116 dX0_carryOut_115 rfl (by rfl) ?_
    refine AW.iconst 117 dX0_carryOut_116 rfl (nI 0) rfl ?_
    refine AW.iaload 118 _ dX0_carryOut_117 rfl (by assumption) (by first | exact Or.inl rfl | exact Or.inr rfl) (ix_nI (by omega)) (by omega) ?_
    refine AW.aload_n 119 dX0_carryOut_118 rfl (by rfl) ?_
    refine AW.iconst 120 dX0_carryOut_119 rfl (nI 1) rfl ?_
    refine AW.iaload 121 _ dX0_carryOut_120 rfl (by assumption) (by first | exact Or.inl rfl | exact Or.inr rfl) (ix_nI (by omega)) (by omega) ?_
    refine AW.cV2 124 dX0_carryOut_121 rfl mi_X0_putComplement mv_X0_putComplement lk_X0_109 ⟨(Nat.le_of_ble_eq_true rfl), (Nat.le_of_ble_eq_true rfl)⟩ rfl (by assumption) rfl (Nat.le_of_ble_eq_true rfl) (c_putComplement B (fun h' B' f' => ?_))
    refine AW.iret dX0_carryOut_124 rfl ?_
    exact hP h' B' f'
  · refine AW.tsIn 125 dX0_carryOut_1 (by omega) (by omega) rfl (by decide) ?_
    refine AW.aload_n 126 dX0_carryOut_125 rfl (by rfl) ?_
    refine AW.aload_n 127 dX0_carryOut_126 rfl (by rfl) ?_
    refine AW.iconst 128 dX0_carryOut_127 rfl (nI 0) rfl ?_
    refine AW.iaload 129 _ dX0_carryOut_128 rfl (by assumption) (by first | exact Or.inl rfl | exact Or.inr rfl) (ix_nI (by omega)) (by omega) ?_
    refine AW.aload_n 130 dX0_carryOut_129 rfl (by rfl) ?_
    refine AW.iconst 131 dX0_carryOut_130 rfl (nI 1) rfl ?_
    refine AW.iaload 132 _ dX0_carryOut_131 rfl (by assumption) (by first | exact Or.inl rfl | exact Or.inr rfl) (ix_nI (by omega)) (by omega) ?_
    refine AW.cV2 135 dX0_carryOut_132 rfl mi_X0_putTurned mv_X0_putTurned lk_X0_113 ⟨(Nat.le_of_ble_eq_true rfl), (Nat.le_of_ble_eq_true rfl)⟩ rfl (by assumption) rfl (Nat.le_of_ble_eq_true rfl) (c_putTurned B hV (fun h' B' f' => ?_))
    refine AW.iret dX0_carryOut_135 rfl ?_
    exact hP h' B' f'
  · refine AW.tsIn 136 dX0_carryOut_1 (by omega) (by omega) rfl (by decide) ?_
    refine AW.aload_n 137 dX0_carryOut_136 rfl (by rfl) ?_
    refine AW.aload_n 138 dX0_carryOut_137 rfl (by rfl) ?_
    refine AW.iconst 139 dX0_carryOut_138 rfl (nI 0) rfl ?_
    refine AW.iaload 140 _ dX0_carryOut_139 rfl (by assumption) (by first | exact Or.inl rfl | exact Or.inr rfl) (ix_nI (by omega)) (by omega) ?_
    refine AW.aload_n 141 dX0_carryOut_140 rfl (by rfl) ?_
    refine AW.iconst 142 dX0_carryOut_141 rfl (nI 1) rfl ?_
    refine AW.iaload 143 _ dX0_carryOut_142 rfl (by assumption) (by first | exact Or.inl rfl | exact Or.inr rfl) (ix_nI (by omega)) (by omega) ?_
    refine AW.cV2 146 dX0_carryOut_143 rfl mi_X0_putPlace mv_X0_putPlace lk_X0_116 ⟨(Nat.le_of_ble_eq_true rfl), (Nat.le_of_ble_eq_true rfl)⟩ rfl (by assumption) rfl (Nat.le_of_ble_eq_true rfl) (c_putPlace hC B (fun h' B' f' => ?_))
    refine AW.iret dX0_carryOut_146 rfl ?_
    exact hP h' B' f'
  · refine AW.tsOut 147 dX0_carryOut_1 (by omega) (by decide) ?_
    refine AW.aload_n 148 dX0_carryOut_147 rfl (by rfl) ?_
    refine AW.aload_n 149 dX0_carryOut_148 rfl (by rfl) ?_
    refine AW.iconst 150 dX0_carryOut_149 rfl (nI 0) rfl ?_
    refine AW.iaload 151 _ dX0_carryOut_150 rfl (by assumption) (by first | exact Or.inl rfl | exact Or.inr rfl) (ix_nI (by omega)) (by omega) ?_
    refine AW.aload_n 152 dX0_carryOut_151 rfl (by rfl) ?_
    refine AW.iconst 153 dX0_carryOut_152 rfl (nI 1) rfl ?_
    refine AW.iaload 154 _ dX0_carryOut_153 rfl (by assumption) (by first | exact Or.inl rfl | exact Or.inr rfl) (ix_nI (by omega)) (by omega) ?_
    refine AW.cV2 157 dX0_carryOut_154 rfl mi_X0_changeNumber mv_X0_changeNumber lk_X0_119 ⟨(Nat.le_of_ble_eq_true rfl), (Nat.le_of_ble_eq_true rfl)⟩ rfl (by assumption) rfl (Nat.le_of_ble_eq_true rfl) (c_changeNumber B (fun h' B' f' => ?_))
    refine AW.iret dX0_carryOut_157 rfl ?_
    exact hP h' B' f'
end BOARD3
