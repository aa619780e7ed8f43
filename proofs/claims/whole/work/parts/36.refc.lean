/-! THE MODEL, thirteenth part: the changes, back -/
section REFC
variable {N n : Nat} {h : aH} {P : aP} {X : aX}
theorem rkM_ok {r : Int32 × aS} {σ τ : aS} {s c : Nat} (hn : σ.1 ≤ 8) {b : Bool} (e : r = if b then putM σ s c else (-2, τ)) : r.1 = -2 ∨ 0 ≤ r.1.toInt := by
  subst e
  cases b
  · exact Or.inl rfl
  · refine Or.inr ?_
    show 0 ≤ (nI (rkM σ.1 c)).toInt
    have := rkM_le σ.1 c
    rw [nI_toInt (by omega)]
    omega
theorem pointR_ok {σ : aS} (hn : σ.1 ≤ 8) (k : Int32) : (pointR σ k).1 = -2 ∨ 0 ≤ (pointR σ k).1.toInt := by
  unfold pointR
  split
  · refine Or.inr ?_
    show 0 ≤ (nI σ.1).toInt
    rw [nI_toInt (by omega)]
    omega
  · exact Or.inl rfl
theorem turnM_ok {σ : aS} (hn : σ.1 ≤ 8) (s a : Int32) : (turnM σ s a).1 = -2 ∨ 0 ≤ (turnM σ s a).1.toInt := by
  unfold turnM
  split
  · refine Or.inr ?_
    show 0 ≤ (nI (numM σ.1 _)).toInt
    have := numM_lt σ.1 (tuM σ.1 (σ.2.1 (cl a))) hn
    have := catN_le σ.1 hn
    rw [nI_toInt (by omega)]
    omega
  · exact Or.inl rfl
theorem r_points {k : Int32} (K : RfAt h X) (hP : ∀ h', RfAt h' (stl X (pointR X.1 k)).2 → FrR h h' → P (some (.int (stl X (pointR X.1 k)).1)) N h') : AM X8_points [.ref 196, .int k] N h P := by
  obtain ⟨_, _, _, _, _, _, x196, -⟩ := id K.1
  have w := K.2.2.2.2.2.2.2.2
  refine AM.of0 rfl (Nat.le_of_ble_eq_true rfl) rfl [some (.ref 196), some (.int k)] rfl ?_
  refine AW.aload_n 1 dX8_points_0 rfl (by rfl) ?_
  refine AW.cV0 4 dX8_points_1 rfl mi_X8_hold mv_X8_hold lk_X8_137 ⟨(Nat.le_of_ble_eq_true rfl), (Nat.le_of_ble_eq_true rfl)⟩ rfl (by assumption) rfl (Nat.le_of_ble_eq_true rfl) (r_hold K ?_)
  intro h1 K1 H1 F1
  obtain ⟨_, _, _, _, _, _, y196, -⟩ := id K1.1
  refine AW.aload_n 5 dX8_points_4 rfl (by rfl) ?_
  refine AW.aload_n 6 dX8_points_5 rfl (by rfl) ?_
  refine AW.iload_n 7 dX8_points_6 rfl (by rfl) ?_
  refine AW.cV1 10 dX8_points_7 rfl mi_X8_doPoints mv_X8_doPoints lk_X8_140 ⟨(Nat.le_of_ble_eq_true rfl), (Nat.le_of_ble_eq_true rfl)⟩ rfl (by assumption) rfl (Nat.le_of_ble_eq_true rfl) (r_doPoints K1 ?_)
  intro h2 K2 F2
  obtain ⟨_, _, _, _, _, _, y196, -⟩ := id K2.1
  refine AW.cV1 13 dX8_points_10 rfl mi_X8_ends mv_X8_ends lk_X8_143 ⟨(Nat.le_of_ble_eq_true rfl), (Nat.le_of_ble_eq_true rfl)⟩ rfl (by assumption) rfl (Nat.le_of_ble_eq_true rfl) (r_ends K2 (H1.m F2) w (pointR_ok w.2.1 k) ?_)
  intro h3 K3 F3
  refine AW.iret dX8_points_13 rfl ?_
  exact hP h3 K3 (FrR.trans (FrR.trans (fun z hz => F1 z (by omega)) F2.c) F3)
theorem r_puts {s x y : Int32} (K : RfAt h X) (hP : ∀ h', RfAt h' (stl X (uniteM X.1 s x y)).2 → FrR h h' → P (some (.int (stl X (uniteM X.1 s x y)).1)) N h') : AM X8_puts [.ref 196, .int s, .int x, .int y] N h P := by
  obtain ⟨_, _, _, _, _, _, x196, -⟩ := id K.1
  have w := K.2.2.2.2.2.2.2.2
  refine AM.of0 rfl (Nat.le_of_ble_eq_true rfl) rfl [some (.ref 196), some (.int s), some (.int x), some (.int y)] rfl ?_
  refine AW.aload_n 1 dX8_puts_0 rfl (by rfl) ?_
  refine AW.cV0 4 dX8_puts_1 rfl mi_X8_hold mv_X8_hold lk_X8_137 ⟨(Nat.le_of_ble_eq_true rfl), (Nat.le_of_ble_eq_true rfl)⟩ rfl (by assumption) rfl (Nat.le_of_ble_eq_true rfl) (r_hold K ?_)
  intro h1 K1 H1 F1
  obtain ⟨_, _, _, _, _, _, y196, -⟩ := id K1.1
  refine AW.aload_n 5 dX8_puts_4 rfl (by rfl) ?_
  refine AW.aload_n 6 dX8_puts_5 rfl (by rfl) ?_
  refine AW.iload_n 7 dX8_puts_6 rfl (by rfl) ?_
  refine AW.iload_n 8 dX8_puts_7 rfl (by rfl) ?_
  refine AW.iload_n 9 dX8_puts_8 rfl (by rfl) ?_
  refine AW.cV3 12 dX8_puts_9 rfl mi_X8_doPuts mv_X8_doPuts lk_X8_146 ⟨(Nat.le_of_ble_eq_true rfl), (Nat.le_of_ble_eq_true rfl)⟩ rfl (by assumption) rfl (Nat.le_of_ble_eq_true rfl) (r_doPuts K1 ?_)
  intro h2 K2 F2
  obtain ⟨_, _, _, _, _, _, y196, -⟩ := id K2.1
  refine AW.cV1 15 dX8_puts_12 rfl mi_X8_ends mv_X8_ends lk_X8_143 ⟨(Nat.le_of_ble_eq_true rfl), (Nat.le_of_ble_eq_true rfl)⟩ rfl (by assumption) rfl (Nat.le_of_ble_eq_true rfl) (r_ends K2 (H1.m F2) w (rkM_ok w.2.1 rfl) ?_)
  intro h3 K3 F3
  refine AW.iret dX8_puts_15 rfl ?_
  exact hP h3 K3 (FrR.trans (FrR.trans (fun z hz => F1 z (by omega)) F2.c) F3)
theorem r_meets {s a b : Int32} (K : RfAt h X) (hP : ∀ h', RfAt h' (stl X (meetM X.1 s a b)).2 → FrR h h' → P (some (.int (stl X (meetM X.1 s a b)).1)) N h') : AM X8_meets [.ref 196, .int s, .int a, .int b] N h P := by
  obtain ⟨_, _, _, _, _, _, x196, -⟩ := id K.1
  have w := K.2.2.2.2.2.2.2.2
  refine AM.of0 rfl (Nat.le_of_ble_eq_true rfl) rfl [some (.ref 196), some (.int s), some (.int a), some (.int b)] rfl ?_
  refine AW.aload_n 1 dX8_meets_0 rfl (by rfl) ?_
  refine AW.cV0 4 dX8_meets_1 rfl mi_X8_hold mv_X8_hold lk_X8_137 ⟨(Nat.le_of_ble_eq_true rfl), (Nat.le_of_ble_eq_true rfl)⟩ rfl (by assumption) rfl (Nat.le_of_ble_eq_true rfl) (r_hold K ?_)
  intro h1 K1 H1 F1
  obtain ⟨_, _, _, _, _, _, y196, -⟩ := id K1.1
  refine AW.aload_n 5 dX8_meets_4 rfl (by rfl) ?_
  refine AW.aload_n 6 dX8_meets_5 rfl (by rfl) ?_
  refine AW.iload_n 7 dX8_meets_6 rfl (by rfl) ?_
  refine AW.iload_n 8 dX8_meets_7 rfl (by rfl) ?_
  refine AW.iload_n 9 dX8_meets_8 rfl (by rfl) ?_
  refine AW.cV3 12 dX8_meets_9 rfl mi_X8_doMeets mv_X8_doMeets lk_X8_150 ⟨(Nat.le_of_ble_eq_true rfl), (Nat.le_of_ble_eq_true rfl)⟩ rfl (by assumption) rfl (Nat.le_of_ble_eq_true rfl) (r_doMeets K1 ?_)
  intro h2 K2 F2
  obtain ⟨_, _, _, _, _, _, y196, -⟩ := id K2.1
  refine AW.cV1 15 dX8_meets_12 rfl mi_X8_ends mv_X8_ends lk_X8_143 ⟨(Nat.le_of_ble_eq_true rfl), (Nat.le_of_ble_eq_true rfl)⟩ rfl (by assumption) rfl (Nat.le_of_ble_eq_true rfl) (r_ends K2 (H1.m F2) w (rkM_ok w.2.1 rfl) ?_)
  intro h3 K3 F3
  refine AW.iret dX8_meets_15 rfl ?_
  exact hP h3 K3 (FrR.trans (FrR.trans (fun z hz => F1 z (by omega)) F2.c) F3)
theorem r_joins {s a b : Int32} (K : RfAt h X) (hP : ∀ h', RfAt h' (stl X (joinM X.1 s a b)).2 → FrR h h' → P (some (.int (stl X (joinM X.1 s a b)).1)) N h') : AM X8_joins [.ref 196, .int s, .int a, .int b] N h P := by
  obtain ⟨_, _, _, _, _, _, x196, -⟩ := id K.1
  have w := K.2.2.2.2.2.2.2.2
  refine AM.of0 rfl (Nat.le_of_ble_eq_true rfl) rfl [some (.ref 196), some (.int s), some (.int a), some (.int b)] rfl ?_
  refine AW.aload_n 1 dX8_joins_0 rfl (by rfl) ?_
  refine AW.cV0 4 dX8_joins_1 rfl mi_X8_hold mv_X8_hold lk_X8_137 ⟨(Nat.le_of_ble_eq_true rfl), (Nat.le_of_ble_eq_true rfl)⟩ rfl (by assumption) rfl (Nat.le_of_ble_eq_true rfl) (r_hold K ?_)
  intro h1 K1 H1 F1
  obtain ⟨_, _, _, _, _, _, y196, -⟩ := id K1.1
  refine AW.aload_n 5 dX8_joins_4 rfl (by rfl) ?_
  refine AW.aload_n 6 dX8_joins_5 rfl (by rfl) ?_
  refine AW.iload_n 7 dX8_joins_6 rfl (by rfl) ?_
  refine AW.iload_n 8 dX8_joins_7 rfl (by rfl) ?_
  refine AW.iload_n 9 dX8_joins_8 rfl (by rfl) ?_
  refine AW.cV3 12 dX8_joins_9 rfl mi_X8_doJoins mv_X8_doJoins lk_X8_153 ⟨(Nat.le_of_ble_eq_true rfl), (Nat.le_of_ble_eq_true rfl)⟩ rfl (by assumption) rfl (Nat.le_of_ble_eq_true rfl) (r_doJoins K1 ?_)
  intro h2 K2 F2
  obtain ⟨_, _, _, _, _, _, y196, -⟩ := id K2.1
  refine AW.cV1 15 dX8_joins_12 rfl mi_X8_ends mv_X8_ends lk_X8_143 ⟨(Nat.le_of_ble_eq_true rfl), (Nat.le_of_ble_eq_true rfl)⟩ rfl (by assumption) rfl (Nat.le_of_ble_eq_true rfl) (r_ends K2 (H1.m F2) w (rkM_ok w.2.1 rfl) ?_)
  intro h3 K3 F3
  refine AW.iret dX8_joins_15 rfl ?_
  exact hP h3 K3 (FrR.trans (FrR.trans (fun z hz => F1 z (by omega)) F2.c) F3)
theorem r_complements {s a : Int32} (K : RfAt h X) (hP : ∀ h', RfAt h' (stl X (compM X.1 s a)).2 → FrR h h' → P (some (.int (stl X (compM X.1 s a)).1)) N h') : AM X8_complements [.ref 196, .int s, .int a] N h P := by
  obtain ⟨_, _, _, _, _, _, x196, -⟩ := id K.1
  have w := K.2.2.2.2.2.2.2.2
  refine AM.of0 rfl (Nat.le_of_ble_eq_true rfl) rfl [some (.ref 196), some (.int s), some (.int a)] rfl ?_
  refine AW.aload_n 1 dX8_complements_0 rfl (by rfl) ?_
  refine AW.cV0 4 dX8_complements_1 rfl mi_X8_hold mv_X8_hold lk_X8_137 ⟨(Nat.le_of_ble_eq_true rfl), (Nat.le_of_ble_eq_true rfl)⟩ rfl (by assumption) rfl (Nat.le_of_ble_eq_true rfl) (r_hold K ?_)
  intro h1 K1 H1 F1
  obtain ⟨_, _, _, _, _, _, y196, -⟩ := id K1.1
  refine AW.aload_n 5 dX8_complements_4 rfl (by rfl) ?_
  refine AW.aload_n 6 dX8_complements_5 rfl (by rfl) ?_
  refine AW.iload_n 7 dX8_complements_6 rfl (by rfl) ?_
  refine AW.iload_n 8 dX8_complements_7 rfl (by rfl) ?_
  refine AW.cV2 11 dX8_complements_8 rfl mi_X8_doComplements mv_X8_doComplements lk_X8_156 ⟨(Nat.le_of_ble_eq_true rfl), (Nat.le_of_ble_eq_true rfl)⟩ rfl (by assumption) rfl (Nat.le_of_ble_eq_true rfl) (r_doComplements K1 ?_)
  intro h2 K2 F2
  obtain ⟨_, _, _, _, _, _, y196, -⟩ := id K2.1
  refine AW.cV1 14 dX8_complements_11 rfl mi_X8_ends mv_X8_ends lk_X8_143 ⟨(Nat.le_of_ble_eq_true rfl), (Nat.le_of_ble_eq_true rfl)⟩ rfl (by assumption) rfl (Nat.le_of_ble_eq_true rfl) (r_ends K2 (H1.m F2) w (rkM_ok w.2.1 rfl) ?_)
  intro h3 K3 F3
  refine AW.iret dX8_complements_14 rfl ?_
  exact hP h3 K3 (FrR.trans (FrR.trans (fun z hz => F1 z (by omega)) F2.c) F3)
theorem r_turns {s a : Int32} (K : RfAt h X) (hP : ∀ h', RfAt h' (stl X (turnM X.1 s a)).2 → FrR h h' → P (some (.int (stl X (turnM X.1 s a)).1)) N h') : AM X8_turns [.ref 196, .int s, .int a] N h P := by
  obtain ⟨_, _, _, _, _, _, x196, -⟩ := id K.1
  have w := K.2.2.2.2.2.2.2.2
  refine AM.of0 rfl (Nat.le_of_ble_eq_true rfl) rfl [some (.ref 196), some (.int s), some (.int a)] rfl ?_
  refine AW.aload_n 1 dX8_turns_0 rfl (by rfl) ?_
  refine AW.cV0 4 dX8_turns_1 rfl mi_X8_hold mv_X8_hold lk_X8_137 ⟨(Nat.le_of_ble_eq_true rfl), (Nat.le_of_ble_eq_true rfl)⟩ rfl (by assumption) rfl (Nat.le_of_ble_eq_true rfl) (r_hold K ?_)
  intro h1 K1 H1 F1
  obtain ⟨_, _, _, _, _, _, y196, -⟩ := id K1.1
  refine AW.aload_n 5 dX8_turns_4 rfl (by rfl) ?_
  refine AW.aload_n 6 dX8_turns_5 rfl (by rfl) ?_
  refine AW.iload_n 7 dX8_turns_6 rfl (by rfl) ?_
  refine AW.iload_n 8 dX8_turns_7 rfl (by rfl) ?_
  refine AW.cV2 11 dX8_turns_8 rfl mi_X8_doTurns mv_X8_doTurns lk_X8_159 ⟨(Nat.le_of_ble_eq_true rfl), (Nat.le_of_ble_eq_true rfl)⟩ rfl (by assumption) rfl (Nat.le_of_ble_eq_true rfl) (r_doTurns K1 ?_)
  intro h2 K2 F2
  obtain ⟨_, _, _, _, _, _, y196, -⟩ := id K2.1
  refine AW.cV1 14 dX8_turns_11 rfl mi_X8_ends mv_X8_ends lk_X8_143 ⟨(Nat.le_of_ble_eq_true rfl), (Nat.le_of_ble_eq_true rfl)⟩ rfl (by assumption) rfl (Nat.le_of_ble_eq_true rfl) (r_ends K2 (H1.m F2) w (turnM_ok w.2.1 s a) ?_)
  intro h3 K3 F3
  refine AW.iret dX8_turns_14 rfl ?_
  exact hP h3 K3 (FrR.trans (FrR.trans (fun z hz => F1 z (by omega)) F2.c) F3)
theorem r_takes {s k : Int32} (K : RfAt h X) (hP : ∀ h', RfAt h' (stl X (takeM X.1 s k)).2 → FrR h h' → P (some (.int (stl X (takeM X.1 s k)).1)) N h') : AM X8_takes [.ref 196, .int s, .int k] N h P := by
  obtain ⟨_, _, _, _, _, _, x196, -⟩ := id K.1
  have w := K.2.2.2.2.2.2.2.2
  refine AM.of0 rfl (Nat.le_of_ble_eq_true rfl) rfl [some (.ref 196), some (.int s), some (.int k)] rfl ?_
  refine AW.aload_n 1 dX8_takes_0 rfl (by rfl) ?_
  refine AW.cV0 4 dX8_takes_1 rfl mi_X8_hold mv_X8_hold lk_X8_137 ⟨(Nat.le_of_ble_eq_true rfl), (Nat.le_of_ble_eq_true rfl)⟩ rfl (by assumption) rfl (Nat.le_of_ble_eq_true rfl) (r_hold K ?_)
  intro h1 K1 H1 F1
  obtain ⟨_, _, _, _, _, _, y196, -⟩ := id K1.1
  refine AW.aload_n 5 dX8_takes_4 rfl (by rfl) ?_
  refine AW.aload_n 6 dX8_takes_5 rfl (by rfl) ?_
  refine AW.iload_n 7 dX8_takes_6 rfl (by rfl) ?_
  refine AW.iload_n 8 dX8_takes_7 rfl (by rfl) ?_
  refine AW.cV2 11 dX8_takes_8 rfl mi_X8_doTakes mv_X8_doTakes lk_X8_162 ⟨(Nat.le_of_ble_eq_true rfl), (Nat.le_of_ble_eq_true rfl)⟩ rfl (by assumption) rfl (Nat.le_of_ble_eq_true rfl) (r_doTakes K1 ?_)
  intro h2 K2 F2
  obtain ⟨_, _, _, _, _, _, y196, -⟩ := id K2.1
  refine AW.cV1 14 dX8_takes_11 rfl mi_X8_ends mv_X8_ends lk_X8_143 ⟨(Nat.le_of_ble_eq_true rfl), (Nat.le_of_ble_eq_true rfl)⟩ rfl (by assumption) rfl (Nat.le_of_ble_eq_true rfl) (r_ends K2 (H1.m F2) w (rkM_ok w.2.1 rfl) ?_)
  intro h3 K3 F3
  refine AW.iret dX8_takes_14 rfl ?_
  exact hP h3 K3 (FrR.trans (FrR.trans (fun z hz => F1 z (by omega)) F2.c) F3)
theorem r_number {m v : Int32} (K : RfAt h X) (hA : (numR X.1 m v).1 = -2 ∨ 0 ≤ (numR X.1 m v).1.toInt) (hP : ∀ h', RfAt h' (stl X (numR X.1 m v)).2 → FrR h h' → P (some (.int (stl X (numR X.1 m v)).1)) N h') : AM X8_number [.ref 196, .int m, .int v] N h P := by
  obtain ⟨_, _, _, _, _, _, x196, -⟩ := id K.1
  have w := K.2.2.2.2.2.2.2.2
  refine AM.of0 rfl (Nat.le_of_ble_eq_true rfl) rfl [some (.ref 196), some (.int m), some (.int v)] rfl ?_
  refine AW.aload_n 1 dX8_number_0 rfl (by rfl) ?_
  refine AW.cV0 4 dX8_number_1 rfl mi_X8_hold mv_X8_hold lk_X8_137 ⟨(Nat.le_of_ble_eq_true rfl), (Nat.le_of_ble_eq_true rfl)⟩ rfl (by assumption) rfl (Nat.le_of_ble_eq_true rfl) (r_hold K ?_)
  intro h1 K1 H1 F1
  obtain ⟨_, _, _, _, _, _, y196, -⟩ := id K1.1
  refine AW.aload_n 5 dX8_number_4 rfl (by rfl) ?_
  refine AW.aload_n 6 dX8_number_5 rfl (by rfl) ?_
  refine AW.iload_n 7 dX8_number_6 rfl (by rfl) ?_
  refine AW.iload_n 8 dX8_number_7 rfl (by rfl) ?_
  refine AW.cV2 11 dX8_number_8 rfl mi_X8_doNumber mv_X8_doNumber lk_X8_165 ⟨(Nat.le_of_ble_eq_true rfl), (Nat.le_of_ble_eq_true rfl)⟩ rfl (by assumption) rfl (Nat.le_of_ble_eq_true rfl) (r_doNumber K1 ?_)
  intro h2 K2 F2
  obtain ⟨_, _, _, _, _, _, y196, -⟩ := id K2.1
  refine AW.cV1 14 dX8_number_11 rfl mi_X8_ends mv_X8_ends lk_X8_143 ⟨(Nat.le_of_ble_eq_true rfl), (Nat.le_of_ble_eq_true rfl)⟩ rfl (by assumption) rfl (Nat.le_of_ble_eq_true rfl) (r_ends K2 (H1.m F2) w (hA) ?_)
  intro h3 K3 F3
  refine AW.iret dX8_number_14 rfl ?_
  exact hP h3 K3 (FrR.trans (FrR.trans (fun z hz => F1 z (by omega)) F2.c) F3)
theorem r_back (K : RfAt h X) (hP : ∀ h', RfAt h' (backR X).2 → FrR h h' → P (some (.int (backR X).1)) N h') : AM X8_back [.ref 196] N h P := by
  obtain ⟨⟨la, ma, at_, fa, od, d, k1, kl⟩, k2, ⟨p1, p2, f, p3, p4⟩, k4, k5, k6, ⟨g, k7, k7'⟩, k8, k9⟩ := id K
  have x197 : h 197 = .inl (0, (15, .inl (nowF X.1))) := k2
  rw [backR] at hP
  refine AM.of0 rfl (Nat.le_of_ble_eq_true rfl) rfl [some (.ref 196), none] rfl ?_
  refine AW.aload_n 1 dX8_back_0 rfl (by rfl) ?_
  refine AW.getfield 4 dX8_back_1 rfl fl_X8_128 (by assumption) (by rfl) ?_
  refine AW.ine 14 7 dX8_back_4 (by decide) rfl (by omega) (fun c => ?_) (fun c => ?_)
  · rw [if_neg c] at hP
    refine AW.aload_n 15 dX8_back_14 rfl (by rfl) ?_
    refine AW.dup 16 dX8_back_15 rfl rfl ?_
    refine AW.getfield 19 dX8_back_16 rfl fl_X8_128 (by assumption) (by rfl) ?_
    refine AW.iconst 20 dX8_back_19 rfl (nI 1) rfl ?_
    first | refine AW.isubN 21 dX8_back_20 rfl (by omega) ?_ | refine AW.isub 21 dX8_back_20 rfl ?_
    refine AW.putfield 24 dX8_back_21 rfl fl_X8_128 (by assumption) (Nat.le_of_ble_eq_true rfl) (fun _ => ⟨rfl, rfl⟩) ?_
    refine AW.heap (hs h 196 (modO (nI (X.2.1.1 - 1)) (nI X.2.2.2.2) la ma at_ fa od d)) rfl ?_
    refine AW.iconst 25 dX8_back_24 rfl (nI 0) rfl ?_
    refine AW.istore_n 26 dX8_back_25 rfl (Nat.le_of_ble_eq_true rfl) rfl ?_
    have L : ∀ k x, x + k = 15 → AW X8_back 26 [some (.ref 196), some (.int (nI x))] [] N (0, 0) (hs (hs h 196 (modO (nI (X.2.1.1 - 1)) (nI X.2.2.2.2) la ma at_ fa od d)) 197 (.inl (0, (15, .inl (fun i => if i < x then nowF (X.2.1.2 0) i else nowF X.1 i))))) P := by
      intro k
      induction k with
      | zero =>
        intro x hx
        refine AW.iload_n 27 dX8_back_26 rfl (by rfl) ?_
        refine AW.bipush 29 dX8_back_27 rfl (nI 15) rfl ?_
        refine AW.nge 58 32 dX8_back_29 (by decide) rfl (by omega) (by omega) (fun c2 => ?_) (fun c2 => ?_)
        · have y196 := at_ne (a := 197) (e := (.inl (0, (15, .inl (fun i => if i < x then nowF (X.2.1.2 0) i else nowF X.1 i))) : aE)) (hs_eq h 196 (modO (nI (X.2.1.1 - 1)) (nI X.2.2.2.2) la ma at_ fa od d)) (by decide)
          refine AW.aload_n 59 dX8_back_58 rfl (by rfl) ?_
          refine AW.getfield 62 dX8_back_59 rfl fl_X8_128 (by assumption) (by rfl) ?_
          refine AW.iret dX8_back_62 rfl ?_
          rw [show (fun i => if i < x then nowF (X.2.1.2 0) i else nowF X.1 i) = nowF (X.2.1.2 0) from funext fun i => by
            by_cases e : i < x
            · rw [if_pos e]
            · rw [if_neg e]
              have a1 : ¬ i = 0 := by omega
              have a2 : ¬ i < 7 := by omega
              have a3 : ¬ i < 15 := by omega
              simp [nowF, a1, a2, a3]]
          refine hP _ ⟨⟨la, ma, at_, fa, od, d, by rw [hs_ne (by decide), hs_eq]; rfl, (kl.same (hs_ne (by decide)) (hs_ne (by decide))).same (hs_ne (by decide)) (hs_ne (by decide))⟩, hs_eq _ _ _, ⟨?_, ?_, f, by rw [hs_ne (by decide), hs_ne (by decide), p3], ?_⟩, by rw [hs_ne (by decide), hs_ne (by decide), k4], by rw [hs_ne (by decide), hs_ne (by decide), k5], k6, ⟨g, by rw [hs_ne (by decide), hs_ne (by decide), k7], k7'⟩, k8.same (fun z hz => by rw [hs_ne (by omega), hs_ne (by omega)]), p2 0 (by omega)⟩ (fun z hz => by rw [hs_ne (by omega), hs_ne (by omega)])
          · show X.2.1.1 - 1 ≤ 5
            omega
          · intro j hj
            have hj : j < X.2.1.1 - 1 := hj
            exact p2 (j + 1) (by omega)
          · intro j hj i hi
            have hj : j < X.2.1.1 - 1 := hj
            show f (15 * (X.2.1.1 - 1 - 1 - j) + i) = nowF (X.2.1.2 (j + 1)) i
            rw [← p4 (j + 1) (by omega) i hi]
            congr 1
            omega
        · omega
      | succ k ih =>
        intro x hx
        have y196 := at_ne (a := 197) (e := (.inl (0, (15, .inl (fun i => if i < x then nowF (X.2.1.2 0) i else nowF X.1 i))) : aE)) (hs_eq h 196 (modO (nI (X.2.1.1 - 1)) (nI X.2.2.2.2) la ma at_ fa od d)) (by decide)
        have y199 := at_ne (a := 197) (e := (.inl (0, (15, .inl (fun i => if i < x then nowF (X.2.1.2 0) i else nowF X.1 i))) : aE)) (at_ne (a := 196) (e := modO (nI (X.2.1.1 - 1)) (nI X.2.2.2.2) la ma at_ fa od d) p3 (by decide)) (by decide)
        have y197 := hs_eq (hs h 196 (modO (nI (X.2.1.1 - 1)) (nI X.2.2.2.2) la ma at_ fa od d)) 197 (.inl (0, (15, .inl (fun i => if i < x then nowF (X.2.1.2 0) i else nowF X.1 i))) : aE)
        refine AW.iload_n 27 dX8_back_26 rfl (by rfl) ?_
        refine AW.bipush 29 dX8_back_27 rfl (nI 15) rfl ?_
        refine AW.nge 58 32 dX8_back_29 (by decide) rfl (by omega) (by omega) (fun c2 => ?_) (fun c2 => ?_)
        · omega
        · refine AW.aload_n 33 dX8_back_32 rfl (by rfl) ?_
          refine AW.getfield 36 dX8_back_33 rfl fl_X8_7 (by assumption) (by rfl) ?_
          refine AW.iload_n 37 dX8_back_36 rfl (by rfl) ?_
          refine AW.aload_n 38 dX8_back_37 rfl (by rfl) ?_
          refine AW.getfield 41 dX8_back_38 rfl fl_X8_16 (by assumption) (by rfl) ?_
          refine AW.bipush 43 dX8_back_41 rfl (nI 15) rfl ?_
          refine AW.aload_n 44 dX8_back_43 rfl (by rfl) ?_
          refine AW.getfield 47 dX8_back_44 rfl fl_X8_128 (by assumption) (by rfl) ?_
          first | refine AW.imulN 48 dX8_back_47 rfl ?_ | refine AW.imul 48 dX8_back_47 rfl ?_
          refine AW.iload_n 49 dX8_back_48 rfl (by rfl) ?_
          first | refine AW.iaddN 50 dX8_back_49 rfl ?_ | refine AW.iadd 50 dX8_back_49 rfl ?_
          refine AW.iaload 51 _ dX8_back_50 rfl (by assumption) (by first | exact Or.inl rfl | exact Or.inr rfl) (ix_nI (by omega)) (by omega) ?_
          rw [show f (15 * (X.2.1.1 - 1) + x) = nowF (X.2.1.2 0) x from by rw [← p4 0 (by omega) x (by omega)]; rfl]
          refine AW.iastore 52 _ dX8_back_51 rfl (by assumption) (ix_nI (by omega)) (by omega) ?_
          refine AW.iinc1 55 dX8_back_52 rfl (by rfl) rfl ?_
          refine AW.goto 26 dX8_back_55 (by decide) ?_
          rw [hs_hs, show upd (fun i => if i < x then nowF (X.2.1.2 0) i else nowF X.1 i) x (nowF (X.2.1.2 0) x) = (fun i => if i < x + 1 then nowF (X.2.1.2 0) i else nowF X.1 i) from funext fun i => by
            show (if i = x then nowF (X.2.1.2 0) x else if i < x then nowF (X.2.1.2 0) i else nowF X.1 i) = if i < x + 1 then nowF (X.2.1.2 0) i else nowF X.1 i
            by_cases e : i = x
            · rw [if_pos e, if_pos (by omega), e]
            · rw [if_neg e]
              by_cases e2 : i < x
              · rw [if_pos e2, if_pos (by omega)]
              · rw [if_neg e2, if_neg (by omega)]]
          exact ih (x + 1) (by omega)
    have := L 15 0 (by omega)
    have z197 := at_ne (a := 196) (e := modO (nI (X.2.1.1 - 1)) (nI X.2.2.2.2) la ma at_ fa od d) x197 (by decide)
    rw [show (fun i => if i < 0 then nowF (X.2.1.2 0) i else nowF X.1 i) = nowF X.1 from funext fun i => by simp, hs_self z197] at this
    exact this
  · rw [if_pos c] at hP
    refine AW.aload_n 8 dX8_back_7 rfl (by rfl) ?_
    refine AW.bipush 10 dX8_back_8 rfl (-3) rfl ?_
    refine AW.cV1 13 dX8_back_10 rfl mi_X8_refuses mv_X8_refuses lk_X8_131 ⟨(Nat.le_of_ble_eq_true rfl), (Nat.le_of_ble_eq_true rfl)⟩ rfl (by assumption) rfl (Nat.le_of_ble_eq_true rfl) (r_no K ?_)
    intro h' K' F
    refine AW.iret dX8_back_13 rfl ?_
    exact hP h' K' F
end REFC
