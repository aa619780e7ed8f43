/-! THE MODEL, twenty-first part: type, clear, told -/
section REFK
variable {N n : Nat} {h : aH} {P : aP} {X : aX}
theorem RfAt.txt {tx : Nat → Nat} {ln : Nat} {h' : aH} {la ma at_ fa od : Int32} {d : Int64} (K : RfAt h X) (k1 : h 196 = modO (nI X.2.1.1) (nI X.2.2.2.2) la ma at_ fa od d) (e : ∀ z, z ≠ 196 → z ≠ 201 → h' z = h z) (e1 : h' 196 = modO (nI X.2.1.1) (nI ln) la ma at_ fa od d) (e2 : h' 201 = iA 120 tx) (hl : ln ≤ 120) (ht : ∀ i, tx i < 128) : RfAt h' (X.1, X.2.1, X.2.2.1, (tx, ln)) := by
  obtain ⟨⟨la', ma', at', fa', od', d', q1, kl⟩, k2, ⟨p1, p2, f, p3, p4⟩, k4, k5, k6, ⟨g, k7, k7'⟩, k8, k9⟩ := K
  have kl : LaidAt h la ma := by
    rw [k1] at q1
    unfold modO at q1
    simp only [Sum.inr.injEq, Prod.mk.injEq, List.cons.injEq, Value.int.injEq, Value.long.injEq, true_and, and_true] at q1
    obtain ⟨a1, a2, -, -, -, -⟩ := q1
    rw [a1, a2]
    exact kl
  exact ⟨⟨la, ma, at_, fa, od, d, e1, kl.same (e _ (by decide) (by decide)) (e _ (by decide) (by decide))⟩, by rw [e _ (by decide) (by decide), k2], ⟨p1, p2, f, by rw [e _ (by decide) (by decide), p3], p4⟩, by rw [e _ (by decide) (by decide), k4], e2, ⟨hl, ht⟩, ⟨g, by rw [e _ (by decide) (by decide), k7], k7'⟩, k8.same (fun z hz => e z (by omega) (by omega)), k9⟩
theorem r_type {c : Int32} (K : RfAt h X) (hP : ∀ h', RfAt h' (typeR X c).2 → FrR h h' → P (some (.int (typeR X c).1)) N h') : AM X8_type [.ref 196, .int c] N h P := by
  obtain ⟨la, ma, at_, fa, od, d, x196, -⟩ := id K.1
  have x201 := K.2.2.2.2.1
  obtain ⟨l1, l2⟩ := K.2.2.2.2.2.1
  rw [typeR] at hP
  refine AM.of0 rfl (Nat.le_of_ble_eq_true rfl) rfl [some (.ref 196), some (.int c)] rfl ?_
  refine AW.iload_n 1 dX8_type_0 rfl (by rfl) ?_
  refine AW.iconst 2 dX8_type_1 rfl (nI 0) rfl ?_
  refine AW.bipush 4 dX8_type_2 rfl (nI 127) rfl ?_
  refine AW.cS3 7 dX8_type_4 rfl mi_X8_in ms_X8_in lk_X8_100 ⟨(Nat.le_of_ble_eq_true rfl), (Nat.le_of_ble_eq_true rfl)⟩ rfl (Nat.le_of_ble_eq_true rfl) (c_in ?_)
  rw [inB_eq (m := 127) (by omega)]
  refine AW.zne 17 10 dX8_type_7 (by decide) rfl (fun c1 => ?_) (fun c1 => ?_)
  · rcases inB_cases (m := 128) (by omega) c with ⟨c', hc', rfl, e1⟩ | ⟨-, e1⟩
    · rw [e1, if_pos rfl] at hP
      refine AW.aload_n 18 dX8_type_17 rfl (by rfl) ?_
      refine AW.getfield 21 dX8_type_18 rfl fl_X8_219 (by assumption) (by rfl) ?_
      refine AW.bipush 23 dX8_type_21 rfl (nI 120) rfl ?_
      refine AW.nne 33 26 dX8_type_23 (by decide) rfl (by omega) (by omega) (fun c2 => ?_) (fun c2 => ?_)
      · rw [if_pos (by omega), cl_nI (by omega)] at hP
        refine AW.aload_n 34 dX8_type_33 rfl (by rfl) ?_
        refine AW.getfield 37 dX8_type_34 rfl fl_X8_22 (by assumption) (by rfl) ?_
        refine AW.aload_n 38 dX8_type_37 rfl (by rfl) ?_
        refine AW.getfield 41 dX8_type_38 rfl fl_X8_219 (by assumption) (by rfl) ?_
        refine AW.iload_n 42 dX8_type_41 rfl (by rfl) ?_
        refine AW.iastore 43 _ dX8_type_42 rfl (by assumption) (ix_nI (by omega)) (by omega) ?_
        refine AW.aload_n 44 dX8_type_43 rfl (by rfl) ?_
        refine AW.dup 45 dX8_type_44 rfl rfl ?_
        refine AW.getfield 48 dX8_type_45 rfl fl_X8_219 (by assumption) (by rfl) ?_
        refine AW.iconst 49 dX8_type_48 rfl (nI 1) rfl ?_
        first | refine AW.iaddN 50 dX8_type_49 rfl ?_ | refine AW.iadd 50 dX8_type_49 rfl ?_
        refine AW.putfield 53 dX8_type_50 rfl fl_X8_219 (by assumption) (Nat.le_of_ble_eq_true rfl) (fun _ => ⟨rfl, rfl⟩) ?_
        refine AW.heap (hs (hs h 201 (iA 120 (upN X.2.2.2.1 X.2.2.2.2 c'))) 196 (modO (nI X.2.1.1) (nI (X.2.2.2.2 + 1)) la ma at_ fa od d)) (by rw [upd_nI]; rfl) ?_
        have y196 := hs_eq (hs h 201 (iA 120 (upN X.2.2.2.1 X.2.2.2.2 c'))) 196 (modO (nI X.2.1.1) (nI (X.2.2.2.2 + 1)) la ma at_ fa od d)
        refine AW.aload_n 54 dX8_type_53 rfl (by rfl) ?_
        refine AW.getfield 57 dX8_type_54 rfl fl_X8_219 (by assumption) (by rfl) ?_
        refine AW.iret dX8_type_57 rfl ?_
        refine hP _ (K.txt x196 (fun z z1 z2 => by rw [hs_ne z1, hs_ne z2]) (hs_eq _ _ _) (by rw [hs_ne (by decide), hs_eq]) (by omega) ?_) (fun z hz => by rw [hs_ne (by omega), hs_ne (by omega)])
        intro i
        unfold upN
        split
        · exact hc'
        · exact l2 i
      · rw [if_neg (by omega)] at hP
        refine AW.aload_n 27 dX8_type_26 rfl (by rfl) ?_
        refine AW.bipush 29 dX8_type_27 rfl (-4) rfl ?_
        refine AW.cV1 32 dX8_type_29 rfl mi_X8_refuses mv_X8_refuses lk_X8_131 ⟨(Nat.le_of_ble_eq_true rfl), (Nat.le_of_ble_eq_true rfl)⟩ rfl (by assumption) rfl (Nat.le_of_ble_eq_true rfl) (r_full K ?_)
        intro h' K' F
        refine AW.iret dX8_type_32 rfl ?_
        exact hP h' K' F
    · rw [e1] at c1; exact absurd c1 (by decide)
  · rw [c1] at hP
    refine AW.aload_n 11 dX8_type_10 rfl (by rfl) ?_
    refine AW.bipush 13 dX8_type_11 rfl (-2) rfl ?_
    refine AW.cV1 16 dX8_type_13 rfl mi_X8_refuses mv_X8_refuses lk_X8_131 ⟨(Nat.le_of_ble_eq_true rfl), (Nat.le_of_ble_eq_true rfl)⟩ rfl (by assumption) rfl (Nat.le_of_ble_eq_true rfl) (r_bad K ?_)
    intro h' K' F
    refine AW.iret dX8_type_16 rfl ?_
    exact hP h' K' F
theorem r_clear (K : RfAt h X) (hP : ∀ h', RfAt h' (clearR X).2 → FrR h h' → P (some (.int (clearR X).1)) N h') : AM X8_clear [.ref 196] N h P := by
  obtain ⟨la, ma, at_, fa, od, d, x196, -⟩ := id K.1
  have x201 := K.2.2.2.2.1
  obtain ⟨l1, l2⟩ := K.2.2.2.2.2.1
  refine AM.of0 rfl (Nat.le_of_ble_eq_true rfl) rfl [some (.ref 196), none] rfl ?_
  refine AW.aload_n 1 dX8_clear_0 rfl (by rfl) ?_
  refine AW.getfield 4 dX8_clear_1 rfl fl_X8_219 (by assumption) (by rfl) ?_
  refine AW.istore_n 5 dX8_clear_4 rfl (Nat.le_of_ble_eq_true rfl) rfl ?_
  refine AW.aload_n 6 dX8_clear_5 rfl (by rfl) ?_
  refine AW.iconst 7 dX8_clear_6 rfl (nI 0) rfl ?_
  refine AW.putfield 10 dX8_clear_7 rfl fl_X8_219 (by assumption) (Nat.le_of_ble_eq_true rfl) (fun _ => ⟨rfl, rfl⟩) ?_
  refine AW.heap (hs h 196 (modO (nI X.2.1.1) (nI 0) la ma at_ fa od d)) rfl ?_
  refine AW.iload_n 11 dX8_clear_10 rfl (by rfl) ?_
  refine AW.iret dX8_clear_11 rfl ?_
  exact hP _ (K.txt x196 (fun z z1 _ => hs_ne z1) (hs_eq _ _ _) (by rw [hs_ne (by decide), x201]) (by omega) l2) (fun z hz => hs_ne (by omega))
theorem r_toldOf {w : Nat} (K : RfAt h X) (hw : w < 5) (hP : P (some (.int (tldF X w))) N h) : AM X8_toldOf [.ref 196, .int (nI w)] N h P := by
  obtain ⟨la, ma, at_, fa, od, d, x196, -⟩ := id K.1
  have x200 := K.2.2.2.1
  have : w = 0 ∨ w = 1 ∨ w = 2 ∨ w = 3 ∨ w = 4 := by omega
  refine AM.of0 rfl (Nat.le_of_ble_eq_true rfl) rfl [some (.ref 196), some (.int (nI w))] rfl ?_
  refine AW.iload_n 1 dX8_toldOf_0 rfl (by rfl) ?_
  refine AW.iconst 2 dX8_toldOf_1 rfl (nI 3) rfl ?_
  refine AW.nge 14 5 dX8_toldOf_2 (by decide) rfl (by omega) (by omega) (fun c1 => ?_) (fun c1 => ?_)
  · refine AW.iload_n 15 dX8_toldOf_14 rfl (by rfl) ?_
    refine AW.iconst 16 dX8_toldOf_15 rfl (nI 3) rfl ?_
    refine AW.nne 26 19 dX8_toldOf_16 (by decide) rfl (by omega) (by omega) (fun c2 => ?_) (fun c2 => ?_)
    · refine AW.aload_n 27 dX8_toldOf_26 rfl (by rfl) ?_
      refine AW.getfield 30 dX8_toldOf_27 rfl fl_X8_128 (by assumption) (by rfl) ?_
      refine AW.iret dX8_toldOf_30 rfl ?_
      obtain rfl : w = 4 := by omega
      exact hP
    · refine AW.aload_n 20 dX8_toldOf_19 rfl (by rfl) ?_
      refine AW.getfield 23 dX8_toldOf_20 rfl fl_X8_219 (by assumption) (by rfl) ?_
      refine AW.goto 30 dX8_toldOf_23 (by decide) ?_
      refine AW.iret dX8_toldOf_30 rfl ?_
      subst c2
      exact hP
  · refine AW.aload_n 6 dX8_toldOf_5 rfl (by rfl) ?_
    refine AW.getfield 9 dX8_toldOf_6 rfl fl_X8_19 (by assumption) (by rfl) ?_
    refine AW.iload_n 10 dX8_toldOf_9 rfl (by rfl) ?_
    refine AW.iaload 11 _ dX8_toldOf_10 rfl (by assumption) (by first | exact Or.inl rfl | exact Or.inr rfl) (ix_nI (by omega)) (by omega) ?_
    refine AW.goto 30 dX8_toldOf_11 (by decide) ?_
    refine AW.iret dX8_toldOf_30 rfl ?_
    rcases this with rfl | rfl | rfl | rfl | rfl
    · exact hP
    · exact hP
    · exact hP
    · omega
    · omega
theorem r_told {w : Int32} (K : RfAt h X) (hP : ∀ h', RfAt h' (toldR X w).2 → FrR h h' → P (some (.int (toldR X w).1)) N h') : AM X8_told [.ref 196, .int w] N h P := by
  obtain ⟨_, _, _, _, _, _, x196, -⟩ := id K.1
  rw [toldR] at hP
  refine AM.of0 rfl (Nat.le_of_ble_eq_true rfl) rfl [some (.ref 196), some (.int w)] rfl ?_
  refine AW.iload_n 1 dX8_told_0 rfl (by rfl) ?_
  refine AW.iconst 2 dX8_told_1 rfl (nI 0) rfl ?_
  refine AW.iconst 3 dX8_told_2 rfl (nI 4) rfl ?_
  refine AW.cS3 6 dX8_told_3 rfl mi_X8_in ms_X8_in lk_X8_100 ⟨(Nat.le_of_ble_eq_true rfl), (Nat.le_of_ble_eq_true rfl)⟩ rfl (Nat.le_of_ble_eq_true rfl) (c_in ?_)
  rw [inB_eq (m := 4) (by omega)]
  refine AW.zeq 17 9 dX8_told_6 (by decide) rfl (fun c2 => ?_) (fun c2 => ?_)
  · refine AW.aload_n 18 dX8_told_17 rfl (by rfl) ?_
    refine AW.bipush 20 dX8_told_18 rfl (-2) rfl ?_
    refine AW.cV1 23 dX8_told_20 rfl mi_X8_refuses mv_X8_refuses lk_X8_131 ⟨(Nat.le_of_ble_eq_true rfl), (Nat.le_of_ble_eq_true rfl)⟩ rfl (by assumption) rfl (Nat.le_of_ble_eq_true rfl) (r_bad K ?_)
    intro h' K' F
    refine AW.iret dX8_told_23 rfl ?_
    rw [c2] at hP
    exact hP h' K' F
  · rcases inB_cases (m := 5) (by omega) w with ⟨k', hk', rfl, e2⟩ | ⟨-, e2⟩
    · refine AW.aload_n 10 dX8_told_9 rfl (by rfl) ?_
      refine AW.iload_n 11 dX8_told_10 rfl (by rfl) ?_
      rw [e2, cl_nI (by omega)] at hP
      refine AW.cV1 14 dX8_told_11 rfl mi_X8_toldOf mv_X8_toldOf lk_X8_257 ⟨(Nat.le_of_ble_eq_true rfl), (Nat.le_of_ble_eq_true rfl)⟩ rfl (by assumption) rfl (Nat.le_of_ble_eq_true rfl) (r_toldOf K hk' ?_)
      refine AW.goto 23 dX8_told_14 (by decide) ?_
      refine AW.iret dX8_told_23 rfl ?_
      exact hP h K FrR.refl
    · rw [e2] at c2; exact absurd c2 (by decide)
end REFK
