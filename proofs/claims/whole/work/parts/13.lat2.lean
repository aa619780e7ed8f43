/-! LATTICE, second part: the workspace, joins, covers, places -/
theorem cyc_ok {s : Nat → Nat} {n : Nat} (hn : n ≤ 8) (hs : ∀ i, i < n → s i < n) : (∀ i, i < 8 → cycF s n i < 8) ∧ ∀ i, 8 ≤ i → cycF s n i = 0 := by
  have L : ∀ x, x ≤ n → (∀ i, i < 8 → cycO s n x i < 8) ∧ ∀ i, 8 ≤ i → cycO s n x i = 0 := by
    intro x
    induction x with
    | zero => intro _; exact ⟨fun i hi => by simp [cycO, idn, hi], fun i hi => by simp [cycO, idn, show ¬ i < 8 by omega]⟩
    | succ x ih =>
      intro hx
      have ih := ih (by omega)
      unfold cycO
      split
      · exact cycI_le (by omega) hn hs _ _ _ (hs x (by omega)) ih.1 ih.2
      · exact ih
  exact L n (Nat.le_refl n)
theorem comp_ok {r : Nat → Nat} {n : Nat} (hn : n ≤ 8) : (∀ i, i < 8 → compF r n i < 8) ∧ ∀ i, 8 ≤ i → compF r n i = 0 := cyc_ok hn (fun i hi => prevF_lt (aft_lt (by omega)))
theorem un_ok {r : Nat → Nat} {n : Nat} (hn : n ≤ 8) : (∀ i, i < 8 → unF r n i < 8) ∧ ∀ i, 8 ≤ i → unF r n i = 0 := cyc_ok hn (fun i hi => aft_lt (by omega))
theorem ins_ok {r r2 : Nat → Nat} {n : Nat} (hn : n ≤ 8) (hr2 : ∀ x, x < n → r2 x < n) : (∀ i, i < 8 → insF r r2 n i < 8) ∧ ∀ i, 8 ≤ i → insF r r2 n i = 0 := cyc_ok hn (fun i hi => prevF_lt (nextF_lt hi (hr2 i hi)))
theorem trn_ok {r : Nat → Nat} {n : Nat} (hn : n ≤ 8) : (∀ i, i < 8 → trnF r n i < 8) ∧ ∀ i, 8 ≤ i → trnF r n i = 0 := cyc_ok hn (fun i hi => aft_lt (by omega))
theorem meet_ok {ra rb : Nat → Nat} {n : Nat} (hn : n ≤ 8) : (∀ i, i < 8 → meetF ra rb n i < 8) ∧ ∀ i, 8 ≤ i → meetF ra rb n i = 0 := by
  refine ⟨fun i hi => ?_, fun i hi => ?_⟩
  · unfold meetF
    split
    · exact Nat.lt_of_lt_of_le (fnd_lt (n := i + 1) (by omega) _ _ (by omega)) (by omega)
    · simp [idn, hi]
  · rw [meetF, if_neg (by omega), idn, if_neg (by omega)]
theorem PartAt.of0 {h : aH} {p q n : Nat} {r : Nat → Nat} (h1 : h p = oP n q) (h2 : h q = iA 8 r) (hr : ∀ i, 8 ≤ i → r i = 0) : PartAt h p q := ⟨_, _, h1, h2, fun i hi => by show nI (r i) = nI 0; rw [hr i hi]⟩
theorem PartAt.ne {h : aH} {p q a : Nat} {e : aE} (hm : PartAt h p q) (h1 : p ≠ a) (h2 : q ≠ a) : PartAt (hs h a e) p q := by
  obtain ⟨m, f, g1, g2, g3⟩ := hm
  exact ⟨m, f, by rw [hs_ne h1, g1], by rw [hs_ne h2, g2], g3⟩
def LW (h : aH) : Prop := h 20 = latO ∧ (∃ f, h 21 = stO f) ∧ (∃ f, h 22 = stO f) ∧ (∃ f, h 23 = .inl (0, (9, .inl f))) ∧ h 24 = refs 9 24 ∧ (∀ i, i < 9 → h (24 + 1 + i) = iA 9 (wy i)) ∧ PartAt h 34 35 ∧ PartAt h 36 37 ∧ PartAt h 38 39 ∧ PartAt h 40 41 ∧ PartAt h 42 43
theorem LW.out {h : aH} {a : Nat} {e : aE} (w : LW h) (ha : a < 20 ∨ 44 ≤ a) : LW (hs h a e) := by
  obtain ⟨w1, ⟨f2, w2⟩, ⟨f3, w3⟩, ⟨f4, w4⟩, w5, w6, w7, w8, w9, w10, w11⟩ := w
  exact ⟨by rw [hs_ne (by omega), w1], ⟨f2, by rw [hs_ne (by omega), w2]⟩, ⟨f3, by rw [hs_ne (by omega), w3]⟩, ⟨f4, by rw [hs_ne (by omega), w4]⟩, by rw [hs_ne (by omega), w5], fun i hi => by rw [hs_ne (by omega), w6 i hi], w7.ne (by omega) (by omega), w8.ne (by omega) (by omega), w9.ne (by omega) (by omega), w10.ne (by omega) (by omega), w11.ne (by omega) (by omega)⟩
theorem LW.s21 {h : aH} {f : Nat → Int32} (w : LW h) : LW (hs h 21 (stO f)) := by
  obtain ⟨w1, ⟨f2, w2⟩, ⟨f3, w3⟩, ⟨f4, w4⟩, w5, w6, w7, w8, w9, w10, w11⟩ := w
  exact ⟨by rw [hs_ne (by decide), w1], ⟨f, hs_eq _ _ _⟩, ⟨f3, by rw [hs_ne (by decide), w3]⟩, ⟨f4, by rw [hs_ne (by decide), w4]⟩, by rw [hs_ne (by decide), w5], fun i hi => by rw [hs_ne (by omega), w6 i hi], w7.ne (by decide) (by decide), w8.ne (by decide) (by decide), w9.ne (by decide) (by decide), w10.ne (by decide) (by decide), w11.ne (by decide) (by decide)⟩
theorem LW.s22 {h : aH} {f : Nat → Int32} (w : LW h) : LW (hs h 22 (stO f)) := by
  obtain ⟨w1, ⟨f2, w2⟩, ⟨f3, w3⟩, ⟨f4, w4⟩, w5, w6, w7, w8, w9, w10, w11⟩ := w
  exact ⟨by rw [hs_ne (by decide), w1], ⟨f2, by rw [hs_ne (by decide), w2]⟩, ⟨f, hs_eq _ _ _⟩, ⟨f4, by rw [hs_ne (by decide), w4]⟩, by rw [hs_ne (by decide), w5], fun i hi => by rw [hs_ne (by omega), w6 i hi], w7.ne (by decide) (by decide), w8.ne (by decide) (by decide), w9.ne (by decide) (by decide), w10.ne (by decide) (by decide), w11.ne (by decide) (by decide)⟩
theorem LW.s23 {h : aH} {f : Nat → Int32} (w : LW h) : LW (hs h 23 (.inl (0, (9, .inl f)))) := by
  obtain ⟨w1, ⟨f2, w2⟩, ⟨f3, w3⟩, ⟨f4, w4⟩, w5, w6, w7, w8, w9, w10, w11⟩ := w
  exact ⟨by rw [hs_ne (by decide), w1], ⟨f2, by rw [hs_ne (by decide), w2]⟩, ⟨f3, by rw [hs_ne (by decide), w3]⟩, ⟨f, hs_eq _ _ _⟩, by rw [hs_ne (by decide), w5], fun i hi => by rw [hs_ne (by omega), w6 i hi], w7.ne (by decide) (by decide), w8.ne (by decide) (by decide), w9.ne (by decide) (by decide), w10.ne (by decide) (by decide), w11.ne (by decide) (by decide)⟩
theorem PartAt.put {h : aH} {p q p' q' n : Nat} {r : Nat → Nat} (hm : PartAt h p q) (hr : ∀ i, 8 ≤ i → r i = 0) (hd : (p = p' ∧ q = q' ∧ p ≠ q) ∨ (p ≠ p' ∧ p ≠ q' ∧ q ≠ p' ∧ q ≠ q')) : PartAt (hs (hs h p' (oP n q')) q' (iA 8 r)) p q := by
  rcases hd with ⟨rfl, rfl, h3⟩ | ⟨h1, h2, h3, h4⟩
  · exact PartAt.of0 (n := n) (r := r) (by rw [hs_ne h3, hs_eq]) (hs_eq _ _ _) hr
  · exact (hm.ne h1 h3).ne h2 h4
theorem LW.part {h : aH} {p n : Nat} {r : Nat → Nat} (w : LW h) (hp : p = 34 ∨ p = 36 ∨ p = 38 ∨ p = 40 ∨ p = 42) (hr : ∀ i, 8 ≤ i → r i = 0) : LW (hs (hs h p (oP n (p + 1))) (p + 1) (iA 8 r)) := by
  obtain ⟨w1, ⟨f2, w2⟩, ⟨f3, w3⟩, ⟨f4, w4⟩, w5, w6, w7, w8, w9, w10, w11⟩ := w
  exact ⟨by rw [hs_ne (by omega), hs_ne (by omega), w1], ⟨f2, by rw [hs_ne (by omega), hs_ne (by omega), w2]⟩, ⟨f3, by rw [hs_ne (by omega), hs_ne (by omega), w3]⟩, ⟨f4, by rw [hs_ne (by omega), hs_ne (by omega), w4]⟩, by rw [hs_ne (by omega), hs_ne (by omega), w5], fun i hi => by rw [hs_ne (by omega), hs_ne (by omega), w6 i hi], w7.put hr (by omega), w8.put hr (by omega), w9.put hr (by omega), w10.put hr (by omega), w11.put hr (by omega)⟩
section LAT2
variable {N n : Nat} {h : aH} {r : Nat → Nat} {P : aP}
def joinF (ra rb : Nat → Nat) (n : Nat) : Nat → Nat := unF (meetF (compF ra n) (compF rb n) n) n
theorem c_join {pm qm pa qa pb qb : Nat} {ra rb : Nat → Nat} (w : LW h) (ha : h pa = oP n qa) (hqa : h qa = iA 8 ra) (hb : h pb = oP n qb) (hqb : h qb = iA 8 rb) (hm : PartAt h pm qm) (hpm : (pm = 42 ∧ qm = 43) ∨ (44 ≤ pm ∧ 44 ≤ qm ∧ pm ≠ qm)) (oa : pa < 20 ∨ 40 ≤ pa) (oqa : qa < 20 ∨ 40 ≤ qa) (ob : pb < 20 ∨ 40 ≤ pb) (oqb : qb < 20 ∨ 40 ≤ qb) (hn : n ≤ 8) (hra : ∀ x, x < n → ra x < 8) (hrb : ∀ x, x < n → rb x < 8) (hP : ∀ h', LW h' → (∀ a, a < 20 ∨ 44 ≤ a → a ≠ pm → a ≠ qm → h' a = h a) → h' pm = oP n qm → h' qm = iA 8 (joinF ra rb n) → P none N h') : AM X1_join [.ref 20, .ref pm, .ref pa, .ref pb] N h P := by
  obtain ⟨f, w2⟩ := w.2.1
  have w1 : h 20 = latO := w.1
  refine AM.of0 rfl (Nat.le_of_ble_eq_true rfl) rfl [some (.ref 20), some (.ref pm), some (.ref pa), some (.ref pb)] rfl ?_
  refine AW.aload_n 1 dX1_join_0 rfl (by rfl) ?_
  refine AW.aload_n 2 dX1_join_1 rfl (by rfl) ?_
  refine AW.getfield 5 dX1_join_2 rfl fl_X1_29 (by assumption) (by rfl) ?_
  refine AW.aload_n 6 dX1_join_5 rfl (by rfl) ?_
  refine AW.cV2 9 dX1_join_6 rfl mi_X1_complement mv_X1_complement lk_X1_67 ⟨(Nat.le_of_ble_eq_true rfl), (Nat.le_of_ble_eq_true rfl)⟩ rfl (by assumption) rfl (Nat.le_of_ble_eq_true rfl) (c_complement w1 w2 ha hqa w.2.2.2.2.2.2.1 (by omega) hn hra (fun f1 => ?_))
  generalize hH1 : hs (hs (hs h 21 (stO f1)) 34 (oP n 35)) 35 (iA 8 (compF ra n)) = H1
  have W1 : LW H1 := by rw [← hH1]; exact w.s21.part (p := 34) (Or.inl rfl) (comp_ok hn).2
  have e1 : ∀ a, a ≠ 21 → a ≠ 34 → a ≠ 35 → H1 a = h a := fun a z1 z2 z3 => by rw [← hH1, hs_ne z3, hs_ne z2, hs_ne z1]
  have e1a : H1 34 = oP n 35 := by rw [← hH1, hs_ne (by decide), hs_eq]
  have e1b : H1 35 = iA 8 (compF ra n) := by rw [← hH1, hs_eq]
  have W1_20 : H1 20 = latO := W1.1
  obtain ⟨g1, W1_21⟩ := W1.2.1
  refine AW.aload_n 10 dX1_join_9 rfl (by rfl) ?_
  refine AW.aload_n 11 dX1_join_10 rfl (by rfl) ?_
  refine AW.getfield 14 dX1_join_11 rfl fl_X1_33 (by assumption) (by rfl) ?_
  refine AW.aload_n 15 dX1_join_14 rfl (by rfl) ?_
  refine AW.cV2 18 dX1_join_15 rfl mi_X1_complement mv_X1_complement lk_X1_67 ⟨(Nat.le_of_ble_eq_true rfl), (Nat.le_of_ble_eq_true rfl)⟩ rfl (by assumption) rfl (Nat.le_of_ble_eq_true rfl) (c_complement W1_20 W1_21 ((e1 pb (by omega) (by omega) (by omega)).trans hb) ((e1 qb (by omega) (by omega) (by omega)).trans hqb) W1.2.2.2.2.2.2.2.1 (by omega) hn hrb (fun f2 => ?_))
  generalize hH2 : hs (hs (hs H1 21 (stO f2)) 36 (oP n 37)) 37 (iA 8 (compF rb n)) = H2
  have W2 : LW H2 := by rw [← hH2]; exact W1.s21.part (p := 36) (by omega) (comp_ok hn).2
  have e2 : ∀ a, a ≠ 21 → a ≠ 36 → a ≠ 37 → H2 a = H1 a := fun a z1 z2 z3 => by rw [← hH2, hs_ne z3, hs_ne z2, hs_ne z1]
  have e2a : H2 36 = oP n 37 := by rw [← hH2, hs_ne (by decide), hs_eq]
  have e2b : H2 37 = iA 8 (compF rb n) := by rw [← hH2, hs_eq]
  have W2_20 : H2 20 = latO := W2.1
  refine AW.aload_n 19 dX1_join_18 rfl (by rfl) ?_
  refine AW.aload_n 20 dX1_join_19 rfl (by rfl) ?_
  refine AW.getfield 23 dX1_join_20 rfl fl_X1_36 (by assumption) (by rfl) ?_
  refine AW.aload_n 24 dX1_join_23 rfl (by rfl) ?_
  refine AW.getfield 27 dX1_join_24 rfl fl_X1_29 (by assumption) (by rfl) ?_
  refine AW.aload_n 28 dX1_join_27 rfl (by rfl) ?_
  refine AW.getfield 31 dX1_join_28 rfl fl_X1_33 (by assumption) (by rfl) ?_
  refine AW.cV3 34 dX1_join_31 rfl mi_X1_meet mv_X1_meet lk_X1_71 ⟨(Nat.le_of_ble_eq_true rfl), (Nat.le_of_ble_eq_true rfl)⟩ rfl (by assumption) rfl (Nat.le_of_ble_eq_true rfl) (c_meet ((e2 34 (by decide) (by decide) (by decide)).trans e1a) ((e2 35 (by decide) (by decide) (by decide)).trans e1b) e2a e2b W2.2.2.2.2.2.2.2.2.1 (by omega) hn (comp_ok hn).1 (comp_ok hn).1 ?_)
  generalize hH3 : hs (hs H2 38 (oP n 39)) 39 (iA 8 (meetF (compF ra n) (compF rb n) n)) = H3
  have W3 : LW H3 := by rw [← hH3]; exact W2.part (p := 38) (by omega) (meet_ok hn).2
  have e3 : ∀ a, a ≠ 38 → a ≠ 39 → H3 a = H2 a := fun a z1 z2 => by rw [← hH3, hs_ne z2, hs_ne z1]
  have e3a : H3 38 = oP n 39 := by rw [← hH3, hs_ne (by decide), hs_eq]
  have e3b : H3 39 = iA 8 (meetF (compF ra n) (compF rb n) n) := by rw [← hH3, hs_eq]
  have W3_20 : H3 20 = latO := W3.1
  obtain ⟨g3, W3_21⟩ := W3.2.1
  have hm3 : PartAt H3 pm qm := by
    obtain ⟨m0, fm, z1, z2, z3⟩ := hm
    exact ⟨m0, fm, by rw [e3 pm (by omega) (by omega), e2 pm (by omega) (by omega) (by omega), e1 pm (by omega) (by omega) (by omega), z1], by rw [e3 qm (by omega) (by omega), e2 qm (by omega) (by omega) (by omega), e1 qm (by omega) (by omega) (by omega), z2], z3⟩
  refine AW.aload_n 35 dX1_join_34 rfl (by rfl) ?_
  refine AW.aload_n 36 dX1_join_35 rfl (by rfl) ?_
  refine AW.aload_n 37 dX1_join_36 rfl (by rfl) ?_
  refine AW.getfield 40 dX1_join_37 rfl fl_X1_36 (by assumption) (by rfl) ?_
  refine AW.cV2 43 dX1_join_40 rfl mi_X1_uncomplement mv_X1_uncomplement lk_X1_75 ⟨(Nat.le_of_ble_eq_true rfl), (Nat.le_of_ble_eq_true rfl)⟩ rfl (by assumption) rfl (Nat.le_of_ble_eq_true rfl) (c_uncomplement W3_20 W3_21 e3a e3b hm3 (by omega) hn (fun x hx => (meet_ok hn).1 x (by omega)) (fun f4 => ?_))
  refine AW.vret dX1_join_43 rfl ?_
  refine hP _ ?_ (fun a ha z1 z2 => ?_) (by rw [hs_ne (by omega), hs_eq]) (by rw [hs_eq]; rfl)
  · rcases hpm with ⟨rfl, rfl⟩ | ⟨z1, z2, z3⟩
    · exact W3.s21.part (p := 42) (by omega) (un_ok hn).2
    · exact (W3.s21.out (Or.inr z1)).out (Or.inr z2)
  · rw [hs_ne z2, hs_ne z1, hs_ne (by omega), e3 a (by omega) (by omega), e2 a (by omega) (by omega) (by omega), e1 a (by omega) (by omega) (by omega)]
def pairF (x y : Nat) : Nat → Nat := if x < y then upN idn y x else upN idn x y
theorem c_pairOf {x y : Nat} (w : LW h) (hx : x < 8) (hy : y < 8) (hP : P (some (.ref 40)) N (hs (hs h 40 (oP n 41)) 41 (iA 8 (pairF x y)))) : AM X1_pairOf [.ref 20, .int (nI n), .int (nI x), .int (nI y)] N h P := by
  have w1 : h 20 = latO := w.1
  obtain ⟨m0, fm, z1, z2, z3⟩ := id w.2.2.2.2.2.2.2.2.2.1
  refine AM.of0 rfl (Nat.le_of_ble_eq_true rfl) rfl [some (.ref 20), some (.int (nI n)), some (.int (nI x)), some (.int (nI y))] rfl ?_
  refine AW.aload_n 1 dX1_pairOf_0 rfl (by rfl) ?_
  refine AW.getfield 4 dX1_pairOf_1 rfl fl_X1_39 (by assumption) (by rfl) ?_
  refine AW.iload_n 5 dX1_pairOf_4 rfl (by rfl) ?_
  refine AW.cV1 8 dX1_pairOf_5 rfl mi_X3_split mv_X3_split lk_X1_59 ⟨(Nat.le_of_ble_eq_true rfl), (Nat.le_of_ble_eq_true rfl)⟩ rfl (by assumption) rfl (Nat.le_of_ble_eq_true rfl) (c_split1 w.2.2.2.2.2.2.2.2.2.1 (by decide) ?_)
  have x20 : ∀ r, (hs (hs h 40 (oP n 41)) 41 (iA 8 r)) 20 = latO := fun r => by rw [hs_ne (by decide), hs_ne (by decide), w1]
  have x40 : ∀ r, (hs (hs h 40 (oP n 41)) 41 (iA 8 r)) 40 = oP n 41 := fun r => by rw [hs_ne (by decide), hs_eq]
  have x41 : ∀ r, (hs (hs h 40 (oP n 41)) 41 (iA 8 r)) 41 = iA 8 r := fun r => by rw [hs_eq]
  have y20 := x20 idn
  have y40 := x40 idn
  have y41 := x41 idn
  refine AW.iload_n 9 dX1_pairOf_8 rfl (by rfl) ?_
  refine AW.iload_n 10 dX1_pairOf_9 rfl (by rfl) ?_
  refine AW.nge 26 13 dX1_pairOf_10 (by decide) rfl (by omega) (by omega) (fun c => ?_) (fun c => ?_)
  · refine AW.aload_n 27 dX1_pairOf_26 rfl (by rfl) ?_
    refine AW.getfield 30 dX1_pairOf_27 rfl fl_X1_39 (by assumption) (by rfl) ?_
    refine AW.getfield 33 dX1_pairOf_30 rfl fl_X1_56 (by assumption) (by rfl) ?_
    refine AW.iload_n 34 dX1_pairOf_33 rfl (by rfl) ?_
    refine AW.iload_n 35 dX1_pairOf_34 rfl (by rfl) ?_
    refine AW.iastore 36 _ dX1_pairOf_35 rfl (by assumption) (ix_nI (by omega)) (by omega) ?_
    rw [hs_hs, upd_nI]
    rw [pairF, if_neg (by omega)] at hP
    have y20 := x20 (upN idn x y)
    refine AW.aload_n 37 dX1_pairOf_36 rfl (by rfl) ?_
    refine AW.getfield 40 dX1_pairOf_37 rfl fl_X1_39 (by assumption) (by rfl) ?_
    refine AW.aret dX1_pairOf_40 rfl ?_
    exact hP
  · refine AW.aload_n 14 dX1_pairOf_13 rfl (by rfl) ?_
    refine AW.getfield 17 dX1_pairOf_14 rfl fl_X1_39 (by assumption) (by rfl) ?_
    refine AW.getfield 20 dX1_pairOf_17 rfl fl_X1_56 (by assumption) (by rfl) ?_
    refine AW.iload_n 21 dX1_pairOf_20 rfl (by rfl) ?_
    refine AW.iload_n 22 dX1_pairOf_21 rfl (by rfl) ?_
    refine AW.iastore 23 _ dX1_pairOf_22 rfl (by assumption) (ix_nI (by omega)) (by omega) ?_
    refine AW.goto 36 dX1_pairOf_23 (by decide) ?_
    rw [hs_hs, upd_nI]
    rw [pairF, if_pos c] at hP
    have y20 := x20 (upN idn y x)
    refine AW.aload_n 37 dX1_pairOf_36 rfl (by rfl) ?_
    refine AW.getfield 40 dX1_pairOf_37 rfl fl_X1_39 (by assumption) (by rfl) ?_
    refine AW.aret dX1_pairOf_40 rfl ?_
    exact hP
theorem pair_ok {x y : Nat} (hx : x < 8) (hy : y < 8) : (∀ i, i < 8 → pairF x y i < 8) ∧ ∀ i, 8 ≤ i → pairF x y i = 0 := by
  refine ⟨fun i hi => ?_, fun i hi => ?_⟩
  · unfold pairF upN idn; split <;> dsimp only <;> split <;> first | omega | (split <;> omega)
  · unfold pairF upN idn; split <;> dsimp only <;> rw [if_neg (by omega), if_neg (by omega)]
theorem c_coversOf {pa qa : Nat} (w : LW h) (ha : h pa = oP n qa) (hqa : h qa = iA 8 r) (oa : pa < 20 ∨ 40 ≤ pa) (oqa : qa < 20 ∨ 40 ≤ qa) (hn : n ≤ 8) (hr : ∀ x, x < n → r x < 8) (hP : ∀ h', LW h' → (∀ a, a < 20 ∨ 44 ≤ a → h' a = h a) → P (some (.int (nI (prsF (compF r n) n n)))) N h') : AM X1_coversOf [.ref 20, .ref pa] N h P := by
  obtain ⟨f, w2⟩ := w.2.1
  have w1 : h 20 = latO := w.1
  refine AM.of0 rfl (Nat.le_of_ble_eq_true rfl) rfl [some (.ref 20), some (.ref pa)] rfl ?_
  refine AW.aload_n 1 dX1_coversOf_0 rfl (by rfl) ?_
  refine AW.aload_n 2 dX1_coversOf_1 rfl (by rfl) ?_
  refine AW.getfield 5 dX1_coversOf_2 rfl fl_X1_29 (by assumption) (by rfl) ?_
  refine AW.aload_n 6 dX1_coversOf_5 rfl (by rfl) ?_
  refine AW.cV2 9 dX1_coversOf_6 rfl mi_X1_complement mv_X1_complement lk_X1_67 ⟨(Nat.le_of_ble_eq_true rfl), (Nat.le_of_ble_eq_true rfl)⟩ rfl (by assumption) rfl (Nat.le_of_ble_eq_true rfl) (c_complement w1 w2 ha hqa w.2.2.2.2.2.2.1 (by omega) hn hr (fun f1 => ?_))
  generalize hH1 : hs (hs (hs h 21 (stO f1)) 34 (oP n 35)) 35 (iA 8 (compF r n)) = H1
  have W1 : LW H1 := by rw [← hH1]; exact w.s21.part (p := 34) (Or.inl rfl) (comp_ok hn).2
  have e1a : H1 34 = oP n 35 := by rw [← hH1, hs_ne (by decide), hs_eq]
  have e1b : H1 35 = iA 8 (compF r n) := by rw [← hH1, hs_eq]
  have W1_20 : H1 20 = latO := W1.1
  refine AW.aload_n 10 dX1_coversOf_9 rfl (by rfl) ?_
  refine AW.getfield 13 dX1_coversOf_10 rfl fl_X1_29 (by assumption) (by rfl) ?_
  refine AW.cV0 16 dX1_coversOf_13 rfl mi_X3_pairs mv_X3_pairs lk_X1_93 ⟨(Nat.le_of_ble_eq_true rfl), (Nat.le_of_ble_eq_true rfl)⟩ rfl (by assumption) rfl (Nat.le_of_ble_eq_true rfl) (c_pairs e1a e1b hn (fun x hx => (comp_ok hn).1 x (by omega)) ?_)
  refine AW.iret dX1_coversOf_16 rfl ?_
  exact hP H1 W1 (fun a ha => by rw [← hH1, hs_ne (by omega), hs_ne (by omega), hs_ne (by omega)])
theorem c_unites {pa qa x y : Nat} (w : LW h) (ha : h pa = oP n qa) (hqa : h qa = iA 8 r) (oa : pa < 20) (oqa : qa < 20) (hn : n ≤ 8) (hx : x < 8) (hy : y < 8) (hr : ∀ x, x < n → r x < 8) (hP : ∀ h', LW h' → (∀ a, a < 20 ∨ 44 ≤ a → h' a = h a) → h' 42 = oP n 43 → h' 43 = iA 8 (joinF r (pairF x y) n) → P (some (.int (nI (b01 (rankF (joinF r (pairF x y) n) n == rankF r n + 1))))) N h') : AM X1_unites [.ref 20, .ref pa, .int (nI x), .int (nI y)] N h P := by
  have w1 : h 20 = latO := w.1
  refine AM.of0 rfl (Nat.le_of_ble_eq_true rfl) rfl [some (.ref 20), some (.ref pa), some (.int (nI x)), some (.int (nI y))] rfl ?_
  refine AW.aload_n 1 dX1_unites_0 rfl (by rfl) ?_
  refine AW.aload_n 2 dX1_unites_1 rfl (by rfl) ?_
  refine AW.getfield 5 dX1_unites_2 rfl fl_X1_42 (by assumption) (by rfl) ?_
  refine AW.aload_n 6 dX1_unites_5 rfl (by rfl) ?_
  refine AW.aload_n 7 dX1_unites_6 rfl (by rfl) ?_
  refine AW.aload_n 8 dX1_unites_7 rfl (by rfl) ?_
  refine AW.getfield 11 dX1_unites_8 rfl fl_X1_48 (by assumption) (by rfl) ?_
  refine AW.iload_n 12 dX1_unites_11 rfl (by rfl) ?_
  refine AW.iload_n 13 dX1_unites_12 rfl (by rfl) ?_
  refine AW.cV3 16 dX1_unites_13 rfl mi_X1_pairOf mv_X1_pairOf lk_X1_105 ⟨(Nat.le_of_ble_eq_true rfl), (Nat.le_of_ble_eq_true rfl)⟩ rfl (by assumption) rfl (Nat.le_of_ble_eq_true rfl) (c_pairOf w hx hy ?_)
  generalize hH1 : hs (hs h 40 (oP n 41)) 41 (iA 8 (pairF x y)) = H1
  have W1 : LW H1 := by rw [← hH1]; exact w.part (p := 40) (by omega) (pair_ok hx hy).2
  have e1 : ∀ a, a ≠ 40 → a ≠ 41 → H1 a = h a := fun a z1 z2 => by rw [← hH1, hs_ne z2, hs_ne z1]
  have e1a : H1 40 = oP n 41 := by rw [← hH1, hs_ne (by decide), hs_eq]
  have e1b : H1 41 = iA 8 (pairF x y) := by rw [← hH1, hs_eq]
  have W1_20 : H1 20 = latO := W1.1
  refine AW.cV3 19 dX1_unites_16 rfl mi_X1_join mv_X1_join lk_X1_109 ⟨(Nat.le_of_ble_eq_true rfl), (Nat.le_of_ble_eq_true rfl)⟩ rfl (by assumption) rfl (Nat.le_of_ble_eq_true rfl) (c_join W1 ((e1 pa (by omega) (by omega)).trans ha) ((e1 qa (by omega) (by omega)).trans hqa) e1a e1b W1.2.2.2.2.2.2.2.2.2.2 (Or.inl ⟨rfl, rfl⟩) (by omega) (by omega) (by omega) (by omega) hn hr (fun z hz => (pair_ok hx hy).1 z (by omega)) (fun h' W' e' q1 q2 => ?_))
  have W'_20 : h' 20 = latO := W'.1
  have ea : h' pa = oP n qa := by rw [e' pa (by omega) (by omega) (by omega), e1 pa (by omega) (by omega), ha]
  have eqa : h' qa = iA 8 r := by rw [e' qa (by omega) (by omega) (by omega), e1 qa (by omega) (by omega), hqa]
  have hj := (un_ok (r := meetF (compF r n) (compF (pairF x y) n) n) hn).1
  refine AW.aload_n 20 dX1_unites_19 rfl (by rfl) ?_
  refine AW.getfield 23 dX1_unites_20 rfl fl_X1_42 (by assumption) (by rfl) ?_
  refine AW.cV0 26 dX1_unites_23 rfl mi_X3_rank mv_X3_rank lk_X1_112 ⟨(Nat.le_of_ble_eq_true rfl), (Nat.le_of_ble_eq_true rfl)⟩ rfl (by assumption) rfl (Nat.le_of_ble_eq_true rfl) (c_rank q1 q2 hn (fun z hz => hj z (by omega)) ?_)
  refine AW.aload_n 27 dX1_unites_26 rfl (by rfl) ?_
  refine AW.cV0 30 dX1_unites_27 rfl mi_X3_rank mv_X3_rank lk_X1_112 ⟨(Nat.le_of_ble_eq_true rfl), (Nat.le_of_ble_eq_true rfl)⟩ rfl (by assumption) rfl (Nat.le_of_ble_eq_true rfl) (c_rank ea eqa hn hr ?_)
  have rk : ∀ (r : Nat → Nat) k, rankF r k ≤ k := by
    intro r k
    induction k with
    | zero => exact Nat.le_refl _
    | succ k ih =>
      show rankF r k + (if r k == k then 0 else 1) ≤ k + 1
      split <;> omega
  have k1 := rk r n
  have k2 := rk (joinF r (pairF x y) n) n
  have hP := hP h' W' (fun a ha => by rw [e' a ha (by omega) (by omega), e1 a (by omega) (by omega)]) q1 q2
  refine AW.iconst 31 dX1_unites_30 rfl (nI 1) rfl ?_
  first | refine AW.iaddN 32 dX1_unites_31 rfl ?_ | refine AW.iadd 32 dX1_unites_31 rfl ?_
  refine AW.nne 39 35 dX1_unites_32 (by decide) rfl (by omega) (by omega) (fun c => ?_) (fun c => ?_)
  · rw [b01_f (by simpa using c)] at hP
    refine AW.iconst 40 dX1_unites_39 rfl (nI 0) rfl ?_
    refine AW.zret dX1_unites_40 rfl (by first | exact z_0 | exact z_1 | exact z_b01 _ | assumption) ?_
    exact hP
  · rw [b01_t (by simpa using c)] at hP
    refine AW.iconst 36 dX1_unites_35 rfl (nI 1) rfl ?_
    refine AW.goto 40 dX1_unites_36 (by decide) ?_
    refine AW.zret dX1_unites_40 rfl (by first | exact z_0 | exact z_1 | exact z_b01 _ | assumption) ?_
    exact hP
def plS (r : Nat → Nat) (n : Nat) : Nat → Nat × Nat × (Nat → Nat)
  | 0 => (0, 0, fun _ => 0)
  | x + 1 => ((plS r n x).1 + cnt (fun c => wy (n - 1 - x) (c + 1)) ((if r x = x then (plS r n x).2.1 + 1 else (plS r n x).2.2 (r x)) - 1), (if r x = x then (plS r n x).2.1 + 1 else (plS r n x).2.2 (r x)), upN (plS r n x).2.2 x (if r x = x then (plS r n x).2.1 + 1 else (plS r n x).2.2 (r x)))
def plcF (r : Nat → Nat) (n : Nat) : Nat := (plS r n n).1
theorem plS_le {r : Nat → Nat} {n : Nat} (hn : n ≤ 8) (hr : ∀ x, x < n → r x ≤ x) : ∀ x, x ≤ n → (plS r n x).2.1 ≤ x ∧ ∀ i, i < x → (plS r n x).2.2 i ≤ x := by
  intro x
  induction x with
  | zero => intro _; exact ⟨Nat.le_refl _, fun i hi => by omega⟩
  | succ x ih =>
    intro hx
    obtain ⟨h1, h2⟩ := ih (by omega)
    have hc : (if r x = x then (plS r n x).2.1 + 1 else (plS r n x).2.2 (r x)) ≤ x + 1 := by
      split
      · omega
      · have := h2 (r x) (by have := hr x (by omega); omega); omega
    refine ⟨hc, fun i hi => ?_⟩
    show upN _ _ _ i ≤ _
    unfold upN
    by_cases e : i = x
    · rw [if_pos e]; exact hc
    · rw [if_neg e]; have := h2 i (by omega); omega
theorem c_placeOf {pa qa : Nat} (w : LW h) (ha : h pa = oP n qa) (hqa : h qa = iA 8 r) (oa : pa ≠ 22) (oqa : qa ≠ 22) (hn : n ≤ 8) (hr : ∀ x, x < n → r x ≤ x) (hP : ∀ f, P (some (.int (nI (plcF r n)))) N (hs h 22 (stO f))) : AM X1_placeOf [.ref 20, .ref pa] N h P := by
  obtain ⟨f0, w22⟩ := w.2.2.1
  refine AM.of0 rfl (Nat.le_of_ble_eq_true rfl) rfl [some (.ref 20), some (.ref pa), none, none, none, none, none] rfl ?_
  refine AW.iconst 1 dX1_placeOf_0 rfl (nI 0) rfl ?_
  refine AW.istore_n 2 dX1_placeOf_1 rfl (Nat.le_of_ble_eq_true rfl) rfl ?_
  refine AW.iconst 3 dX1_placeOf_2 rfl (nI 0) rfl ?_
  refine AW.istore_n 4 dX1_placeOf_3 rfl (Nat.le_of_ble_eq_true rfl) rfl ?_
  refine AW.iconst 5 dX1_placeOf_4 rfl (nI 0) rfl ?_
  refine AW.istore 7 dX1_placeOf_5 rfl (Nat.le_of_ble_eq_true rfl) rfl ?_
  have L : ∀ k x, x + k = n → ∀ f o1 o2, (∀ i, i < x → f i = nI ((plS r n x).2.2 i)) → AW X1_placeOf 7 [some (.ref 20), some (.ref pa), some (.int (nI (plS r n x).1)), some (.int (nI (plS r n x).2.1)), some (.int (nI x)), o1, o2] [] N (0, 0) (hs h 22 (stO f)) P := by
    intro k
    induction k with
    | zero =>
      intro x hx f o1 o2 hf
      have xa : hs h 22 (stO f) pa = oP n qa := by rw [hs_ne oa, ha]
      refine AW.iload 9 dX1_placeOf_7 rfl (by rfl) ?_
      refine AW.aload_n 10 dX1_placeOf_9 rfl (by rfl) ?_
      refine AW.getfield 13 dX1_placeOf_10 rfl fl_X1_48 (by assumption) (by rfl) ?_
      refine AW.nge 99 16 dX1_placeOf_13 (by decide) rfl (by omega) (by omega) (fun c => ?_) (fun c => ?_)
      · refine AW.iload_n 100 dX1_placeOf_99 rfl (by rfl) ?_
        refine AW.iret dX1_placeOf_100 rfl ?_
        have hP := hP f
        rw [plcF, show (plS r n n).1 = (plS r n x).1 by rw [show n = x by omega]] at hP
        exact hP
      · omega
    | succ k ih =>
      intro x hx f o1 o2 hf
      have xa : hs h 22 (stO f) pa = oP n qa := by rw [hs_ne oa, ha]
      have xqa : hs h 22 (stO f) qa = iA 8 r := by rw [hs_ne oqa, hqa]
      have x20 : hs h 22 (stO f) 20 = latO := by rw [hs_ne (by decide), w.1]
      have x22 : hs h 22 (stO f) 22 = stO f := hs_eq _ _ _
      have x24 : hs h 22 (stO f) 24 = refs 9 24 := by rw [hs_ne (by decide), w.2.2.2.2.1]
      have hrx := hr x (by omega)
      obtain ⟨b1, b2⟩ := plS_le hn hr x (by omega)
      obtain ⟨b3, -⟩ := plS_le hn hr (x + 1) (by omega)
      refine AW.iload 9 dX1_placeOf_7 rfl (by rfl) ?_
      refine AW.aload_n 10 dX1_placeOf_9 rfl (by rfl) ?_
      refine AW.getfield 13 dX1_placeOf_10 rfl fl_X1_48 (by assumption) (by rfl) ?_
      refine AW.nge 99 16 dX1_placeOf_13 (by decide) rfl (by omega) (by omega) (fun c => ?_) (fun c => ?_)
      · omega
      · refine AW.aload_n 17 dX1_placeOf_16 rfl (by rfl) ?_
        refine AW.iload 19 dX1_placeOf_17 rfl (by rfl) ?_
        refine AW.cV1 22 dX1_placeOf_19 rfl mi_X3_isLowest mv_X3_isLowest lk_X1_52 ⟨(Nat.le_of_ble_eq_true rfl), (Nat.le_of_ble_eq_true rfl)⟩ rfl (by assumption) rfl (Nat.le_of_ble_eq_true rfl) (c_isLowest xa xqa (by omega) (by omega) ?_)
        have J : ∀ ch, ch = (if r x = x then (plS r n x).2.1 + 1 else (plS r n x).2.2 (r x)) → AW X1_placeOf 43 [some (.ref 20), some (.ref pa), some (.int (nI (plS r n x).1)), some (.int (nI (plS r n x).2.1)), some (.int (nI x)), o1, o2] [.int (nI ch)] N (0, 0) (hs h 22 (stO f)) P := by
          intro ch hch
          have hc8 : ch ≤ x + 1 := by rw [hch]; exact b3
          refine AW.istore 45 dX1_placeOf_43 rfl (Nat.le_of_ble_eq_true rfl) rfl ?_
          refine AW.iconst 46 dX1_placeOf_45 rfl (nI 1) rfl ?_
          refine AW.istore 48 dX1_placeOf_46 rfl (Nat.le_of_ble_eq_true rfl) rfl ?_
          have I : ∀ m j, j + m = ch - 1 → AW X1_placeOf 48 [some (.ref 20), some (.ref pa), some (.int (nI ((plS r n x).1 + cnt (fun c => wy (n - 1 - x) (c + 1)) j))), some (.int (nI (plS r n x).2.1)), some (.int (nI x)), some (.int (nI ch)), some (.int (nI (j + 1)))] [] N (0, 0) (hs h 22 (stO f)) P := by
            intro m
            induction m with
            | zero =>
              intro j hj
              refine AW.iload 50 dX1_placeOf_48 rfl (by rfl) ?_
              refine AW.iload 52 dX1_placeOf_50 rfl (by rfl) ?_
              refine AW.nge 81 55 dX1_placeOf_52 (by decide) rfl (by omega) (by omega) (fun c2 => ?_) (fun c2 => ?_)
              · refine AW.aload_n 82 dX1_placeOf_81 rfl (by rfl) ?_
                refine AW.getfield 85 dX1_placeOf_82 rfl fl_X1_15 (by assumption) (by rfl) ?_
                refine AW.iload 87 dX1_placeOf_85 rfl (by rfl) ?_
                refine AW.iload 89 dX1_placeOf_87 rfl (by rfl) ?_
                refine AW.iastore 90 _ dX1_placeOf_89 rfl (by assumption) (ix_nI (by omega)) (by omega) ?_
                refine AW.heap _ (hs_hs _ _ _ _) ?_
                refine AW.iload 92 dX1_placeOf_90 rfl (by rfl) ?_
                refine AW.istore_n 93 dX1_placeOf_92 rfl (Nat.le_of_ble_eq_true rfl) rfl ?_
                refine AW.iinc1 96 dX1_placeOf_93 rfl (by rfl) rfl ?_
                refine AW.goto 7 dX1_placeOf_96 (by decide) ?_
                have e1 : (plS r n (x + 1)).1 = (plS r n x).1 + cnt (fun c => wy (n - 1 - x) (c + 1)) j := by
                  rw [show j = ch - 1 by omega, hch]; rfl
                have e2 : (plS r n (x + 1)).2.1 = ch := by rw [hch]; rfl
                have e3 : (plS r n (x + 1)).2.2 = upN (plS r n x).2.2 x ch := by rw [hch]; rfl
                have := ih (x + 1) (by omega) (upd f x (nI ch)) (some (.int (nI ch))) (some (.int (nI (j + 1)))) (fun i hi => by
                  rw [e3]
                  unfold upd upN
                  by_cases e : i = x
                  · rw [if_pos e, if_pos e]
                  · rw [if_neg e, if_neg e]; exact hf i (by omega))
                rw [e1, e2] at this
                exact this
              · omega
            | succ m ihm =>
              intro j hj
              have xw : hs h 22 (stO f) (24 + 1 + (n - 1 - x)) = iA 9 (wy (n - 1 - x)) := by rw [hs_ne (by omega), w.2.2.2.2.2.1 _ (by omega)]
              refine AW.iload 50 dX1_placeOf_48 rfl (by rfl) ?_
              refine AW.iload 52 dX1_placeOf_50 rfl (by rfl) ?_
              refine AW.nge 81 55 dX1_placeOf_52 (by decide) rfl (by omega) (by omega) (fun c2 => ?_) (fun c2 => ?_)
              · omega
              · refine AW.iload_n 56 dX1_placeOf_55 rfl (by rfl) ?_
                refine AW.aload_n 57 dX1_placeOf_56 rfl (by rfl) ?_
                refine AW.getfield 60 dX1_placeOf_57 rfl fl_X1_23 (by assumption) (by rfl) ?_
                refine AW.aload_n 61 dX1_placeOf_60 rfl (by rfl) ?_
                refine AW.getfield 64 dX1_placeOf_61 rfl fl_X1_48 (by assumption) (by rfl) ?_
                refine AW.iconst 65 dX1_placeOf_64 rfl (nI 1) rfl ?_
                first | refine AW.isubN 66 dX1_placeOf_65 rfl (by omega) ?_ | refine AW.isub 66 dX1_placeOf_65 rfl ?_
                refine AW.iload 68 dX1_placeOf_66 rfl (by rfl) ?_
                first | refine AW.isubN 69 dX1_placeOf_68 rfl (by omega) ?_ | refine AW.isub 69 dX1_placeOf_68 rfl ?_
                refine AW.aaload 70 _ dX1_placeOf_69 rfl (by assumption) (fun _ => rfl) rfl (ix_nI (by omega)) (by omega) (if_pos (show n - 1 - x < 9 by omega)) ?_
                refine AW.iload 72 dX1_placeOf_70 rfl (by rfl) ?_
                refine AW.iaload 73 _ dX1_placeOf_72 rfl (by assumption) (by first | exact Or.inl rfl | exact Or.inr rfl) (ix_nI (by omega)) (by omega) ?_
                first | refine AW.iaddN 74 dX1_placeOf_73 rfl ?_ | refine AW.iadd 74 dX1_placeOf_73 rfl ?_
                refine AW.istore_n 75 dX1_placeOf_74 rfl (Nat.le_of_ble_eq_true rfl) rfl ?_
                refine AW.iinc1 78 dX1_placeOf_75 rfl (by rfl) rfl ?_
                refine AW.goto 48 dX1_placeOf_78 (by decide) ?_
                have := ihm (j + 1) (by omega)
                rw [show (plS r n x).1 + cnt (fun c => wy (n - 1 - x) (c + 1)) (j + 1) = (plS r n x).1 + cnt (fun c => wy (n - 1 - x) (c + 1)) j + wy (n - 1 - x) (j + 1) from (Nat.add_assoc _ _ _).symm] at this
                exact this
          exact I (ch - 1) 0 (by omega)
        refine AW.zeq 31 25 dX1_placeOf_22 (by decide) rfl (fun c2 => ?_) (fun c2 => ?_)
        · have hne : r x ≠ x := by simpa using c2
          refine AW.aload_n 32 dX1_placeOf_31 rfl (by rfl) ?_
          refine AW.getfield 35 dX1_placeOf_32 rfl fl_X1_15 (by assumption) (by rfl) ?_
          refine AW.aload_n 36 dX1_placeOf_35 rfl (by rfl) ?_
          refine AW.getfield 39 dX1_placeOf_36 rfl fl_X1_56 (by assumption) (by rfl) ?_
          refine AW.iload 41 dX1_placeOf_39 rfl (by rfl) ?_
          refine AW.iaload 42 _ dX1_placeOf_41 rfl (by assumption) (by first | exact Or.inl rfl | exact Or.inr rfl) (ix_nI (by omega)) (by omega) ?_
          refine AW.iaload 43 _ dX1_placeOf_42 rfl (by assumption) (by first | exact Or.inl rfl | exact Or.inr rfl) (ix_nI (by omega)) (by omega) ?_
          rw [hf (r x) (by omega)]
          exact J _ (by rw [if_neg hne])
        · have heq : r x = x := by simpa using c2
          refine AW.iload_n 26 dX1_placeOf_25 rfl (by rfl) ?_
          refine AW.iconst 27 dX1_placeOf_26 rfl (nI 1) rfl ?_
          first | refine AW.iaddN 28 dX1_placeOf_27 rfl ?_ | refine AW.iadd 28 dX1_placeOf_27 rfl ?_
          refine AW.goto 43 dX1_placeOf_28 (by decide) ?_
          exact J _ (by rw [if_pos heq])
  have := L n 0 (by omega) f0 none none (fun i hi => by omega)
  rw [hs_self w22] at this
  exact this
def goodC (r : Nat → Nat) (n x y : Nat) : Bool := (r x == x && r y == y) && rankF (joinF r (pairF x y) n) n == rankF r n + 1
def cvX (r : Nat → Nat) (n i y : Nat) : Nat → Nat → Nat → Nat ⊕ Nat
  | 0, _, seen => .inr seen
  | k + 1, x, seen => if goodC r n x y then (if seen = i then .inl (plcF (joinF r (pairF x y) n) n) else cvX r n i y k (x + 1) (seen + 1)) else cvX r n i y k (x + 1) seen
def cvY (r : Nat → Nat) (n i : Nat) : Nat → Nat → Nat → Option Nat
  | 0, _, _ => none
  | k + 1, y, seen => match cvX r n i y y 0 seen with
    | .inl v => some v
    | .inr s => cvY r n i k (y + 1) s
def cvR (o : Option Nat) : Int32 := match o with
  | some v => nI v
  | none => -1
theorem c_coverOf {pa qa i : Nat} (w : LW h) (ha : h pa = oP n qa) (hqa : h qa = iA 8 r) (oa : pa < 20) (oqa : qa < 20) (hn : n ≤ 8) (hn1 : 1 ≤ n) (hi : i < 2147483648) (hr : ∀ x, x < 8 → r x < 8) (hj : ∀ x y, x < n → y < n → ∀ z, z < n → joinF r (pairF x y) n z ≤ z) (hP : ∀ h', LW h' → (∀ a, a < 20 ∨ 44 ≤ a → h' a = h a) → P (some (.int (cvR (cvY r n i (n - 1) 1 0)))) N h') : AM X1_coverOf [.ref 20, .ref pa, .int (nI i)] N h P := by
  refine AM.of0 rfl (Nat.le_of_ble_eq_true rfl) rfl [some (.ref 20), some (.ref pa), some (.int (nI i)), none, none, none] rfl ?_
  refine AW.iconst 1 dX1_coverOf_0 rfl (nI 0) rfl ?_
  refine AW.istore_n 2 dX1_coverOf_1 rfl (Nat.le_of_ble_eq_true rfl) rfl ?_
  refine AW.iconst 3 dX1_coverOf_2 rfl (nI 1) rfl ?_
  refine AW.istore 5 dX1_coverOf_3 rfl (Nat.le_of_ble_eq_true rfl) rfl ?_
  have L : ∀ k y, y + k = n → ∀ h1, LW h1 → (∀ a, a < 20 ∨ 44 ≤ a → h1 a = h a) → ∀ seen, seen + 100 * k < 900 → ∀ o, (∀ h', LW h' → (∀ a, a < 20 ∨ 44 ≤ a → h' a = h a) → P (some (.int (cvR (cvY r n i k y seen)))) N h') → AW X1_coverOf 5 [some (.ref 20), some (.ref pa), some (.int (nI i)), some (.int (nI seen)), some (.int (nI y)), o] [] N (0, 0) h1 P := by
    intro k
    induction k with
    | zero =>
      intro y hy h1 w1 f1 seen hseen o hP
      have xa : h1 pa = oP n qa := by rw [f1 pa (by omega), ha]
      refine AW.iload 7 dX1_coverOf_5 rfl (by rfl) ?_
      refine AW.aload_n 8 dX1_coverOf_7 rfl (by rfl) ?_
      refine AW.getfield 11 dX1_coverOf_8 rfl fl_X1_48 (by assumption) (by rfl) ?_
      refine AW.nge 83 14 dX1_coverOf_11 (by decide) rfl (by omega) (by omega) (fun c => ?_) (fun c => ?_)
      · refine AW.iconst 84 dX1_coverOf_83 rfl (-1) rfl ?_
        refine AW.iret dX1_coverOf_84 rfl ?_
        exact hP h1 w1 f1
      · omega
    | succ k ih =>
      intro y hy h1 w1 f1 seen hseen o hP
      have xa : h1 pa = oP n qa := by rw [f1 pa (by omega), ha]
      refine AW.iload 7 dX1_coverOf_5 rfl (by rfl) ?_
      refine AW.aload_n 8 dX1_coverOf_7 rfl (by rfl) ?_
      refine AW.getfield 11 dX1_coverOf_8 rfl fl_X1_48 (by assumption) (by rfl) ?_
      refine AW.nge 83 14 dX1_coverOf_11 (by decide) rfl (by omega) (by omega) (fun c => ?_) (fun c => ?_)
      · omega
      · refine AW.iconst 15 dX1_coverOf_14 rfl (nI 0) rfl ?_
        refine AW.istore 17 dX1_coverOf_15 rfl (Nat.le_of_ble_eq_true rfl) rfl ?_
        have I : ∀ j x, x + j = y → ∀ h2, LW h2 → (∀ a, a < 20 ∨ 44 ≤ a → h2 a = h a) → ∀ sn, sn + 100 * k < 801 + x → (∀ h', LW h' → (∀ a, a < 20 ∨ 44 ≤ a → h' a = h a) → P (some (.int (cvR (match cvX r n i y j x sn with | .inl v => some v | .inr s => cvY r n i k (y + 1) s)))) N h') → AW X1_coverOf 17 [some (.ref 20), some (.ref pa), some (.int (nI i)), some (.int (nI sn)), some (.int (nI y)), some (.int (nI x))] [] N (0, 0) h2 P := by
          intro j
          induction j with
          | zero =>
            intro x hx h2 w2 f2 sn hsn hP
            refine AW.iload 19 dX1_coverOf_17 rfl (by rfl) ?_
            refine AW.iload 21 dX1_coverOf_19 rfl (by rfl) ?_
            refine AW.nge 77 24 dX1_coverOf_21 (by decide) rfl (by omega) (by omega) (fun c2 => ?_) (fun c2 => ?_)
            · refine AW.iinc1 80 dX1_coverOf_77 rfl (by rfl) rfl ?_
              refine AW.goto 5 dX1_coverOf_80 (by decide) ?_
              exact ih (y + 1) (by omega) h2 w2 f2 sn (by omega) _ hP
            · omega
          | succ j ihj =>
            intro x hx h2 w2 f2 sn hsn hP
            have x20 : h2 20 = latO := w2.1
            have ya : h2 pa = oP n qa := by rw [f2 pa (by omega), ha]
            have yqa : h2 qa = iA 8 r := by rw [f2 qa (by omega), hqa]
            refine AW.iload 19 dX1_coverOf_17 rfl (by rfl) ?_
            refine AW.iload 21 dX1_coverOf_19 rfl (by rfl) ?_
            refine AW.nge 77 24 dX1_coverOf_21 (by decide) rfl (by omega) (by omega) (fun c2 => ?_) (fun c2 => ?_)
            · omega
            · have skip : goodC r n x y = false → ∀ h3, LW h3 → (∀ a, a < 20 ∨ 44 ≤ a → h3 a = h a) → AW X1_coverOf 71 [some (.ref 20), some (.ref pa), some (.int (nI i)), some (.int (nI sn)), some (.int (nI y)), some (.int (nI x))] [] N (0, 0) h3 P := by
                intro hg h3 w3 f3
                refine AW.iinc1 74 dX1_coverOf_71 rfl (by rfl) rfl ?_
                refine AW.goto 17 dX1_coverOf_74 (by decide) ?_
                rw [cvX, hg] at hP
                exact ihj (x + 1) (by omega) h3 w3 f3 sn (by omega) hP
              refine AW.aload_n 25 dX1_coverOf_24 rfl (by rfl) ?_
              refine AW.iload 27 dX1_coverOf_25 rfl (by rfl) ?_
              refine AW.cV1 30 dX1_coverOf_27 rfl mi_X3_isLowest mv_X3_isLowest lk_X1_52 ⟨(Nat.le_of_ble_eq_true rfl), (Nat.le_of_ble_eq_true rfl)⟩ rfl (by assumption) rfl (Nat.le_of_ble_eq_true rfl) (c_isLowest ya yqa (by omega) (hr x (by omega)) ?_)
              refine AW.zeq 71 33 dX1_coverOf_30 (by decide) rfl (fun c3 => ?_) (fun c3 => ?_)
              · exact skip (by rw [goodC, c3]; rfl) h2 w2 f2
              · refine AW.aload_n 34 dX1_coverOf_33 rfl (by rfl) ?_
                refine AW.iload 36 dX1_coverOf_34 rfl (by rfl) ?_
                refine AW.cV1 39 dX1_coverOf_36 rfl mi_X3_isLowest mv_X3_isLowest lk_X1_52 ⟨(Nat.le_of_ble_eq_true rfl), (Nat.le_of_ble_eq_true rfl)⟩ rfl (by assumption) rfl (Nat.le_of_ble_eq_true rfl) (c_isLowest ya yqa (by omega) (hr y (by omega)) ?_)
                refine AW.zeq 71 42 dX1_coverOf_39 (by decide) rfl (fun c4 => ?_) (fun c4 => ?_)
                · exact skip (by rw [goodC, c3, c4]; rfl) h2 w2 f2
                · refine AW.aload_n 43 dX1_coverOf_42 rfl (by rfl) ?_
                  refine AW.aload_n 44 dX1_coverOf_43 rfl (by rfl) ?_
                  refine AW.iload 46 dX1_coverOf_44 rfl (by rfl) ?_
                  refine AW.iload 48 dX1_coverOf_46 rfl (by rfl) ?_
                  refine AW.cV3 51 dX1_coverOf_48 rfl mi_X1_unites mv_X1_unites lk_X1_97 ⟨(Nat.le_of_ble_eq_true rfl), (Nat.le_of_ble_eq_true rfl)⟩ rfl (by assumption) rfl (Nat.le_of_ble_eq_true rfl) (c_unites w2 ya yqa oa oqa hn (by omega) (by omega) (fun z hz => hr z (by omega)) (fun h3 w3 f3 q1 q2 => ?_))
                  have f3' : ∀ a, a < 20 ∨ 44 ≤ a → h3 a = h a := fun a ha => (f3 a ha).trans (f2 a ha)
                  refine AW.zeq 71 54 dX1_coverOf_51 (by decide) rfl (fun c5 => ?_) (fun c5 => ?_)
                  · exact skip (by rw [goodC, c3, c4, c5]; rfl) h3 w3 f3'
                  · have hg : goodC r n x y = true := by rw [goodC, c3, c4, c5]; rfl
                    rw [cvX, hg] at hP
                    refine AW.iload_n 55 dX1_coverOf_54 rfl (by rfl) ?_
                    refine AW.iload_n 56 dX1_coverOf_55 rfl (by rfl) ?_
                    refine AW.nne 68 59 dX1_coverOf_56 (by decide) rfl (by omega) (by omega) (fun c6 => ?_) (fun c6 => ?_)
                    · refine AW.iinc1 71 dX1_coverOf_68 rfl (by rfl) rfl ?_
                      refine AW.iinc1 74 dX1_coverOf_71 rfl (by rfl) rfl ?_
                      refine AW.goto 17 dX1_coverOf_74 (by decide) ?_
                      rw [if_pos rfl, if_neg c6] at hP
                      exact ihj (x + 1) (by omega) h3 w3 f3' (sn + 1) (by omega) hP
                    · rw [if_pos rfl, if_pos c6] at hP
                      have x20 : h3 20 = latO := w3.1
                      refine AW.aload_n 60 dX1_coverOf_59 rfl (by rfl) ?_
                      refine AW.aload_n 61 dX1_coverOf_60 rfl (by rfl) ?_
                      refine AW.getfield 64 dX1_coverOf_61 rfl fl_X1_42 (by assumption) (by rfl) ?_
                      refine AW.cV1 67 dX1_coverOf_64 rfl mi_X1_placeOf mv_X1_placeOf lk_X1_101 ⟨(Nat.le_of_ble_eq_true rfl), (Nat.le_of_ble_eq_true rfl)⟩ rfl (by assumption) rfl (Nat.le_of_ble_eq_true rfl) (c_placeOf w3 q1 q2 (by decide) (by decide) hn (hj x y (by omega) (by omega)) (fun f => ?_))
                      refine AW.iret dX1_coverOf_67 rfl ?_
                      exact hP _ w3.s22 (fun a ha => by rw [hs_ne (by omega), f3' a ha])
        exact I y 0 (by omega) h1 w1 f1 seen (by omega) (fun h' w' f' => hP h' w' f')
  exact L (n - 1) 1 (by omega) h w (fun a _ => rfl) 0 (by omega) none hP
def tkI (w : Nat → Nat) : Nat → Nat → Nat → Nat × Nat
  | 0, c, left => (left, c)
  | k + 1, c, left => if w c ≤ left then tkI w k (c + 1) (left - w c) else (left, c)
def tkS (n place : Nat) : Nat → Nat × Nat × (Nat → Nat) × (Nat → Nat)
  | 0 => (place, 0, fun _ => 0, idn)
  | x + 1 =>
    let s := tkS n place x
    let t := tkI (wy (n - 1 - x)) s.2.1 1 s.1
    let lw := if s.2.1 < t.2 then upN s.2.2.1 t.2 x else s.2.2.1
    (t.1, t.2, lw, upN s.2.2.2 x (lw t.2))
def tkF (n place : Nat) : Nat → Nat := (tkS n place n).2.2.2
theorem tkI_le (w : Nat → Nat) : ∀ k c left, c ≤ (tkI w k c left).2 ∧ (tkI w k c left).2 ≤ c + k ∧ (tkI w k c left).1 ≤ left
  | 0, c, left => ⟨Nat.le_refl _, Nat.le_refl _, Nat.le_refl _⟩
  | k + 1, c, left => by
    unfold tkI
    split
    · obtain ⟨h1, h2, h3⟩ := tkI_le w k (c + 1) (left - w c)
      exact ⟨by omega, by omega, by omega⟩
    · exact ⟨Nat.le_refl _, by omega, Nat.le_refl _⟩
theorem tkS_le (n place : Nat) : ∀ x, (tkS n place x).2.1 ≤ x ∧ (tkS n place x).1 ≤ place ∧ (∀ c, 1 ≤ c → c ≤ (tkS n place x).2.1 → (tkS n place x).2.2.1 c < x) ∧ ∀ i, 8 ≤ i → x ≤ 8 → (tkS n place x).2.2.2 i = 0 := by
  intro x
  induction x with
  | zero => exact ⟨Nat.le_refl _, Nat.le_refl _, fun c h1 h2 => by have h2 : c ≤ 0 := h2; omega, fun i hi _ => by show idn i = 0; rw [idn, if_neg (by omega)]⟩
  | succ x ih =>
    obtain ⟨h1, h2, h3, h4⟩ := ih
    obtain ⟨g1, g2, g3⟩ := tkI_le (wy (n - 1 - x)) (tkS n place x).2.1 1 (tkS n place x).1
    refine ⟨by show (tkI _ _ _ _).2 ≤ _; omega, by show (tkI _ _ _ _).1 ≤ _; omega, fun c z1 z2 => ?_, fun i hi hx => ?_⟩
    · have z2 : c ≤ (tkI (wy (n - 1 - x)) (tkS n place x).2.1 1 (tkS n place x).1).2 := z2
      show (if (tkS n place x).2.1 < (tkI (wy (n - 1 - x)) (tkS n place x).2.1 1 (tkS n place x).1).2 then upN (tkS n place x).2.2.1 (tkI (wy (n - 1 - x)) (tkS n place x).2.1 1 (tkS n place x).1).2 x else (tkS n place x).2.2.1) c < x + 1
      split
      · unfold upN
        split
        · omega
        · have := h3 c z1 (by omega); omega
      · have := h3 c z1 (by omega); omega
    · show upN _ x _ i = 0
      unfold upN
      rw [if_neg (by omega)]
      exact h4 i hi (by omega)
theorem c_takePlace {pm qm place : Nat} (w : LW h) (hm : PartAt h pm qm) (hd : 44 ≤ pm ∧ 44 ≤ qm ∧ pm ≠ qm) (hn : n ≤ 8) (hpl : place < 2147483648) (hw : ∀ i d, i < 9 → d < 9 → wy i d < 2147483648) (hP : ∀ f, P none N (hs (hs (hs h 23 (.inl (0, (9, .inl f)))) pm (oP n qm)) qm (iA 8 (tkF n place)))) : AM X1_takePlace [.ref 20, .ref pm, .int (nI n), .int (nI place)] N h P := by
  obtain ⟨d1, d2, d3⟩ := hd
  obtain ⟨f0, w23⟩ := w.2.2.2.1
  obtain ⟨m0, fm, g1, g2, g3⟩ := id hm
  refine AM.of0 rfl (Nat.le_of_ble_eq_true rfl) rfl [some (.ref 20), some (.ref pm), some (.int (nI n)), some (.int (nI place)), none, none, none, none, none] rfl ?_
  refine AW.iload_n 1 dX1_takePlace_0 rfl (by rfl) ?_
  refine AW.istore 3 dX1_takePlace_1 rfl (Nat.le_of_ble_eq_true rfl) rfl ?_
  refine AW.iconst 4 dX1_takePlace_3 rfl (nI 0) rfl ?_
  refine AW.istore 6 dX1_takePlace_4 rfl (Nat.le_of_ble_eq_true rfl) rfl ?_
  refine AW.aload_n 7 dX1_takePlace_6 rfl (by rfl) ?_
  refine AW.iload_n 8 dX1_takePlace_7 rfl (by rfl) ?_
  refine AW.cV1 11 dX1_takePlace_8 rfl mi_X3_split mv_X3_split lk_X1_59 ⟨(Nat.le_of_ble_eq_true rfl), (Nat.le_of_ble_eq_true rfl)⟩ rfl (by assumption) rfl (Nat.le_of_ble_eq_true rfl) (c_split1 hm d3 ?_)
  refine AW.heap (hs (hs (hs h 23 (.inl (0, (9, .inl f0)))) pm (oP n qm)) qm (iA 8 idn)) (by rw [hs_self w23]) ?_
  refine AW.iconst 12 dX1_takePlace_11 rfl (nI 0) rfl ?_
  refine AW.istore 14 dX1_takePlace_12 rfl (Nat.le_of_ble_eq_true rfl) rfl ?_
  have L : ∀ k x, x + k = n → ∀ f o1 o2, (∀ c, 1 ≤ c → c ≤ (tkS n place x).2.1 → f c = nI ((tkS n place x).2.2.1 c)) → AW X1_takePlace 14 [some (.ref 20), some (.ref pm), some (.int (nI n)), some (.int (nI place)), some (.int (nI (tkS n place x).1)), some (.int (nI (tkS n place x).2.1)), some (.int (nI x)), o1, o2] [] N (0, 0) (hs (hs (hs h 23 (.inl (0, (9, .inl f)))) pm (oP n qm)) qm (iA 8 (tkS n place x).2.2.2)) P := by
    intro k
    induction k with
    | zero =>
      intro x hx f o1 o2 hf
      refine AW.iload 16 dX1_takePlace_14 rfl (by rfl) ?_
      refine AW.iload_n 17 dX1_takePlace_16 rfl (by rfl) ?_
      refine AW.nge 123 20 dX1_takePlace_17 (by decide) rfl (by omega) (by omega) (fun c => ?_) (fun c => ?_)
      · refine AW.vret dX1_takePlace_123 rfl ?_
        have hP := hP f
        rw [tkF, show tkS n place n = tkS n place x by rw [show n = x by omega]] at hP
        exact hP
      · omega
    | succ k ih =>
      intro x hx f o1 o2 hf
      obtain ⟨b1, b2, b3, -⟩ := tkS_le n place x
      obtain ⟨t1, t2, t3⟩ := tkI_le (wy (n - 1 - x)) (tkS n place x).2.1 1 (tkS n place x).1
      have e20 : ∀ f r, (hs (hs (hs h 23 (.inl (0, (9, .inl f)))) pm (oP n qm)) qm (iA 8 r)) 20 = latO := fun f r => by rw [hs_ne (by omega), hs_ne (by omega), hs_ne (by decide), w.1]
      have e23 : ∀ f r, (hs (hs (hs h 23 (.inl (0, (9, .inl f)))) pm (oP n qm)) qm (iA 8 r)) 23 = .inl (0, (9, .inl f)) := fun f r => by rw [hs_ne (by omega), hs_ne (by omega), hs_eq]
      have e24 : ∀ f r, (hs (hs (hs h 23 (.inl (0, (9, .inl f)))) pm (oP n qm)) qm (iA 8 r)) 24 = refs 9 24 := fun f r => by rw [hs_ne (by omega), hs_ne (by omega), hs_ne (by decide), w.2.2.2.2.1]
      have ep : ∀ f r, (hs (hs (hs h 23 (.inl (0, (9, .inl f)))) pm (oP n qm)) qm (iA 8 r)) pm = oP n qm := fun f r => by rw [hs_ne (by omega), hs_eq]
      have eq : ∀ f r, (hs (hs (hs h 23 (.inl (0, (9, .inl f)))) pm (oP n qm)) qm (iA 8 r)) qm = iA 8 r := fun f r => by rw [hs_eq]
      have ew : ∀ f r, (hs (hs (hs h 23 (.inl (0, (9, .inl f)))) pm (oP n qm)) qm (iA 8 r)) (24 + 1 + (n - 1 - x)) = iA 9 (wy (n - 1 - x)) := fun f r => by rw [hs_ne (by omega), hs_ne (by omega), hs_ne (by omega), w.2.2.2.2.2.1 _ (by omega)]
      refine AW.iload 16 dX1_takePlace_14 rfl (by rfl) ?_
      refine AW.iload_n 17 dX1_takePlace_16 rfl (by rfl) ?_
      refine AW.nge 123 20 dX1_takePlace_17 (by decide) rfl (by omega) (by omega) (fun c => ?_) (fun c => ?_)
      · omega
      · have T : ∀ lf ch o, (lf, ch) = tkI (wy (n - 1 - x)) (tkS n place x).2.1 1 (tkS n place x).1 → AW X1_takePlace 83 [some (.ref 20), some (.ref pm), some (.int (nI n)), some (.int (nI place)), some (.int (nI lf)), some (.int (nI (tkS n place x).2.1)), some (.int (nI x)), some (.int (nI ch)), o] [] N (0, 0) (hs (hs (hs h 23 (.inl (0, (9, .inl f)))) pm (oP n qm)) qm (iA 8 (tkS n place x).2.2.2)) P := by
          intro lf ch o he
          rw [← he] at t1 t2 t3
          dsimp only at t1 t2 t3
          have V : ∀ f' lw, lw = (if (tkS n place x).2.1 < ch then upN (tkS n place x).2.2.1 ch x else (tkS n place x).2.2.1) → (∀ c, 1 ≤ c → c ≤ ch → f' c = nI (lw c)) → AW X1_takePlace 99 [some (.ref 20), some (.ref pm), some (.int (nI n)), some (.int (nI place)), some (.int (nI lf)), some (.int (nI (tkS n place x).2.1)), some (.int (nI x)), some (.int (nI ch)), o] [] N (0, 0) (hs (hs (hs h 23 (.inl (0, (9, .inl f')))) pm (oP n qm)) qm (iA 8 (tkS n place x).2.2.2)) P := by
            intro f' lw hlw hf'
            have x20 := e20 f' (tkS n place x).2.2.2
            have x23 := e23 f' (tkS n place x).2.2.2
            have xp := ep f' (tkS n place x).2.2.2
            have xq := eq f' (tkS n place x).2.2.2
            refine AW.aload_n 100 dX1_takePlace_99 rfl (by rfl) ?_
            refine AW.getfield 103 dX1_takePlace_100 rfl fl_X1_56 (by assumption) (by rfl) ?_
            refine AW.iload 105 dX1_takePlace_103 rfl (by rfl) ?_
            refine AW.aload_n 106 dX1_takePlace_105 rfl (by rfl) ?_
            refine AW.getfield 109 dX1_takePlace_106 rfl fl_X1_18 (by assumption) (by rfl) ?_
            refine AW.iload 111 dX1_takePlace_109 rfl (by rfl) ?_
            refine AW.iaload 112 _ dX1_takePlace_111 rfl (by assumption) (by first | exact Or.inl rfl | exact Or.inr rfl) (ix_nI (by omega)) (by omega) ?_
            rw [hf' ch t1 (Nat.le_refl ch)]
            refine AW.iastore 113 _ dX1_takePlace_112 rfl (by assumption) (ix_nI (by omega)) (by omega) ?_
            rw [hs_hs, upd_nI]
            refine AW.iload 115 dX1_takePlace_113 rfl (by rfl) ?_
            refine AW.istore 117 dX1_takePlace_115 rfl (Nat.le_of_ble_eq_true rfl) rfl ?_
            refine AW.iinc1 120 dX1_takePlace_117 rfl (by rfl) rfl ?_
            refine AW.goto 14 dX1_takePlace_120 (by decide) ?_
            have e1 : tkS n place (x + 1) = (lf, ch, lw, upN (tkS n place x).2.2.2 x (lw ch)) := by
              show (_, _, _, _) = _
              rw [← he, hlw]
            have := ih (x + 1) (by omega) f' (some (.int (nI ch))) o (by rw [e1]; exact hf')
            rw [e1] at this
            exact this
          refine AW.iload 85 dX1_takePlace_83 rfl (by rfl) ?_
          refine AW.iload 87 dX1_takePlace_85 rfl (by rfl) ?_
          refine AW.nle 99 90 dX1_takePlace_87 (by decide) rfl (by omega) (by omega) (fun c2 => ?_) (fun c2 => ?_)
          · exact V f _ rfl (fun c z1 z2 => by rw [if_neg (by omega)]; exact hf c z1 (by omega))
          · have x20 := e20 f (tkS n place x).2.2.2
            have x23 := e23 f (tkS n place x).2.2.2
            refine AW.aload_n 91 dX1_takePlace_90 rfl (by rfl) ?_
            refine AW.getfield 94 dX1_takePlace_91 rfl fl_X1_18 (by assumption) (by rfl) ?_
            refine AW.iload 96 dX1_takePlace_94 rfl (by rfl) ?_
            refine AW.iload 98 dX1_takePlace_96 rfl (by rfl) ?_
            refine AW.iastore 99 _ dX1_takePlace_98 rfl (by assumption) (ix_nI (by omega)) (by omega) ?_
            refine AW.heap (hs (hs (hs h 23 (.inl (0, (9, .inl (upd f ch (nI x)))))) pm (oP n qm)) qm (iA 8 (tkS n place x).2.2.2)) ?_ ?_
            · rw [hs_comm _ _ _ (by omega : qm ≠ 23), hs_comm _ _ _ (by omega : pm ≠ 23), hs_hs]
            · refine V (upd f ch (nI x)) _ rfl (fun c z1 z2 => ?_)
              rw [if_pos c2]
              unfold upd upN
              by_cases e : c = ch
              · rw [if_pos e, if_pos e]
              · rw [if_neg e, if_neg e]; exact hf c z1 (by omega)
        refine AW.iconst 21 dX1_takePlace_20 rfl (nI 1) rfl ?_
        refine AW.istore 23 dX1_takePlace_21 rfl (Nat.le_of_ble_eq_true rfl) rfl ?_
        refine AW.iconst 24 dX1_takePlace_23 rfl (nI 1) rfl ?_
        refine AW.istore 26 dX1_takePlace_24 rfl (Nat.le_of_ble_eq_true rfl) rfl ?_
        have I : ∀ m c lf, c + m = (tkS n place x).2.1 + 1 → lf < 2147483648 → tkI (wy (n - 1 - x)) m c lf = tkI (wy (n - 1 - x)) (tkS n place x).2.1 1 (tkS n place x).1 → AW X1_takePlace 26 [some (.ref 20), some (.ref pm), some (.int (nI n)), some (.int (nI place)), some (.int (nI lf)), some (.int (nI (tkS n place x).2.1)), some (.int (nI x)), some (.int (nI c)), some (.int (nI c))] [] N (0, 0) (hs (hs (hs h 23 (.inl (0, (9, .inl f)))) pm (oP n qm)) qm (iA 8 (tkS n place x).2.2.2)) P := by
          intro m
          induction m with
          | zero =>
            intro c lf hc hlf he
            refine AW.iload 28 dX1_takePlace_26 rfl (by rfl) ?_
            refine AW.iload 30 dX1_takePlace_28 rfl (by rfl) ?_
            refine AW.ngt 83 33 dX1_takePlace_30 (by decide) rfl (by omega) (by omega) (fun c2 => ?_) (fun c2 => ?_)
            · exact T lf c _ he
            · omega
          | succ m ihm =>
            intro c lf hc hlf he
            have x20 := e20 f (tkS n place x).2.2.2
            have x24 := e24 f (tkS n place x).2.2.2
            have xw := ew f (tkS n place x).2.2.2
            have hwc := hw (n - 1 - x) c (by omega) (by omega)
            refine AW.iload 28 dX1_takePlace_26 rfl (by rfl) ?_
            refine AW.iload 30 dX1_takePlace_28 rfl (by rfl) ?_
            refine AW.ngt 83 33 dX1_takePlace_30 (by decide) rfl (by omega) (by omega) (fun c2 => ?_) (fun c2 => ?_)
            · omega
            · refine AW.iload 35 dX1_takePlace_33 rfl (by rfl) ?_
              refine AW.aload_n 36 dX1_takePlace_35 rfl (by rfl) ?_
              refine AW.getfield 39 dX1_takePlace_36 rfl fl_X1_23 (by assumption) (by rfl) ?_
              refine AW.iload_n 40 dX1_takePlace_39 rfl (by rfl) ?_
              refine AW.iconst 41 dX1_takePlace_40 rfl (nI 1) rfl ?_
              first | refine AW.isubN 42 dX1_takePlace_41 rfl (by omega) ?_ | refine AW.isub 42 dX1_takePlace_41 rfl ?_
              refine AW.iload 44 dX1_takePlace_42 rfl (by rfl) ?_
              first | refine AW.isubN 45 dX1_takePlace_44 rfl (by omega) ?_ | refine AW.isub 45 dX1_takePlace_44 rfl ?_
              refine AW.aaload 46 _ dX1_takePlace_45 rfl (by assumption) (fun _ => rfl) rfl (ix_nI (by omega)) (by omega) (if_pos (show n - 1 - x < 9 by omega)) ?_
              refine AW.iload 48 dX1_takePlace_46 rfl (by rfl) ?_
              refine AW.iaload 49 _ dX1_takePlace_48 rfl (by assumption) (by first | exact Or.inl rfl | exact Or.inr rfl) (ix_nI (by omega)) (by omega) ?_
              refine AW.nlt 83 52 dX1_takePlace_49 (by decide) rfl (by omega) (by omega) (fun c3 => ?_) (fun c3 => ?_)
              · rw [tkI, if_neg (by omega)] at he
                exact T lf c _ he
              · rw [tkI, if_pos c3] at he
                refine AW.iload 54 dX1_takePlace_52 rfl (by rfl) ?_
                refine AW.aload_n 55 dX1_takePlace_54 rfl (by rfl) ?_
                refine AW.getfield 58 dX1_takePlace_55 rfl fl_X1_23 (by assumption) (by rfl) ?_
                refine AW.iload_n 59 dX1_takePlace_58 rfl (by rfl) ?_
                refine AW.iconst 60 dX1_takePlace_59 rfl (nI 1) rfl ?_
                first | refine AW.isubN 61 dX1_takePlace_60 rfl (by omega) ?_ | refine AW.isub 61 dX1_takePlace_60 rfl ?_
                refine AW.iload 63 dX1_takePlace_61 rfl (by rfl) ?_
                first | refine AW.isubN 64 dX1_takePlace_63 rfl (by omega) ?_ | refine AW.isub 64 dX1_takePlace_63 rfl ?_
                refine AW.aaload 65 _ dX1_takePlace_64 rfl (by assumption) (fun _ => rfl) rfl (ix_nI (by omega)) (by omega) (if_pos (show n - 1 - x < 9 by omega)) ?_
                refine AW.iload 67 dX1_takePlace_65 rfl (by rfl) ?_
                refine AW.iaload 68 _ dX1_takePlace_67 rfl (by assumption) (by first | exact Or.inl rfl | exact Or.inr rfl) (ix_nI (by omega)) (by omega) ?_
                first | refine AW.isubN 69 dX1_takePlace_68 rfl (by omega) ?_ | refine AW.isub 69 dX1_takePlace_68 rfl ?_
                refine AW.istore 71 dX1_takePlace_69 rfl (Nat.le_of_ble_eq_true rfl) rfl ?_
                refine AW.iload 73 dX1_takePlace_71 rfl (by rfl) ?_
                refine AW.iconst 74 dX1_takePlace_73 rfl (nI 1) rfl ?_
                first | refine AW.iaddN 75 dX1_takePlace_74 rfl ?_ | refine AW.iadd 75 dX1_takePlace_74 rfl ?_
                refine AW.istore 77 dX1_takePlace_75 rfl (Nat.le_of_ble_eq_true rfl) rfl ?_
                refine AW.iinc1 80 dX1_takePlace_77 rfl (by rfl) rfl ?_
                refine AW.goto 26 dX1_takePlace_80 (by decide) ?_
                exact ihm (c + 1) (lf - wy (n - 1 - x) c) (by omega) (by omega) he
        exact I (tkS n place x).2.1 1 (tkS n place x).1 (by omega) (by omega) rfl
  exact L n 0 (by omega) f0 none none (fun c z1 z2 => by have z2 : c ≤ 0 := z2; omega)
end LAT2
