/-! THE MODEL, nineteenth part: intervals: chains, signed, between; marked -/
def intM (g : Nat → Nat → Nat → Int32) (X : aX) (a b : Int32) : Int32 × aX := if inB 6 a && inB 6 b then (if blM X.1.1 (X.1.2.1 (cl a)) (X.1.2.1 (cl b)) then (g X.1.1 (X.1.2.1 (cl a)) (X.1.2.1 (cl b)), X) else noX X) else badX X
def mdB (n v : Nat) : Bool := alln (fun k => decide (v / 10 ^ k % 10 < 8)) (n - 1) && decide (v < 10 ^ (n - 1))
def markedM (X : aX) (v : Int32) : Int32 × aX := if decide (0 ≤ v.toInt) && mdB X.1.1 (cl v) then (chM X.1.1 (tb X.1.1 (catN X.1.1 - 1)) (tb X.1.1 0) (some (cl v)), X) else badX X
def btM (n a b : Nat) : Int32 := nI (cnt (fun k => b01 (blM n a (tb n k) && blM n (tb n k) b)) (catN n))
def sgT (n : Nat) (S : Nat → Int32) (k : Nat) : Nat → Int32
  | 0 => nI 0
  | j + 1 => sgT n S k j - (if S j ≠ 0 ∧ j ≠ k ∧ blM n (tb n j) (tb n k) = true then S j else nI 0)
def sgK (n one other r : Nat) : Nat → (Nat → Int32) → (Nat → Int32)
  | 0, S => S
  | k + 1, S => if rkM n (tb n k) = r ∧ blM n one (tb n k) = true ∧ blM n (tb n k) other = true then upd (sgK n one other r k S) k (if tb n k = one then nI 1 else sgT n (sgK n one other r k S) k (catN n)) else sgK n one other r k S
def sgR (n one other : Nat) : Nat → Nat → (Nat → Int32) → (Nat → Int32)
  | 0, _, S => S
  | j + 1, r, S => sgR n one other j (r + 1) (sgK n one other r (catN n) S)
def sgM (n one other : Nat) : Int32 := sgR n one other (rkM n other + 1 - rkM n one) (rkM n one) (fun _ => nI 0) (numM n other)
theorem sgT_congr {n k : Nat} {S S' : Nat → Int32} : ∀ j, AI j S S' → sgT n S k j = sgT n S' k j := by
  intro j
  induction j with
  | zero => intro _; rfl
  | succ j ih => intro e; rw [sgT, sgT, ih (fun i hi => e i (by omega)), e j (by omega)]
theorem sgK_congr {n one other r M : Nat} {S S' : Nat → Int32} (e : AI M S S') (hM : catN n ≤ M) : ∀ k, AI M (sgK n one other r k S) (sgK n one other r k S') := by
  intro k
  induction k with
  | zero => exact e
  | succ k ih =>
    intro i hi
    rw [sgK, sgK]
    split
    · unfold upd
      split
      · split
        · rfl
        · exact sgT_congr _ (fun i hi => ih i (by omega))
      · exact ih i hi
    · exact ih i hi
theorem sgR_congr {n one other M : Nat} (hM : catN n ≤ M) : ∀ j r (S S' : Nat → Int32), AI M S S' → AI M (sgR n one other j r S) (sgR n one other j r S') := by
  intro j
  induction j with
  | zero => intro r S S' e; exact e
  | succ j ih => intro r S S' e; exact ih _ _ _ (sgK_congr e hM _)
section REFI
variable {N n : Nat} {h : aH} {P : aP} {X : aX}
theorem r_refusedOf {a b : Int32} (K : RfAt h X) (hB : (inB 6 a && inB 6 b) = false → ∀ h', RfAt h' (badX X).2 → FrR h h' → P (some (.int (-2))) N h') (hN : ∀ a' b', a' < 6 → b' < 6 → a = nI a' → b = nI b' → blM X.1.1 (X.1.2.1 a') (X.1.2.1 b') = false → ∀ h', RfAt h' (noX X).2 → FrR h h' → P (some (.int (-3))) N h') (hO : ∀ a' b', a' < 6 → b' < 6 → a = nI a' → b = nI b' → blM X.1.1 (X.1.2.1 a') (X.1.2.1 b') = true → P (some (.int (nI 0))) N h) : AM X8_refusedOf [.ref 196, .int a, .int b] N h P := by
  obtain ⟨_, _, _, _, _, _, x196, -⟩ := id K.1
  have x197 : h 197 = .inl (0, (15, .inl (nowF X.1))) := K.2.1
  have w := K.2.2.2.2.2.2.2.2
  refine AM.of0 rfl (Nat.le_of_ble_eq_true rfl) rfl [some (.ref 196), some (.int a), some (.int b)] rfl ?_
  have F : (inB 6 a && inB 6 b) = false → AW X8_refusedOf 14 [some (.ref 196), some (.int a), some (.int b)] [] N (0, 0) h P := by
    intro e
    refine AW.aload_n 15 dX8_refusedOf_14 rfl (by rfl) ?_
    refine AW.bipush 17 dX8_refusedOf_15 rfl (-2) rfl ?_
    refine AW.cV1 20 dX8_refusedOf_17 rfl mi_X8_refuses mv_X8_refuses lk_X8_131 ⟨(Nat.le_of_ble_eq_true rfl), (Nat.le_of_ble_eq_true rfl)⟩ rfl (by assumption) rfl (Nat.le_of_ble_eq_true rfl) (r_bad K ?_)
    intro h' K' F
    refine AW.iret dX8_refusedOf_20 rfl ?_
    exact hB e h' K' F
  refine AW.iload_n 1 dX8_refusedOf_0 rfl (by rfl) ?_
  refine AW.cS1 4 dX8_refusedOf_1 rfl mi_X8_isSlot ms_X8_isSlot lk_X8_104 ⟨(Nat.le_of_ble_eq_true rfl), (Nat.le_of_ble_eq_true rfl)⟩ rfl (Nat.le_of_ble_eq_true rfl) (r_isSlot ?_)
  refine AW.zeq 14 7 dX8_refusedOf_4 (by decide) rfl (fun c1 => ?_) (fun c1 => ?_)
  · exact F (by rw [c1]; rfl)
  · refine AW.iload_n 8 dX8_refusedOf_7 rfl (by rfl) ?_
    refine AW.cS1 11 dX8_refusedOf_8 rfl mi_X8_isSlot ms_X8_isSlot lk_X8_104 ⟨(Nat.le_of_ble_eq_true rfl), (Nat.le_of_ble_eq_true rfl)⟩ rfl (Nat.le_of_ble_eq_true rfl) (r_isSlot ?_)
    refine AW.zne 21 14 dX8_refusedOf_11 (by decide) rfl (fun c2 => ?_) (fun c2 => ?_)
    · rcases inB_cases (m := 6) (by omega) a with ⟨a', ha', rfl, e1⟩ | ⟨-, e1⟩
      · rcases inB_cases (m := 6) (by omega) b with ⟨b', hb', rfl, e2⟩ | ⟨-, e2⟩
        · refine AW.aload_n 22 dX8_refusedOf_21 rfl (by rfl) ?_
          refine AW.aload_n 23 dX8_refusedOf_22 rfl (by rfl) ?_
          refine AW.getfield 26 dX8_refusedOf_23 rfl fl_X8_7 (by assumption) (by rfl) ?_
          refine AW.iconst 27 dX8_refusedOf_26 rfl (nI 1) rfl ?_
          refine AW.iload_n 28 dX8_refusedOf_27 rfl (by rfl) ?_
          first | refine AW.iaddN 29 dX8_refusedOf_28 rfl ?_ | refine AW.iadd 29 dX8_refusedOf_28 rfl ?_
          refine AW.iaload 30 _ dX8_refusedOf_29 rfl (by assumption) (by first | exact Or.inl rfl | exact Or.inr rfl) (ix_nI (by omega)) (by omega) ?_
          rw [nowF_c ha']
          refine AW.aload_n 31 dX8_refusedOf_30 rfl (by rfl) ?_
          refine AW.getfield 34 dX8_refusedOf_31 rfl fl_X8_7 (by assumption) (by rfl) ?_
          refine AW.iconst 35 dX8_refusedOf_34 rfl (nI 1) rfl ?_
          refine AW.iload_n 36 dX8_refusedOf_35 rfl (by rfl) ?_
          first | refine AW.iaddN 37 dX8_refusedOf_36 rfl ?_ | refine AW.iadd 37 dX8_refusedOf_36 rfl ?_
          refine AW.iaload 38 _ dX8_refusedOf_37 rfl (by assumption) (by first | exact Or.inl rfl | exact Or.inr rfl) (ix_nI (by omega)) (by omega) ?_
          rw [nowF_c hb']
          refine AW.cV2 41 dX8_refusedOf_38 rfl mi_X8_isBelow mv_X8_isBelow lk_X8_171 ⟨(Nat.le_of_ble_eq_true rfl), (Nat.le_of_ble_eq_true rfl)⟩ rfl (by assumption) rfl (Nat.le_of_ble_eq_true rfl) (c_isBelow K.now (w.2.2 a' ha').1 (w.2.2 b' hb').1 ?_)
          refine AW.zeq 48 44 dX8_refusedOf_41 (by decide) rfl (fun c3 => ?_) (fun c3 => ?_)
          · refine AW.aload_n 49 dX8_refusedOf_48 rfl (by rfl) ?_
            refine AW.bipush 51 dX8_refusedOf_49 rfl (-3) rfl ?_
            refine AW.cV1 54 dX8_refusedOf_51 rfl mi_X8_refuses mv_X8_refuses lk_X8_131 ⟨(Nat.le_of_ble_eq_true rfl), (Nat.le_of_ble_eq_true rfl)⟩ rfl (by assumption) rfl (Nat.le_of_ble_eq_true rfl) (r_no K ?_)
            intro h' K' F
            refine AW.iret dX8_refusedOf_54 rfl ?_
            exact hN a' b' ha' hb' rfl rfl c3 h' K' F
          · refine AW.iconst 45 dX8_refusedOf_44 rfl (nI 0) rfl ?_
            refine AW.goto 54 dX8_refusedOf_45 (by decide) ?_
            refine AW.iret dX8_refusedOf_54 rfl ?_
            exact hO a' b' ha' hb' rfl rfl c3
        · rw [e2] at c2; exact absurd c2 (by decide)
      · rw [e1] at c1; exact absurd c1 (by decide)
    · exact F (by rw [c2, Bool.and_false])
theorem intM_bad {g : Nat → Nat → Nat → Int32} {a b : Int32} (e : (inB 6 a && inB 6 b) = false) : intM g X a b = badX X := by rw [intM, e]; rfl
theorem intM_no {g : Nat → Nat → Nat → Int32} {a b : Nat} (ha : a < 6) (hb : b < 6) (e : blM X.1.1 (X.1.2.1 a) (X.1.2.1 b) = false) : intM g X (nI a) (nI b) = noX X := by
  rw [intM, inB_t (by omega) ha, inB_t (by omega) hb, cl_nI (by omega), cl_nI (by omega), e]
  rfl
theorem intM_ok {g : Nat → Nat → Nat → Int32} {a b : Nat} (ha : a < 6) (hb : b < 6) (e : blM X.1.1 (X.1.2.1 a) (X.1.2.1 b) = true) : intM g X (nI a) (nI b) = (g X.1.1 (X.1.2.1 a) (X.1.2.1 b), X) := by
  rw [intM, inB_t (by omega) ha, inB_t (by omega) hb, cl_nI (by omega), cl_nI (by omega), e]
  rfl
theorem r_chains {a b : Int32} (K : RfAt h X) (hP : ∀ h', RfAt h' (intM (fun n a b => chM n a b none) X a b).2 → FrR h h' → P (some (.int (intM (fun n a b => chM n a b none) X a b).1)) N h') : AM X8_chains [.ref 196, .int a, .int b] N h P := by
  obtain ⟨_, _, _, _, _, _, x196, -⟩ := id K.1
  have x197 : h 197 = .inl (0, (15, .inl (nowF X.1))) := K.2.1
  have w := K.2.2.2.2.2.2.2.2
  refine AM.of0 rfl (Nat.le_of_ble_eq_true rfl) rfl [some (.ref 196), some (.int a), some (.int b), none] rfl ?_
  refine AW.aload_n 1 dX8_chains_0 rfl (by rfl) ?_
  refine AW.iload_n 2 dX8_chains_1 rfl (by rfl) ?_
  refine AW.iload_n 3 dX8_chains_2 rfl (by rfl) ?_
  refine AW.cV2 6 dX8_chains_3 rfl mi_X8_refusedOf mv_X8_refusedOf lk_X8_194 ⟨(Nat.le_of_ble_eq_true rfl), (Nat.le_of_ble_eq_true rfl)⟩ rfl (by assumption) rfl (Nat.le_of_ble_eq_true rfl) (r_refusedOf K ?_ ?_ ?_)
  · intro e h' K' F
    rw [intM_bad e] at hP
    refine AW.istore_n 7 dX8_chains_6 rfl (Nat.le_of_ble_eq_true rfl) rfl ?_
    refine AW.iload_n 8 dX8_chains_7 rfl (by rfl) ?_
    refine AW.if_ge 15 11 dX8_chains_8 (by decide) rfl (fun c => ?_) (fun c => ?_)
    · exact absurd c (by decide)
    · refine AW.iload_n 12 dX8_chains_11 rfl (by rfl) ?_
      refine AW.goto 36 dX8_chains_12 (by decide) ?_
      refine AW.iret dX8_chains_36 rfl ?_
      exact hP h' K' F
  · intro a' b' ha' hb' ea eb e h' K' F
    subst ea eb
    rw [intM_no ha' hb' e] at hP
    refine AW.istore_n 7 dX8_chains_6 rfl (Nat.le_of_ble_eq_true rfl) rfl ?_
    refine AW.iload_n 8 dX8_chains_7 rfl (by rfl) ?_
    refine AW.if_ge 15 11 dX8_chains_8 (by decide) rfl (fun c => ?_) (fun c => ?_)
    · exact absurd c (by decide)
    · refine AW.iload_n 12 dX8_chains_11 rfl (by rfl) ?_
      refine AW.goto 36 dX8_chains_12 (by decide) ?_
      refine AW.iret dX8_chains_36 rfl ?_
      exact hP h' K' F
  · intro a' b' ha' hb' ea eb e
    subst ea eb
    rw [intM_ok ha' hb' e] at hP
    refine AW.istore_n 7 dX8_chains_6 rfl (Nat.le_of_ble_eq_true rfl) rfl ?_
    refine AW.iload_n 8 dX8_chains_7 rfl (by rfl) ?_
    refine AW.if_ge 15 11 dX8_chains_8 (by decide) rfl (fun c => ?_) (fun c => ?_)
    · refine AW.aload_n 16 dX8_chains_15 rfl (by rfl) ?_
      refine AW.aload_n 17 dX8_chains_16 rfl (by rfl) ?_
      refine AW.getfield 20 dX8_chains_17 rfl fl_X8_7 (by assumption) (by rfl) ?_
      refine AW.iconst 21 dX8_chains_20 rfl (nI 1) rfl ?_
      refine AW.iload_n 22 dX8_chains_21 rfl (by rfl) ?_
      first | refine AW.iaddN 23 dX8_chains_22 rfl ?_ | refine AW.iadd 23 dX8_chains_22 rfl ?_
      refine AW.iaload 24 _ dX8_chains_23 rfl (by assumption) (by first | exact Or.inl rfl | exact Or.inr rfl) (ix_nI (by omega)) (by omega) ?_
      rw [nowF_c ha']
      refine AW.aload_n 25 dX8_chains_24 rfl (by rfl) ?_
      refine AW.getfield 28 dX8_chains_25 rfl fl_X8_7 (by assumption) (by rfl) ?_
      refine AW.iconst 29 dX8_chains_28 rfl (nI 1) rfl ?_
      refine AW.iload_n 30 dX8_chains_29 rfl (by rfl) ?_
      first | refine AW.iaddN 31 dX8_chains_30 rfl ?_ | refine AW.iadd 31 dX8_chains_30 rfl ?_
      refine AW.iaload 32 _ dX8_chains_31 rfl (by assumption) (by first | exact Or.inl rfl | exact Or.inr rfl) (ix_nI (by omega)) (by omega) ?_
      rw [nowF_c hb']
      refine AW.iconst 33 dX8_chains_32 rfl (-1) rfl ?_
      refine AW.cV3 36 dX8_chains_33 rfl mi_X8_chainsBy mv_X8_chainsBy lk_X8_197 ⟨(Nat.le_of_ble_eq_true rfl), (Nat.le_of_ble_eq_true rfl)⟩ rfl (by assumption) rfl (Nat.le_of_ble_eq_true rfl) (r_chainsBy (mo := none) K (w.2.2 a' ha') (w.2.2 b' hb') (fun v q => by cases q) ?_)
      intro h' K' F
      refine AW.iret dX8_chains_36 rfl ?_
      exact hP h' K' F.c
    · exact absurd (show (0 : Int32) ≤ nI 0 by decide) c
theorem r_between {a b : Int32} (K0 : RfAt h X) (hP : ∀ h', RfAt h' (intM btM X a b).2 → FrR h h' → P (some (.int (intM btM X a b).1)) N h') : AM X8_between [.ref 196, .int a, .int b] N h P := by
  obtain ⟨_, _, _, _, _, _, x196, -⟩ := id K0.1
  have w := K0.2.2.2.2.2.2.2.2
  refine AM.of0 rfl (Nat.le_of_ble_eq_true rfl) rfl [some (.ref 196), some (.int a), some (.int b), none, none, none] rfl ?_
  refine AW.aload_n 1 dX8_between_0 rfl (by rfl) ?_
  refine AW.iload_n 2 dX8_between_1 rfl (by rfl) ?_
  refine AW.iload_n 3 dX8_between_2 rfl (by rfl) ?_
  refine AW.cV2 6 dX8_between_3 rfl mi_X8_refusedOf mv_X8_refusedOf lk_X8_194 ⟨(Nat.le_of_ble_eq_true rfl), (Nat.le_of_ble_eq_true rfl)⟩ rfl (by assumption) rfl (Nat.le_of_ble_eq_true rfl) (r_refusedOf K0 ?_ ?_ ?_)
  · intro e h' K' F
    rw [intM_bad e] at hP
    refine AW.istore_n 7 dX8_between_6 rfl (Nat.le_of_ble_eq_true rfl) rfl ?_
    refine AW.iload_n 8 dX8_between_7 rfl (by rfl) ?_
    refine AW.if_ge 13 11 dX8_between_8 (by decide) rfl (fun c => ?_) (fun c => ?_)
    · exact absurd c (by decide)
    · refine AW.iload_n 12 dX8_between_11 rfl (by rfl) ?_
      refine AW.iret dX8_between_12 rfl ?_
      exact hP h' K' F
  · intro a' b' ha' hb' ea eb e h' K' F
    subst ea eb
    rw [intM_no ha' hb' e] at hP
    refine AW.istore_n 7 dX8_between_6 rfl (Nat.le_of_ble_eq_true rfl) rfl ?_
    refine AW.iload_n 8 dX8_between_7 rfl (by rfl) ?_
    refine AW.if_ge 13 11 dX8_between_8 (by decide) rfl (fun c => ?_) (fun c => ?_)
    · exact absurd c (by decide)
    · refine AW.iload_n 12 dX8_between_11 rfl (by rfl) ?_
      refine AW.iret dX8_between_12 rfl ?_
      exact hP h' K' F
  · intro a' b' ha' hb' ea eb e
    subst ea eb
    rw [intM_ok ha' hb' e] at hP
    have w2 := w.2.1
    have wa := w.2.2 a' ha'
    have wb := w.2.2 b' hb'
    have a1 := wa.1
    have b1 := wb.1
    refine AW.istore_n 7 dX8_between_6 rfl (Nat.le_of_ble_eq_true rfl) rfl ?_
    refine AW.iload_n 8 dX8_between_7 rfl (by rfl) ?_
    refine AW.if_ge 13 11 dX8_between_8 (by decide) rfl (fun c => ?_) (fun c => ?_)
    · refine AW.aload_n 14 dX8_between_13 rfl (by rfl) ?_
      refine AW.cV0 17 dX8_between_14 rfl mi_X8_lay mv_X8_lay lk_X8_97 ⟨(Nat.le_of_ble_eq_true rfl), (Nat.le_of_ble_eq_true rfl)⟩ rfl (by assumption) rfl (Nat.le_of_ble_eq_true rfl) (r_lay K0 ?_)
      intro H K D F1
      have c6 := catN_le X.1.1 w.2.1
      have G := K.now
      obtain ⟨⟨_, _, _, _, _, _, y196⟩, f, q, y2, y3, y4⟩ := id D
      have y197 : H 197 = .inl (0, (15, .inl (nowF X.1))) := K.2.1
      refine AW.iconst 18 dX8_between_17 rfl (nI 0) rfl ?_
      refine AW.istore 20 dX8_between_18 rfl (Nat.le_of_ble_eq_true rfl) rfl ?_
      refine AW.iconst 21 dX8_between_20 rfl (nI 0) rfl ?_
      refine AW.istore 23 dX8_between_21 rfl (Nat.le_of_ble_eq_true rfl) rfl ?_
      have L : ∀ i k, k + i = catN X.1.1 → AW X8_between 23 [some (.ref 196), some (.int (nI a')), some (.int (nI b')), some (.int (nI 0)), some (.int (nI (cnt (fun k => b01 (blM X.1.1 (X.1.2.1 a') (tb X.1.1 k) && blM X.1.1 (tb X.1.1 k) (X.1.2.1 b'))) k))), some (.int (nI k))] [] N (0, 0) H P := by
        intro i
        induction i with
        | zero =>
          intro k hk
          refine AW.iload 25 dX8_between_23 rfl (by rfl) ?_
          refine AW.aload_n 26 dX8_between_25 rfl (by rfl) ?_
          refine AW.getfield 29 dX8_between_26 rfl fl_X8_87 (by assumption) (by rfl) ?_
          refine AW.nge 92 32 dX8_between_29 (by decide) rfl (by omega) (by omega) (fun c2 => ?_) (fun c2 => ?_)
          · obtain rfl : k = catN X.1.1 := by omega
            refine AW.iload 94 dX8_between_92 rfl (by rfl) ?_
            refine AW.iret dX8_between_94 rfl ?_
            exact hP H K F1.c
          · omega
        | succ i ih =>
          intro k hk
          obtain ⟨y5, y6⟩ := y4 k (by omega)
          have t1 := tb_lt X.1.1 k
          refine AW.iload 25 dX8_between_23 rfl (by rfl) ?_
          refine AW.aload_n 26 dX8_between_25 rfl (by rfl) ?_
          refine AW.getfield 29 dX8_between_26 rfl fl_X8_87 (by assumption) (by rfl) ?_
          refine AW.nge 92 32 dX8_between_29 (by decide) rfl (by omega) (by omega) (fun c2 => ?_) (fun c2 => ?_)
          · omega
          · refine AW.iload 34 dX8_between_32 rfl (by rfl) ?_
            refine AW.aload_n 35 dX8_between_34 rfl (by rfl) ?_
            refine AW.aload_n 36 dX8_between_35 rfl (by rfl) ?_
            refine AW.getfield 39 dX8_between_36 rfl fl_X8_7 (by assumption) (by rfl) ?_
            refine AW.iconst 40 dX8_between_39 rfl (nI 1) rfl ?_
            refine AW.iload_n 41 dX8_between_40 rfl (by rfl) ?_
            first | refine AW.iaddN 42 dX8_between_41 rfl ?_ | refine AW.iadd 42 dX8_between_41 rfl ?_
            refine AW.iaload 43 _ dX8_between_42 rfl (by assumption) (by first | exact Or.inl rfl | exact Or.inr rfl) (ix_nI (by omega)) (by omega) ?_
            rw [nowF_c ha']
            refine AW.aload_n 44 dX8_between_43 rfl (by rfl) ?_
            refine AW.getfield 47 dX8_between_44 rfl fl_X8_28 (by assumption) (by rfl) ?_
            refine AW.iload 49 dX8_between_47 rfl (by rfl) ?_
            refine AW.iaload 50 _ dX8_between_49 rfl (by assumption) (by first | exact Or.inl rfl | exact Or.inr rfl) (ix_nI (by omega)) (by omega) ?_
            rw [y5]
            have J : ∀ t, t = (blM X.1.1 (X.1.2.1 a') (tb X.1.1 k) && blM X.1.1 (tb X.1.1 k) (X.1.2.1 b')) → AW X8_between 83 [some (.ref 196), some (.int (nI a')), some (.int (nI b')), some (.int (nI 0)), some (.int (nI (cnt (fun k => b01 (blM X.1.1 (X.1.2.1 a') (tb X.1.1 k) && blM X.1.1 (tb X.1.1 k) (X.1.2.1 b'))) k))), some (.int (nI k))] [.int (nI (b01 t)), .int (nI (cnt (fun k => b01 (blM X.1.1 (X.1.2.1 a') (tb X.1.1 k) && blM X.1.1 (tb X.1.1 k) (X.1.2.1 b'))) k))] N (0, 0) H P := by
              intro t ht
              first | refine AW.iaddN 84 dX8_between_83 rfl ?_ | refine AW.iadd 84 dX8_between_83 rfl ?_
              refine AW.istore 86 dX8_between_84 rfl (Nat.le_of_ble_eq_true rfl) rfl ?_
              refine AW.iinc1 89 dX8_between_86 rfl (by rfl) rfl ?_
              refine AW.goto 23 dX8_between_89 (by decide) ?_
              rw [ht]
              exact ih (k + 1) (by omega)
            refine AW.cV2 53 dX8_between_50 rfl mi_X8_isBelow mv_X8_isBelow lk_X8_171 ⟨(Nat.le_of_ble_eq_true rfl), (Nat.le_of_ble_eq_true rfl)⟩ rfl (by assumption) rfl (Nat.le_of_ble_eq_true rfl) (c_isBelow G a1 t1 ?_)
            refine AW.zeq 82 56 dX8_between_53 (by decide) rfl (fun c3 => ?_) (fun c3 => ?_)
            · refine AW.iconst 83 dX8_between_82 rfl (nI 0) rfl ?_
              exact J false (by rw [c3]; rfl)
            · refine AW.aload_n 57 dX8_between_56 rfl (by rfl) ?_
              refine AW.aload_n 58 dX8_between_57 rfl (by rfl) ?_
              refine AW.getfield 61 dX8_between_58 rfl fl_X8_28 (by assumption) (by rfl) ?_
              refine AW.iload 63 dX8_between_61 rfl (by rfl) ?_
              refine AW.iaload 64 _ dX8_between_63 rfl (by assumption) (by first | exact Or.inl rfl | exact Or.inr rfl) (ix_nI (by omega)) (by omega) ?_
              rw [y5]
              refine AW.aload_n 65 dX8_between_64 rfl (by rfl) ?_
              refine AW.getfield 68 dX8_between_65 rfl fl_X8_7 (by assumption) (by rfl) ?_
              refine AW.iconst 69 dX8_between_68 rfl (nI 1) rfl ?_
              refine AW.iload_n 70 dX8_between_69 rfl (by rfl) ?_
              first | refine AW.iaddN 71 dX8_between_70 rfl ?_ | refine AW.iadd 71 dX8_between_70 rfl ?_
              refine AW.iaload 72 _ dX8_between_71 rfl (by assumption) (by first | exact Or.inl rfl | exact Or.inr rfl) (ix_nI (by omega)) (by omega) ?_
              rw [nowF_c hb']
              refine AW.cV2 75 dX8_between_72 rfl mi_X8_isBelow mv_X8_isBelow lk_X8_171 ⟨(Nat.le_of_ble_eq_true rfl), (Nat.le_of_ble_eq_true rfl)⟩ rfl (by assumption) rfl (Nat.le_of_ble_eq_true rfl) (c_isBelow G t1 b1 ?_)
              refine AW.zeq 82 78 dX8_between_75 (by decide) rfl (fun c4 => ?_) (fun c4 => ?_)
              · refine AW.iconst 83 dX8_between_82 rfl (nI 0) rfl ?_
                exact J false (by rw [c4, Bool.and_false])
              · refine AW.iconst 79 dX8_between_78 rfl (nI 1) rfl ?_
                refine AW.goto 83 dX8_between_79 (by decide) ?_
                exact J true (by rw [c3, c4]; rfl)
      exact L (catN X.1.1) 0 (by omega)
    · exact absurd (show (0 : Int32) ≤ nI 0 by decide) c
end REFI
