/-! THE MODEL, seventeenth part: mark, ways, chains -/
theorem mk_ex {n a b : Nat} (wa : WfC n a) (wb : WfC n b) (hb : blM n a b = true) (hr : rkM n b = rkM n a + 1) : (∃ s, s < n ∧ rw8 a s = s ∧ rw8 b s ≠ s) ∧ ∀ s, s < n → rw8 a s = s → rw8 b s ≠ s → ∃ m, m < s ∧ rw8 a m = rw8 b s := by
  constructor
  · refine Classical.byContradiction fun no => ?_
    have : rkM n b ≤ rkM n a := cnt_le n (fun x hx => by
      by_cases e : rw8 a x = x
      · by_cases e2 : rw8 b x = x
        · rw [if_pos e2]; exact Nat.zero_le _
        · exact absurd ⟨x, hx, e, e2⟩ no
      · rw [if_neg e]; split <;> decide)
    omega
  · intro s hs h1 h2
    have l1 := (wb.2 s hs).1
    have l2 := (wb.2 s hs).2
    have l3 := (wa.2 (rw8 b s) (by omega)).1
    have l4 := (wb.2 (rw8 a (rw8 b s)) (by omega)).1
    have l5 := alln_iff.mp hb (rw8 b s) (by omega)
    rw [beq_iff_eq, l2] at l5
    exact ⟨rw8 b s, by omega, by omega⟩
theorem mk1_le (n a b : Nat) : mk1 n a b ≤ n := by
  have : ∀ k s, s + k = n → fnd (fun s => decide (rw8 a s = s) && !decide (rw8 b s = s)) n k s ≤ n := by
    intro k
    induction k with
    | zero => intro s _; exact Nat.le_refl _
    | succ k ih => intro s hs; rw [fnd]; split; omega; exact ih (s + 1) (by omega)
  exact this n 0 (by omega)
theorem mkM_le (n a b : Nat) : mkM n a b ≤ n := by
  have := mk1_le n a b
  have L : ∀ k s, s ≤ n → fndD (fun m => decide (rw8 a m = rw8 b (mk1 n a b))) 0 k s ≤ n := by
    intro k
    induction k with
    | zero => intro s _; exact Nat.zero_le _
    | succ k ih => intro s hs; rw [fndD]; split; omega; exact ih (s - 1) (by omega)
  exact L _ _ (by omega)
def mkI (mk : Option Nat) : Int32 := match mk with | none => -1 | some d => nI d
def mkB (mk : Option Nat) (v : Nat) : Bool := match mk with | none => true | some d => decide (v = d)
def wsT (n : Nat) (W : Nat → Int32) (k r : Nat) (mk : Option Nat) : Nat → Int32
  | 0 => nI 0
  | j + 1 => if rkM n (tb n j) = r ∧ 0 < W j ∧ blM n (tb n j) (tb n k) = true then wsT n W k r mk j + (if mkB mk (mkM n (tb n j) (tb n k)) = true then W j else nI 0) else wsT n W k r mk j
def wyK (n other r : Nat) (mk : Option Nat) : Nat → (Nat → Int32) → (Nat → Int32)
  | 0, W => W
  | k + 1, W => if rkM n (tb n k) = r + 1 ∧ blM n (tb n k) other = true then upd (wyK n other r mk k W) k (wsT n (wyK n other r mk k W) k r mk (catN n)) else wyK n other r mk k W
def dgM (mo : Option Nat) (e : Nat) : Option Nat := mo.map (fun v => v / 10 ^ e % 10)
def wyR (n other to : Nat) (mo : Option Nat) : Nat → Nat → (Nat → Int32) → (Nat → Int32)
  | 0, _, W => W
  | j + 1, r, W => wyR n other to mo j (r + 1) (wyK n other r (dgM mo (to - 1 - r)) (catN n) W)
def wy0 (n one : Nat) (k : Nat) : Int32 := if tb n k = one then nI 1 else nI 0
def chM (n one other : Nat) (mo : Option Nat) : Int32 := wyR n other (rkM n other) mo (rkM n other - rkM n one) (rkM n one) (wy0 n one) (numM n other)
def AI (n : Nat) (W W' : Nat → Int32) : Prop := ∀ i, i < n → W i = W' i
theorem wsT_congr {n k r : Nat} {mk : Option Nat} {W W' : Nat → Int32} : ∀ j, AI j W W' → wsT n W k r mk j = wsT n W' k r mk j := by
  intro j
  induction j with
  | zero => intro _; rfl
  | succ j ih => intro e; rw [wsT, wsT, ih (fun i hi => e i (by omega)), e j (by omega)]
theorem wyK_congr {n other r M : Nat} {mk : Option Nat} {W W' : Nat → Int32} (e : AI M W W') (hM : catN n ≤ M) : ∀ k, AI M (wyK n other r mk k W) (wyK n other r mk k W') := by
  intro k
  induction k with
  | zero => exact e
  | succ k ih =>
    intro i hi
    rw [wyK, wyK]
    split
    · unfold upd
      split
      · exact wsT_congr _ (fun i hi => ih i (by omega))
      · exact ih i hi
    · exact ih i hi
theorem wyR_congr {n other to M : Nat} {mo : Option Nat} (hM : catN n ≤ M) : ∀ j r (W W' : Nat → Int32), AI M W W' → AI M (wyR n other to mo j r W) (wyR n other to mo j r W') := by
  intro j
  induction j with
  | zero => intro r W W' e; exact e
  | succ j ih => intro r W W' e; exact ih _ _ _ (wyK_congr e hM _)
section REFG
variable {N n : Nat} {h : aH} {P : aP} {X : aX}
def markM (X : aX) (a b : Int32) : Int32 × aX := if inB 6 a && inB 6 b then (if decide (rkM X.1.1 (X.1.2.1 (cl b)) = rkM X.1.1 (X.1.2.1 (cl a)) + 1) && blM X.1.1 (X.1.2.1 (cl a)) (X.1.2.1 (cl b)) then (nI (mkM X.1.1 (X.1.2.1 (cl a)) (X.1.2.1 (cl b))), X) else noX X) else badX X
theorem r_mark {a b : Int32} (K : RfAt h X) (hP : ∀ h', RfAt h' (markM X a b).2 → FrR h h' → P (some (.int (markM X a b).1)) N h') : AM X8_mark [.ref 196, .int a, .int b] N h P := by
  obtain ⟨_, _, _, _, _, _, x196, -⟩ := id K.1
  have x197 : h 197 = .inl (0, (15, .inl (nowF X.1))) := K.2.1
  have w := K.2.2.2.2.2.2.2.2
  have w2 := w.2.1
  rw [markM] at hP
  refine AM.of0 rfl (Nat.le_of_ble_eq_true rfl) rfl [some (.ref 196), some (.int a), some (.int b), none, none] rfl ?_
  have F : (inB 6 a && inB 6 b) = false → AW X8_mark 14 [some (.ref 196), some (.int a), some (.int b), none, none] [] N (0, 0) h P := by
    intro e
    rw [e] at hP
    refine AW.aload_n 15 dX8_mark_14 rfl (by rfl) ?_
    refine AW.bipush 17 dX8_mark_15 rfl (-2) rfl ?_
    refine AW.cV1 20 dX8_mark_17 rfl mi_X8_refuses mv_X8_refuses lk_X8_131 ⟨(Nat.le_of_ble_eq_true rfl), (Nat.le_of_ble_eq_true rfl)⟩ rfl (by assumption) rfl (Nat.le_of_ble_eq_true rfl) (r_bad K ?_)
    intro h' K' F
    refine AW.iret dX8_mark_20 rfl ?_
    exact hP h' K' F
  refine AW.iload_n 1 dX8_mark_0 rfl (by rfl) ?_
  refine AW.cS1 4 dX8_mark_1 rfl mi_X8_isSlot ms_X8_isSlot lk_X8_104 ⟨(Nat.le_of_ble_eq_true rfl), (Nat.le_of_ble_eq_true rfl)⟩ rfl (Nat.le_of_ble_eq_true rfl) (r_isSlot ?_)
  refine AW.zeq 14 7 dX8_mark_4 (by decide) rfl (fun c1 => ?_) (fun c1 => ?_)
  · exact F (by rw [c1]; rfl)
  · refine AW.iload_n 8 dX8_mark_7 rfl (by rfl) ?_
    refine AW.cS1 11 dX8_mark_8 rfl mi_X8_isSlot ms_X8_isSlot lk_X8_104 ⟨(Nat.le_of_ble_eq_true rfl), (Nat.le_of_ble_eq_true rfl)⟩ rfl (Nat.le_of_ble_eq_true rfl) (r_isSlot ?_)
    refine AW.zne 21 14 dX8_mark_11 (by decide) rfl (fun c2 => ?_) (fun c2 => ?_)
    · rcases inB_cases (m := 6) (by omega) a with ⟨a', ha', rfl, e1⟩ | ⟨-, e1⟩
      · rcases inB_cases (m := 6) (by omega) b with ⟨b', hb', rfl, e2⟩ | ⟨-, e2⟩
        · have wa := w.2.2 a' ha'
          have wb := w.2.2 b' hb'
          have r1 := rkM_le X.1.1 (X.1.2.1 a')
          have r2 := rkM_le X.1.1 (X.1.2.1 b')
          simp only [c1, e2, cl_nI (show a' < 2147483648 by omega), cl_nI (show b' < 2147483648 by omega), Bool.and_self, if_true] at hP
          refine AW.aload_n 22 dX8_mark_21 rfl (by rfl) ?_
          refine AW.getfield 25 dX8_mark_22 rfl fl_X8_7 (by assumption) (by rfl) ?_
          refine AW.iconst 26 dX8_mark_25 rfl (nI 1) rfl ?_
          refine AW.iload_n 27 dX8_mark_26 rfl (by rfl) ?_
          first | refine AW.iaddN 28 dX8_mark_27 rfl ?_ | refine AW.iadd 28 dX8_mark_27 rfl ?_
          refine AW.iaload 29 _ dX8_mark_28 rfl (by assumption) (by first | exact Or.inl rfl | exact Or.inr rfl) (ix_nI (by omega)) (by omega) ?_
          rw [nowF_c ha']
          refine AW.istore_n 30 dX8_mark_29 rfl (Nat.le_of_ble_eq_true rfl) rfl ?_
          refine AW.aload_n 31 dX8_mark_30 rfl (by rfl) ?_
          refine AW.getfield 34 dX8_mark_31 rfl fl_X8_7 (by assumption) (by rfl) ?_
          refine AW.iconst 35 dX8_mark_34 rfl (nI 1) rfl ?_
          refine AW.iload_n 36 dX8_mark_35 rfl (by rfl) ?_
          first | refine AW.iaddN 37 dX8_mark_36 rfl ?_ | refine AW.iadd 37 dX8_mark_36 rfl ?_
          refine AW.iaload 38 _ dX8_mark_37 rfl (by assumption) (by first | exact Or.inl rfl | exact Or.inr rfl) (ix_nI (by omega)) (by omega) ?_
          rw [nowF_c hb']
          have G := K.now
          have no : (decide (rkM X.1.1 (X.1.2.1 b') = rkM X.1.1 (X.1.2.1 a') + 1) && blM X.1.1 (X.1.2.1 a') (X.1.2.1 b')) = false → AW X8_mark 76 [some (.ref 196), some (.int (nI a')), some (.int (nI b')), some (.int (nI (X.1.2.1 a'))), some (.int (nI (X.1.2.1 b')))] [] N (0, 0) h P := by
            intro e
            rw [e] at hP
            refine AW.aload_n 77 dX8_mark_76 rfl (by rfl) ?_
            refine AW.bipush 79 dX8_mark_77 rfl (-3) rfl ?_
            refine AW.cV1 82 dX8_mark_79 rfl mi_X8_refuses mv_X8_refuses lk_X8_131 ⟨(Nat.le_of_ble_eq_true rfl), (Nat.le_of_ble_eq_true rfl)⟩ rfl (by assumption) rfl (Nat.le_of_ble_eq_true rfl) (r_no K ?_)
            intro h' K' F
            refine AW.iret dX8_mark_82 rfl ?_
            exact hP h' K' F
          refine AW.istore 40 dX8_mark_38 rfl (Nat.le_of_ble_eq_true rfl) rfl ?_
          refine AW.aload_n 41 dX8_mark_40 rfl (by rfl) ?_
          refine AW.iload 43 dX8_mark_41 rfl (by rfl) ?_
          refine AW.cV1 46 dX8_mark_43 rfl mi_X8_rankOf mv_X8_rankOf lk_X8_93 ⟨(Nat.le_of_ble_eq_true rfl), (Nat.le_of_ble_eq_true rfl)⟩ rfl (by assumption) rfl (Nat.le_of_ble_eq_true rfl) (c_rankOf G wb.1 ?_)
          refine AW.aload_n 47 dX8_mark_46 rfl (by rfl) ?_
          refine AW.iload_n 48 dX8_mark_47 rfl (by rfl) ?_
          refine AW.cV1 51 dX8_mark_48 rfl mi_X8_rankOf mv_X8_rankOf lk_X8_93 ⟨(Nat.le_of_ble_eq_true rfl), (Nat.le_of_ble_eq_true rfl)⟩ rfl (by assumption) rfl (Nat.le_of_ble_eq_true rfl) (c_rankOf G wa.1 ?_)
          refine AW.iconst 52 dX8_mark_51 rfl (nI 1) rfl ?_
          first | refine AW.iaddN 53 dX8_mark_52 rfl ?_ | refine AW.iadd 53 dX8_mark_52 rfl ?_
          refine AW.nne 76 56 dX8_mark_53 (by decide) rfl (by omega) (by omega) (fun c3 => ?_) (fun c3 => ?_)
          · exact no (by rw [decide_eq_false c3]; rfl)
          · refine AW.aload_n 57 dX8_mark_56 rfl (by rfl) ?_
            refine AW.iload_n 58 dX8_mark_57 rfl (by rfl) ?_
            refine AW.iload 60 dX8_mark_58 rfl (by rfl) ?_
            refine AW.cV2 63 dX8_mark_60 rfl mi_X8_isBelow mv_X8_isBelow lk_X8_171 ⟨(Nat.le_of_ble_eq_true rfl), (Nat.le_of_ble_eq_true rfl)⟩ rfl (by assumption) rfl (Nat.le_of_ble_eq_true rfl) (c_isBelow G wa.1 wb.1 ?_)
            refine AW.zeq 76 66 dX8_mark_63 (by decide) rfl (fun c4 => ?_) (fun c4 => ?_)
            · exact no (by rw [c4, Bool.and_false])
            · rw [c4, decide_eq_true c3] at hP
              obtain ⟨⟨s, s1, s2, s3⟩, m1⟩ := mk_ex wa wb c4 c3
              refine AW.aload_n 67 dX8_mark_66 rfl (by rfl) ?_
              refine AW.iload_n 68 dX8_mark_67 rfl (by rfl) ?_
              refine AW.iload 70 dX8_mark_68 rfl (by rfl) ?_
              refine AW.cV2 73 dX8_mark_70 rfl mi_X8_markOf mv_X8_markOf lk_X8_188 ⟨(Nat.le_of_ble_eq_true rfl), (Nat.le_of_ble_eq_true rfl)⟩ rfl (by assumption) rfl (Nat.le_of_ble_eq_true rfl) (r_markOf G wa.1 wb.1 s1 ⟨s2, s3⟩ m1 ?_)
              refine AW.goto 82 dX8_mark_73 (by decide) ?_
              refine AW.iret dX8_mark_82 rfl ?_
              exact hP h K FrR.refl
        · rw [e2] at c2; exact absurd c2 (by decide)
      · rw [e1] at c1; exact absurd c1 (by decide)
    · exact F (by rw [c2, Bool.and_false])
theorem r_waysTo {k r : Nat} {mk : Option Nat} {W : Nat → Int32} (K : RfAt h X) (D : LdAt h X.1.1) (hW : h 205 = .inl (0, (1430, .inl W))) (hk : k < catN X.1.1) (hr : rkM X.1.1 (tb X.1.1 k) = r + 1) (hmk : ∀ d, mk = some d → d < 10) (hP : P (some (.int (wsT X.1.1 W k r mk (catN X.1.1)))) N h) : AM X8_waysTo [.ref 196, .int (nI k), .int (nI r), .int (mkI mk)] N h P := by
  obtain ⟨⟨_, _, _, _, _, _, y196⟩, f, q, y2, y3, y4⟩ := id D
  have w := K.2.2.2.2.2.2.2.2
  have w2 := w.2.1
  have c6 := catN_le X.1.1 w.2.1
  have G := K.now
  have tk := tb_lt X.1.1 k
  have rk := rkM_le X.1.1 (tb X.1.1 k)
  obtain ⟨k5, k6⟩ := y4 k hk
  refine AM.of0 rfl (Nat.le_of_ble_eq_true rfl) rfl [some (.ref 196), some (.int (nI k)), some (.int (nI r)), some (.int (mkI mk)), none, none] rfl ?_
  refine AW.iconst 1 dX8_waysTo_0 rfl (nI 0) rfl ?_
  refine AW.istore 3 dX8_waysTo_1 rfl (Nat.le_of_ble_eq_true rfl) rfl ?_
  refine AW.iconst 4 dX8_waysTo_3 rfl (nI 0) rfl ?_
  refine AW.istore 6 dX8_waysTo_4 rfl (Nat.le_of_ble_eq_true rfl) rfl ?_
  have L : ∀ i j, j + i = catN X.1.1 → AW X8_waysTo 6 [some (.ref 196), some (.int (nI k)), some (.int (nI r)), some (.int (mkI mk)), some (.int (wsT X.1.1 W k r mk j)), some (.int (nI j))] [] N (0, 0) h P := by
    intro i
    induction i with
    | zero =>
      intro j hj
      refine AW.iload 8 dX8_waysTo_6 rfl (by rfl) ?_
      refine AW.aload_n 9 dX8_waysTo_8 rfl (by rfl) ?_
      refine AW.getfield 12 dX8_waysTo_9 rfl fl_X8_87 (by assumption) (by rfl) ?_
      refine AW.nge 104 15 dX8_waysTo_12 (by decide) rfl (by omega) (by omega) (fun c2 => ?_) (fun c2 => ?_)
      · obtain rfl : j = catN X.1.1 := by omega
        refine AW.iload 106 dX8_waysTo_104 rfl (by rfl) ?_
        refine AW.iret dX8_waysTo_106 rfl ?_
        exact hP
      · omega
    | succ i ih =>
      intro j hj
      have r2 := rkM_le X.1.1 (tb X.1.1 j)
      have t1 := tb_lt X.1.1 j
      obtain ⟨y5, y6⟩ := y4 j (by omega)
      have nx := ih (j + 1) (by omega)
      rw [wsT] at nx
      have no : ¬ (rkM X.1.1 (tb X.1.1 j) = r ∧ 0 < W j ∧ blM X.1.1 (tb X.1.1 j) (tb X.1.1 k) = true) → AW X8_waysTo 98 [some (.ref 196), some (.int (nI k)), some (.int (nI r)), some (.int (mkI mk)), some (.int (wsT X.1.1 W k r mk j)), some (.int (nI j))] [] N (0, 0) h P := by
        intro e
        rw [if_neg e] at nx
        refine AW.iinc1 101 dX8_waysTo_98 rfl (by rfl) rfl ?_
        refine AW.goto 6 dX8_waysTo_101 (by decide) ?_
        exact nx
      refine AW.iload 8 dX8_waysTo_6 rfl (by rfl) ?_
      refine AW.aload_n 9 dX8_waysTo_8 rfl (by rfl) ?_
      refine AW.getfield 12 dX8_waysTo_9 rfl fl_X8_87 (by assumption) (by rfl) ?_
      refine AW.nge 104 15 dX8_waysTo_12 (by decide) rfl (by omega) (by omega) (fun c2 => ?_) (fun c2 => ?_)
      · omega
      · refine AW.aload_n 16 dX8_waysTo_15 rfl (by rfl) ?_
        refine AW.getfield 19 dX8_waysTo_16 rfl fl_X8_31 (by assumption) (by rfl) ?_
        refine AW.iload 21 dX8_waysTo_19 rfl (by rfl) ?_
        refine AW.iaload 22 _ dX8_waysTo_21 rfl (by assumption) (by first | exact Or.inl rfl | exact Or.inr rfl) (ix_nI (by omega)) (by omega) ?_
        rw [y6]
        refine AW.iload_n 23 dX8_waysTo_22 rfl (by rfl) ?_
        refine AW.nne 98 26 dX8_waysTo_23 (by decide) rfl (by omega) (by omega) (fun c3 => ?_) (fun c3 => ?_)
        · exact no (fun q => c3 q.1)
        · refine AW.aload_n 27 dX8_waysTo_26 rfl (by rfl) ?_
          refine AW.getfield 30 dX8_waysTo_27 rfl fl_X8_34 (by assumption) (by rfl) ?_
          refine AW.iload 32 dX8_waysTo_30 rfl (by rfl) ?_
          refine AW.iaload 33 _ dX8_waysTo_32 rfl (by assumption) (by first | exact Or.inl rfl | exact Or.inr rfl) (ix_nI (by omega)) (by omega) ?_
          refine AW.if_le 98 36 dX8_waysTo_33 (by decide) rfl (fun c4 => ?_) (fun c4 => ?_)
          · exact no (fun q => absurd c4 (Int32.not_le.mpr q.2.1))
          · refine AW.aload_n 37 dX8_waysTo_36 rfl (by rfl) ?_
            refine AW.aload_n 38 dX8_waysTo_37 rfl (by rfl) ?_
            refine AW.getfield 41 dX8_waysTo_38 rfl fl_X8_28 (by assumption) (by rfl) ?_
            refine AW.iload 43 dX8_waysTo_41 rfl (by rfl) ?_
            refine AW.iaload 44 _ dX8_waysTo_43 rfl (by assumption) (by first | exact Or.inl rfl | exact Or.inr rfl) (ix_nI (by omega)) (by omega) ?_
            rw [y5]
            refine AW.aload_n 45 dX8_waysTo_44 rfl (by rfl) ?_
            refine AW.getfield 48 dX8_waysTo_45 rfl fl_X8_28 (by assumption) (by rfl) ?_
            refine AW.iload_n 49 dX8_waysTo_48 rfl (by rfl) ?_
            refine AW.iaload 50 _ dX8_waysTo_49 rfl (by assumption) (by first | exact Or.inl rfl | exact Or.inr rfl) (ix_nI (by omega)) (by omega) ?_
            rw [k5]
            refine AW.cV2 53 dX8_waysTo_50 rfl mi_X8_isBelow mv_X8_isBelow lk_X8_171 ⟨(Nat.le_of_ble_eq_true rfl), (Nat.le_of_ble_eq_true rfl)⟩ rfl (by assumption) rfl (Nat.le_of_ble_eq_true rfl) (c_isBelow G t1 tk ?_)
            refine AW.zeq 98 56 dX8_waysTo_53 (by decide) rfl (fun c5 => ?_) (fun c5 => ?_)
            · exact no (fun q => by rw [q.2.2] at c5; exact absurd c5 (by decide))
            · have yes : rkM X.1.1 (tb X.1.1 j) = r ∧ 0 < W j ∧ blM X.1.1 (tb X.1.1 j) (tb X.1.1 k) = true := ⟨c3, Int32.not_le.mp c4, c5⟩
              rw [if_pos yes] at nx
              have J1 : mkB mk (mkM X.1.1 (tb X.1.1 j) (tb X.1.1 k)) = true → AW X8_waysTo 84 [some (.ref 196), some (.int (nI k)), some (.int (nI r)), some (.int (mkI mk)), some (.int (wsT X.1.1 W k r mk j)), some (.int (nI j))] [.int (wsT X.1.1 W k r mk j)] N (0, 0) h P := by
                intro e
                rw [if_pos e] at nx
                refine AW.aload_n 85 dX8_waysTo_84 rfl (by rfl) ?_
                refine AW.getfield 88 dX8_waysTo_85 rfl fl_X8_34 (by assumption) (by rfl) ?_
                refine AW.iload 90 dX8_waysTo_88 rfl (by rfl) ?_
                refine AW.iaload 91 _ dX8_waysTo_90 rfl (by assumption) (by first | exact Or.inl rfl | exact Or.inr rfl) (ix_nI (by omega)) (by omega) ?_
                refine AW.goto 95 dX8_waysTo_91 (by decide) ?_
                refine AW.iadd 96 dX8_waysTo_95 rfl ?_
                refine AW.istore 98 dX8_waysTo_96 rfl (Nat.le_of_ble_eq_true rfl) rfl ?_
                refine AW.iinc1 101 dX8_waysTo_98 rfl (by rfl) rfl ?_
                refine AW.goto 6 dX8_waysTo_101 (by decide) ?_
                exact nx
              rcases mk with _ | d
              · refine AW.iload 58 dX8_waysTo_56 rfl (by rfl) ?_
                refine AW.iload_n 59 dX8_waysTo_58 rfl (by rfl) ?_
                refine AW.iconst 60 dX8_waysTo_59 rfl (-1) rfl ?_
                refine AW.icmp_eq 84 63 dX8_waysTo_60 (by decide) rfl (fun c6 => ?_) (fun c6 => ?_)
                · exact J1 rfl
                · exact absurd rfl c6
              · have hd := hmk d rfl
                have e1 : mkI (some d) = nI d := rfl
                rw [e1]
                refine AW.iload 58 dX8_waysTo_56 rfl (by rfl) ?_
                refine AW.iload_n 59 dX8_waysTo_58 rfl (by rfl) ?_
                refine AW.iconst 60 dX8_waysTo_59 rfl (-1) rfl ?_
                refine AW.icmp_eq 84 63 dX8_waysTo_60 (by decide) rfl (fun c6 => ?_) (fun c6 => ?_)
                · exfalso
                  have := congrArg Int32.toInt c6
                  rw [nI_toInt (by omega), show (-1 : Int32).toInt = -1 from rfl] at this
                  omega
                · refine AW.aload_n 64 dX8_waysTo_63 rfl (by rfl) ?_
                  refine AW.aload_n 65 dX8_waysTo_64 rfl (by rfl) ?_
                  refine AW.getfield 68 dX8_waysTo_65 rfl fl_X8_28 (by assumption) (by rfl) ?_
                  refine AW.iload 70 dX8_waysTo_68 rfl (by rfl) ?_
                  refine AW.iaload 71 _ dX8_waysTo_70 rfl (by assumption) (by first | exact Or.inl rfl | exact Or.inr rfl) (ix_nI (by omega)) (by omega) ?_
                  rw [y5]
                  refine AW.aload_n 72 dX8_waysTo_71 rfl (by rfl) ?_
                  refine AW.getfield 75 dX8_waysTo_72 rfl fl_X8_28 (by assumption) (by rfl) ?_
                  refine AW.iload_n 76 dX8_waysTo_75 rfl (by rfl) ?_
                  refine AW.iaload 77 _ dX8_waysTo_76 rfl (by assumption) (by first | exact Or.inl rfl | exact Or.inr rfl) (ix_nI (by omega)) (by omega) ?_
                  rw [k5]
                  have wj := WfC_tb w.1 w2 (show j < catN X.1.1 by omega)
                  have wk := WfC_tb w.1 w2 hk
                  obtain ⟨⟨s, s1, s2, s3⟩, m1⟩ := mk_ex wj wk c5 (by omega)
                  refine AW.cV2 80 dX8_waysTo_77 rfl mi_X8_markOf mv_X8_markOf lk_X8_188 ⟨(Nat.le_of_ble_eq_true rfl), (Nat.le_of_ble_eq_true rfl)⟩ rfl (by assumption) rfl (Nat.le_of_ble_eq_true rfl) (r_markOf G t1 tk s1 ⟨s2, s3⟩ m1 ?_)
                  refine AW.iload_n 81 dX8_waysTo_80 rfl (by rfl) ?_
                  have hmk2 := mkM_le X.1.1 (tb X.1.1 j) (tb X.1.1 k)
                  refine AW.nne 94 84 dX8_waysTo_81 (by decide) rfl (by omega) (by omega) (fun c7 => ?_) (fun c7 => ?_)
                  · have e : mkB (some d) (mkM X.1.1 (tb X.1.1 j) (tb X.1.1 k)) = false := decide_eq_false c7
                    rw [e, if_neg (by decide)] at nx
                    refine AW.iconst 95 dX8_waysTo_94 rfl (nI 0) rfl ?_
                    refine AW.iadd 96 dX8_waysTo_95 rfl ?_
                    refine AW.istore 98 dX8_waysTo_96 rfl (Nat.le_of_ble_eq_true rfl) rfl ?_
                    refine AW.iinc1 101 dX8_waysTo_98 rfl (by rfl) rfl ?_
                    refine AW.goto 6 dX8_waysTo_101 (by decide) ?_
                    exact nx
                  · exact J1 (decide_eq_true c7)
  exact L (catN X.1.1) 0 (by omega)
end REFG
