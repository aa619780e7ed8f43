/-! THE MODEL, fourteenth part: what is asked of one part, counts, covers -/
def szM (n c x : Nat) : Nat := cnt (fun y => if rw8 c y = rw8 c x then 1 else 0) n
def alM (n c m : Nat) : Nat := cnt (fun x => if szM n c x = 1 then 1 else 0) m
def mxM (n c : Nat) : Nat → Nat
  | 0 => 0
  | x + 1 => if mxM n c x < szM n c x then szM n c x else mxM n c x
def cvB (n c : Nat) (up : Bool) (k : Nat) : Bool := if up then decide (rkM n (tb n k) = rkM n c + 1) && blM n c (tb n k) else decide (rkM n (tb n k) + 1 = rkM n c) && blM n (tb n k) c
def cvM (n c : Nat) (up : Bool) : Nat := cnt (fun k => b01 (cvB n c up k)) (catN n)
def propM (n c w : Nat) : Nat := if w = 0 then numM n c else if w = 1 then rkM n c else if w = 2 then alM n c n else if w = 3 then mxM n c n else cvM n c (decide (w = 4))
def amtM (n w : Nat) : Nat := if w = 0 then n else if w = 1 then catN n else cnt (fun k => if rkM n (tb n k) = w - 2 then 1 else 0) (catN n)
def ituM (n : Nat) : Nat → Nat → Nat
  | 0, c => c
  | x + 1, c => tuM n (ituM n x c)
def evM (n : Nat) : Nat := cnt (fun k => if ituM n (n / 2) (tb n k) = tb n k then 1 else 0) (catN n)
def clM (n c : Nat) : Nat → Nat → Nat → Option Nat
  | 0, _, _ => none
  | m + 1, k, left => if cvB n c true k = true then (if left = 0 then some k else clM n c m (k + 1) (left - 1)) else clM n c m (k + 1) left
def cvlM (n c i : Nat) : Int32 := match clM n c (catN n) 0 i with | some k => nI k | none => -1
theorem szM_le (n c x : Nat) : szM n c x ≤ n := by
  have : ∀ m, cnt (fun y => if rw8 c y = rw8 c x then 1 else 0) m ≤ m := by
    intro m
    induction m with
    | zero => exact Nat.le_refl _
    | succ m ih => rw [cnt]; split <;> omega
  exact this n
theorem mxM_le (n c : Nat) : ∀ m, mxM n c m ≤ n := by
  intro m
  induction m with
  | zero => exact Nat.zero_le _
  | succ m ih => rw [mxM]; have := szM_le n c m; split <;> omega
section REFD
variable {N n : Nat} {h : aH} {P : aP} {X : aX}
theorem LdAt.g202 {e : aE} (D : LdAt h n) : LdAt (hs h 202 e) n := by
  obtain ⟨⟨ps, ty, at_, fa, od, d, x⟩, f, r, y1, y2, y3⟩ := D
  exact ⟨⟨ps, ty, at_, fa, od, d, by rw [hs_ne (by decide), x]⟩, f, r, by rw [hs_ne (by decide), y1], by rw [hs_ne (by decide), y2], y3⟩
theorem r_sizeOf {c x : Nat} (G : NowAt h n) (hc : c < 16777216) (hx : x < n) (hP : P (some (.int (nI (szM n c x)))) N h) : AM X8_sizeOf [.ref 196, .int (nI c), .int (nI x)] N h P := by
  obtain ⟨⟨ps, ty, la, ma, at_, fa, od, d, g1⟩, ⟨f, g2, g3⟩, g5, g6⟩ := id G
  refine AM.of0 rfl (Nat.le_of_ble_eq_true rfl) rfl [some (.ref 196), some (.int (nI c)), some (.int (nI x)), none, none] rfl ?_
  refine AW.iconst 1 dX8_sizeOf_0 rfl (nI 0) rfl ?_
  refine AW.istore_n 2 dX8_sizeOf_1 rfl (Nat.le_of_ble_eq_true rfl) rfl ?_
  refine AW.iconst 3 dX8_sizeOf_2 rfl (nI 0) rfl ?_
  refine AW.istore 5 dX8_sizeOf_3 rfl (Nat.le_of_ble_eq_true rfl) rfl ?_
  have L : ∀ k y, y + k = n → AW X8_sizeOf 5 [some (.ref 196), some (.int (nI c)), some (.int (nI x)), some (.int (nI (cnt (fun y => if rw8 c y = rw8 c x then 1 else 0) y))), some (.int (nI y))] [] N (0, 0) h P := by
    intro k
    induction k with
    | zero =>
      intro y hy
      refine AW.iload 7 dX8_sizeOf_5 rfl (by rfl) ?_
      refine AW.aload_n 8 dX8_sizeOf_7 rfl (by rfl) ?_
      refine AW.getfield 11 dX8_sizeOf_8 rfl fl_X8_7 (by assumption) (by rfl) ?_
      refine AW.iconst 12 dX8_sizeOf_11 rfl (nI 0) rfl ?_
      refine AW.iaload 13 _ dX8_sizeOf_12 rfl (by assumption) (by first | exact Or.inl rfl | exact Or.inr rfl) (ix_nI (by omega)) (by omega) ?_
      rw [g3]
      refine AW.nge 44 16 dX8_sizeOf_13 (by decide) rfl (by omega) (by omega) (fun c2 => ?_) (fun c2 => ?_)
      · obtain rfl : y = n := by omega
        refine AW.iload_n 45 dX8_sizeOf_44 rfl (by rfl) ?_
        refine AW.iret dX8_sizeOf_45 rfl ?_
        exact hP
      · omega
    | succ k ih =>
      intro y hy
      have r1 := rw8_lt c x
      have r2 := rw8_lt c y
      refine AW.iload 7 dX8_sizeOf_5 rfl (by rfl) ?_
      refine AW.aload_n 8 dX8_sizeOf_7 rfl (by rfl) ?_
      refine AW.getfield 11 dX8_sizeOf_8 rfl fl_X8_7 (by assumption) (by rfl) ?_
      refine AW.iconst 12 dX8_sizeOf_11 rfl (nI 0) rfl ?_
      refine AW.iaload 13 _ dX8_sizeOf_12 rfl (by assumption) (by first | exact Or.inl rfl | exact Or.inr rfl) (ix_nI (by omega)) (by omega) ?_
      rw [g3]
      refine AW.nge 44 16 dX8_sizeOf_13 (by decide) rfl (by omega) (by omega) (fun c2 => ?_) (fun c2 => ?_)
      · omega
      · refine AW.iload_n 17 dX8_sizeOf_16 rfl (by rfl) ?_
        refine AW.iload_n 18 dX8_sizeOf_17 rfl (by rfl) ?_
        refine AW.iload 20 dX8_sizeOf_18 rfl (by rfl) ?_
        refine AW.cS2 23 dX8_sizeOf_20 rfl mi_X8_rowOf ms_X8_rowOf lk_X8_64 ⟨(Nat.le_of_ble_eq_true rfl), (Nat.le_of_ble_eq_true rfl)⟩ rfl (Nat.le_of_ble_eq_true rfl) (c_rowOf (by omega) hc ?_)
        refine AW.iload_n 24 dX8_sizeOf_23 rfl (by rfl) ?_
        refine AW.iload_n 25 dX8_sizeOf_24 rfl (by rfl) ?_
        refine AW.cS2 28 dX8_sizeOf_25 rfl mi_X8_rowOf ms_X8_rowOf lk_X8_64 ⟨(Nat.le_of_ble_eq_true rfl), (Nat.le_of_ble_eq_true rfl)⟩ rfl (Nat.le_of_ble_eq_true rfl) (c_rowOf (by omega) hc ?_)
        have J : ∀ v, v = (if rw8 c y = rw8 c x then 1 else 0) → AW X8_sizeOf 36 [some (.ref 196), some (.int (nI c)), some (.int (nI x)), some (.int (nI (cnt (fun y => if rw8 c y = rw8 c x then 1 else 0) y))), some (.int (nI y))] [.int (nI v), .int (nI (cnt (fun y => if rw8 c y = rw8 c x then 1 else 0) y))] N (0, 0) h P := by
          intro v hv
          first | refine AW.iaddN 37 dX8_sizeOf_36 rfl ?_ | refine AW.iadd 37 dX8_sizeOf_36 rfl ?_
          refine AW.istore_n 38 dX8_sizeOf_37 rfl (Nat.le_of_ble_eq_true rfl) rfl ?_
          refine AW.iinc1 41 dX8_sizeOf_38 rfl (by rfl) rfl ?_
          refine AW.goto 5 dX8_sizeOf_41 (by decide) ?_
          rw [hv]
          exact ih (y + 1) (by omega)
        refine AW.nne 35 31 dX8_sizeOf_28 (by decide) rfl (by omega) (by omega) (fun c3 => ?_) (fun c3 => ?_)
        · refine AW.iconst 36 dX8_sizeOf_35 rfl (nI 0) rfl ?_
          exact J _ (by rw [if_neg c3])
        · refine AW.iconst 32 dX8_sizeOf_31 rfl (nI 1) rfl ?_
          refine AW.goto 36 dX8_sizeOf_32 (by decide) ?_
          exact J _ (by rw [if_pos c3])
  exact L n 0 (by omega)
theorem r_blocks {c : Nat} {b : Bool} (G : NowAt h n) (hc : c < 16777216) (hP : P (some (.int (nI (if b then mxM n c n else alM n c n)))) N h) : AM X8_blocks [.ref 196, .int (nI c), .int (nI (b01 b))] N h P := by
  obtain ⟨⟨ps, ty, la, ma, at_, fa, od, d, g1⟩, ⟨f, g2, g3⟩, g5, g6⟩ := id G
  refine AM.of0 rfl (Nat.le_of_ble_eq_true rfl) rfl [some (.ref 196), some (.int (nI c)), some (.int (nI (b01 b))), none, none, none, none] rfl ?_
  refine AW.iconst 1 dX8_blocks_0 rfl (nI 0) rfl ?_
  refine AW.istore_n 2 dX8_blocks_1 rfl (Nat.le_of_ble_eq_true rfl) rfl ?_
  refine AW.iconst 3 dX8_blocks_2 rfl (nI 0) rfl ?_
  refine AW.istore 5 dX8_blocks_3 rfl (Nat.le_of_ble_eq_true rfl) rfl ?_
  refine AW.iconst 6 dX8_blocks_5 rfl (nI 0) rfl ?_
  refine AW.istore 8 dX8_blocks_6 rfl (Nat.le_of_ble_eq_true rfl) rfl ?_
  have L : ∀ k x, x + k = n → ∀ v6, AW X8_blocks 8 [some (.ref 196), some (.int (nI c)), some (.int (nI (b01 b))), some (.int (nI (alM n c x))), some (.int (nI (mxM n c x))), some (.int (nI x)), v6] [] N (0, 0) h P := by
    intro k
    induction k with
    | zero =>
      intro x hx v6
      refine AW.iload 10 dX8_blocks_8 rfl (by rfl) ?_
      refine AW.aload_n 11 dX8_blocks_10 rfl (by rfl) ?_
      refine AW.getfield 14 dX8_blocks_11 rfl fl_X8_7 (by assumption) (by rfl) ?_
      refine AW.iconst 15 dX8_blocks_14 rfl (nI 0) rfl ?_
      refine AW.iaload 16 _ dX8_blocks_15 rfl (by assumption) (by first | exact Or.inl rfl | exact Or.inr rfl) (ix_nI (by omega)) (by omega) ?_
      rw [g3]
      refine AW.nge 64 19 dX8_blocks_16 (by decide) rfl (by omega) (by omega) (fun c2 => ?_) (fun c2 => ?_)
      · obtain rfl : x = n := by omega
        refine AW.iload_n 65 dX8_blocks_64 rfl (by rfl) ?_
        refine AW.zeq 73 68 dX8_blocks_65 (by decide) rfl (fun c3 => ?_) (fun c3 => ?_)
        · rw [c3] at hP
          refine AW.iload_n 74 dX8_blocks_73 rfl (by rfl) ?_
          refine AW.iret dX8_blocks_74 rfl ?_
          exact hP
        · rw [c3] at hP
          refine AW.iload 70 dX8_blocks_68 rfl (by rfl) ?_
          refine AW.goto 74 dX8_blocks_70 (by decide) ?_
          refine AW.iret dX8_blocks_74 rfl ?_
          exact hP
      · omega
    | succ k ih =>
      intro x hx v6
      have s1 := szM_le n c x
      have s2 := mxM_le n c x
      refine AW.iload 10 dX8_blocks_8 rfl (by rfl) ?_
      refine AW.aload_n 11 dX8_blocks_10 rfl (by rfl) ?_
      refine AW.getfield 14 dX8_blocks_11 rfl fl_X8_7 (by assumption) (by rfl) ?_
      refine AW.iconst 15 dX8_blocks_14 rfl (nI 0) rfl ?_
      refine AW.iaload 16 _ dX8_blocks_15 rfl (by assumption) (by first | exact Or.inl rfl | exact Or.inr rfl) (ix_nI (by omega)) (by omega) ?_
      rw [g3]
      refine AW.nge 64 19 dX8_blocks_16 (by decide) rfl (by omega) (by omega) (fun c2 => ?_) (fun c2 => ?_)
      · omega
      · refine AW.aload_n 20 dX8_blocks_19 rfl (by rfl) ?_
        refine AW.iload_n 21 dX8_blocks_20 rfl (by rfl) ?_
        refine AW.iload 23 dX8_blocks_21 rfl (by rfl) ?_
        refine AW.cV2 26 dX8_blocks_23 rfl mi_X8_sizeOf mv_X8_sizeOf lk_X8_168 ⟨(Nat.le_of_ble_eq_true rfl), (Nat.le_of_ble_eq_true rfl)⟩ rfl (by assumption) rfl (Nat.le_of_ble_eq_true rfl) (r_sizeOf G hc (by omega) ?_)
        refine AW.istore 28 dX8_blocks_26 rfl (Nat.le_of_ble_eq_true rfl) rfl ?_
        refine AW.iload_n 29 dX8_blocks_28 rfl (by rfl) ?_
        refine AW.iload 31 dX8_blocks_29 rfl (by rfl) ?_
        refine AW.iconst 32 dX8_blocks_31 rfl (nI 1) rfl ?_
        have J : ∀ v, v = (if szM n c x = 1 then 1 else 0) → AW X8_blocks 40 [some (.ref 196), some (.int (nI c)), some (.int (nI (b01 b))), some (.int (nI (alM n c x))), some (.int (nI (mxM n c x))), some (.int (nI x)), some (.int (nI (szM n c x)))] [.int (nI v), .int (nI (alM n c x))] N (0, 0) h P := by
          intro v hv
          first | refine AW.iaddN 41 dX8_blocks_40 rfl ?_ | refine AW.iadd 41 dX8_blocks_40 rfl ?_
          refine AW.istore_n 42 dX8_blocks_41 rfl (Nat.le_of_ble_eq_true rfl) rfl ?_
          refine AW.iload 44 dX8_blocks_42 rfl (by rfl) ?_
          refine AW.iload 46 dX8_blocks_44 rfl (by rfl) ?_
          rw [hv]
          refine AW.nle 54 49 dX8_blocks_46 (by decide) rfl (by omega) (by omega) (fun c4 => ?_) (fun c4 => ?_)
          · refine AW.iload 56 dX8_blocks_54 rfl (by rfl) ?_
            refine AW.istore 58 dX8_blocks_56 rfl (Nat.le_of_ble_eq_true rfl) rfl ?_
            refine AW.iinc1 61 dX8_blocks_58 rfl (by rfl) rfl ?_
            refine AW.goto 8 dX8_blocks_61 (by decide) ?_
            have := ih (x + 1) (by omega) (some (.int (nI (szM n c x))))
            rw [mxM, if_neg (by omega)] at this
            exact this
          · refine AW.iload 51 dX8_blocks_49 rfl (by rfl) ?_
            refine AW.goto 56 dX8_blocks_51 (by decide) ?_
            refine AW.istore 58 dX8_blocks_56 rfl (Nat.le_of_ble_eq_true rfl) rfl ?_
            refine AW.iinc1 61 dX8_blocks_58 rfl (by rfl) rfl ?_
            refine AW.goto 8 dX8_blocks_61 (by decide) ?_
            have := ih (x + 1) (by omega) (some (.int (nI (szM n c x))))
            rw [mxM, if_pos c4] at this
            exact this
        refine AW.nne 39 35 dX8_blocks_32 (by decide) rfl (by omega) (by omega) (fun c3 => ?_) (fun c3 => ?_)
        · refine AW.iconst 40 dX8_blocks_39 rfl (nI 0) rfl ?_
          exact J _ (by rw [if_neg c3])
        · refine AW.iconst 36 dX8_blocks_35 rfl (nI 1) rfl ?_
          refine AW.goto 40 dX8_blocks_36 (by decide) ?_
          exact J _ (by rw [if_pos c3])
  exact L n 0 (by omega) _
theorem r_covering {c : Nat} {b : Bool} (K0 : RfAt h X) (hc : c < 16777216) (hP : ∀ h', RfAt h' X → LdAt h' X.1.1 → FrM h h' → P (some (.int (nI (cvM X.1.1 c b)))) N h') : AM X8_covering [.ref 196, .int (nI c), .int (nI (b01 b))] N h P := by
  obtain ⟨_, _, _, _, _, _, x196, -⟩ := id K0.1
  have w := K0.2.2.2.2.2.2.2.2
  refine AM.of0 rfl (Nat.le_of_ble_eq_true rfl) rfl [some (.ref 196), some (.int (nI c)), some (.int (nI (b01 b))), none, none, none, none] rfl ?_
  refine AW.aload_n 1 dX8_covering_0 rfl (by rfl) ?_
  refine AW.cV0 4 dX8_covering_1 rfl mi_X8_lay mv_X8_lay lk_X8_97 ⟨(Nat.le_of_ble_eq_true rfl), (Nat.le_of_ble_eq_true rfl)⟩ rfl (by assumption) rfl (Nat.le_of_ble_eq_true rfl) (r_lay K0 ?_)
  intro H K D F1
  obtain ⟨⟨_, _, _, _, _, _, y196⟩, f, r, y2, y3, y4⟩ := id D
  have G := K.now
  have c6 := catN_le X.1.1 w.2.1
  have r1 := rkM_le X.1.1 c
  have w2 := w.2.1
  refine AW.aload_n 5 dX8_covering_4 rfl (by rfl) ?_
  refine AW.iload_n 6 dX8_covering_5 rfl (by rfl) ?_
  refine AW.cV1 9 dX8_covering_6 rfl mi_X8_rankOf mv_X8_rankOf lk_X8_93 ⟨(Nat.le_of_ble_eq_true rfl), (Nat.le_of_ble_eq_true rfl)⟩ rfl (by assumption) rfl (Nat.le_of_ble_eq_true rfl) (c_rankOf G hc ?_)
  refine AW.istore_n 10 dX8_covering_9 rfl (Nat.le_of_ble_eq_true rfl) rfl ?_
  refine AW.iconst 11 dX8_covering_10 rfl (nI 0) rfl ?_
  refine AW.istore 13 dX8_covering_11 rfl (Nat.le_of_ble_eq_true rfl) rfl ?_
  refine AW.iconst 14 dX8_covering_13 rfl (nI 0) rfl ?_
  refine AW.istore 16 dX8_covering_14 rfl (Nat.le_of_ble_eq_true rfl) rfl ?_
  have L : ∀ k x, x + k = catN X.1.1 → ∀ v6, AW X8_covering 16 [some (.ref 196), some (.int (nI c)), some (.int (nI (b01 b))), some (.int (nI (rkM X.1.1 c))), some (.int (nI (cnt (fun k => b01 (cvB X.1.1 c b k)) x))), some (.int (nI x)), v6] [] N (0, 0) H P := by
    intro k
    induction k with
    | zero =>
      intro x hx v6
      refine AW.iload 18 dX8_covering_16 rfl (by rfl) ?_
      refine AW.aload_n 19 dX8_covering_18 rfl (by rfl) ?_
      refine AW.getfield 22 dX8_covering_19 rfl fl_X8_87 (by assumption) (by rfl) ?_
      refine AW.nge 121 25 dX8_covering_22 (by decide) rfl (by omega) (by omega) (fun c2 => ?_) (fun c2 => ?_)
      · obtain rfl : x = catN X.1.1 := by omega
        refine AW.iload 123 dX8_covering_121 rfl (by rfl) ?_
        refine AW.iret dX8_covering_123 rfl ?_
        exact hP H K D F1
      · omega
    | succ k ih =>
      intro x hx v6
      have r2 := rkM_le X.1.1 (tb X.1.1 x)
      have t1 := tb_lt X.1.1 x
      obtain ⟨y5, y6⟩ := y4 x (by omega)
      refine AW.iload 18 dX8_covering_16 rfl (by rfl) ?_
      refine AW.aload_n 19 dX8_covering_18 rfl (by rfl) ?_
      refine AW.getfield 22 dX8_covering_19 rfl fl_X8_87 (by assumption) (by rfl) ?_
      refine AW.nge 121 25 dX8_covering_22 (by decide) rfl (by omega) (by omega) (fun c2 => ?_) (fun c2 => ?_)
      · omega
      · refine AW.iload_n 26 dX8_covering_25 rfl (by rfl) ?_
        have J : ∀ t, t = cvB X.1.1 c b x → AW X8_covering 98 [some (.ref 196), some (.int (nI c)), some (.int (nI (b01 b))), some (.int (nI (rkM X.1.1 c))), some (.int (nI (cnt (fun k => b01 (cvB X.1.1 c b k)) x))), some (.int (nI x)), v6] [.int (nI (b01 t))] N (0, 0) H P := by
          intro t ht
          refine AW.istore 100 dX8_covering_98 rfl (Nat.le_of_ble_eq_true rfl) rfl ?_
          refine AW.iload 102 dX8_covering_100 rfl (by rfl) ?_
          refine AW.iload 104 dX8_covering_102 rfl (by rfl) ?_
          refine AW.zeq 111 107 dX8_covering_104 (by decide) rfl (fun c5 => ?_) (fun c5 => ?_)
          · refine AW.iconst 112 dX8_covering_111 rfl (nI 0) rfl ?_
            first | refine AW.iaddN 113 dX8_covering_112 rfl ?_ | refine AW.iadd 113 dX8_covering_112 rfl ?_
            refine AW.istore 115 dX8_covering_113 rfl (Nat.le_of_ble_eq_true rfl) rfl ?_
            refine AW.iinc1 118 dX8_covering_115 rfl (by rfl) rfl ?_
            refine AW.goto 16 dX8_covering_118 (by decide) ?_
            have := ih (x + 1) (by omega) (some (.int (nI (b01 t))))
            rw [cnt, ← ht, c5] at this
            rw [c5]
            exact this
          · refine AW.iconst 108 dX8_covering_107 rfl (nI 1) rfl ?_
            refine AW.goto 112 dX8_covering_108 (by decide) ?_
            first | refine AW.iaddN 113 dX8_covering_112 rfl ?_ | refine AW.iadd 113 dX8_covering_112 rfl ?_
            refine AW.istore 115 dX8_covering_113 rfl (Nat.le_of_ble_eq_true rfl) rfl ?_
            refine AW.iinc1 118 dX8_covering_115 rfl (by rfl) rfl ?_
            refine AW.goto 16 dX8_covering_118 (by decide) ?_
            have := ih (x + 1) (by omega) (some (.int (nI (b01 t))))
            rw [cnt, ← ht, c5] at this
            rw [c5]
            exact this
        refine AW.zeq 65 29 dX8_covering_26 (by decide) rfl (fun c3 => ?_) (fun c3 => ?_)
        · refine AW.aload_n 66 dX8_covering_65 rfl (by rfl) ?_
          refine AW.getfield 69 dX8_covering_66 rfl fl_X8_31 (by assumption) (by rfl) ?_
          refine AW.iload 71 dX8_covering_69 rfl (by rfl) ?_
          refine AW.iaload 72 _ dX8_covering_71 rfl (by assumption) (by first | exact Or.inl rfl | exact Or.inr rfl) (ix_nI (by omega)) (by omega) ?_
          rw [y6]
          refine AW.iload_n 73 dX8_covering_72 rfl (by rfl) ?_
          refine AW.iconst 74 dX8_covering_73 rfl (nI 1) rfl ?_
          refine AW.isub 75 dX8_covering_74 rfl ?_
          have J0 : ¬ (rkM X.1.1 (tb X.1.1 x) + 1 = rkM X.1.1 c) → AW X8_covering 97 [some (.ref 196), some (.int (nI c)), some (.int (nI (b01 b))), some (.int (nI (rkM X.1.1 c))), some (.int (nI (cnt (fun k => b01 (cvB X.1.1 c b k)) x))), some (.int (nI x)), v6] [] N (0, 0) H P := by
            intro e
            refine AW.iconst 98 dX8_covering_97 rfl (nI 0) rfl ?_
            exact J false (by rw [cvB, c3, if_neg (by decide), decide_eq_false e]; rfl)
          rcases e : rkM X.1.1 c with _ | q
          · rw [e] at J0
            refine AW.icmp_ne 97 78 dX8_covering_75 (by decide) rfl (fun c4 => ?_) (fun c4 => ?_)
            · exact J0 (by omega)
            · exfalso
              have c4 : nI (rkM X.1.1 (tb X.1.1 x)) = nI 0 - nI 1 := c4
              have := congrArg Int32.toInt c4
              rw [nI_toInt (by omega), show (nI 0 - nI 1).toInt = -1 by decide] at this
              omega
          · rw [e] at J0
            rw [show nI (q + 1) - nI 1 = nI q from nI_pred q]
            refine AW.nne 97 78 dX8_covering_75 (by decide) rfl (by omega) (by omega) (fun c4 => ?_) (fun c4 => ?_)
            · exact J0 (by omega)
            · refine AW.aload_n 79 dX8_covering_78 rfl (by rfl) ?_
              refine AW.aload_n 80 dX8_covering_79 rfl (by rfl) ?_
              refine AW.getfield 83 dX8_covering_80 rfl fl_X8_28 (by assumption) (by rfl) ?_
              refine AW.iload 85 dX8_covering_83 rfl (by rfl) ?_
              refine AW.iaload 86 _ dX8_covering_85 rfl (by assumption) (by first | exact Or.inl rfl | exact Or.inr rfl) (ix_nI (by omega)) (by omega) ?_
              rw [y5]
              refine AW.iload_n 87 dX8_covering_86 rfl (by rfl) ?_
              refine AW.cV2 90 dX8_covering_87 rfl mi_X8_isBelow mv_X8_isBelow lk_X8_171 ⟨(Nat.le_of_ble_eq_true rfl), (Nat.le_of_ble_eq_true rfl)⟩ rfl (by assumption) rfl (Nat.le_of_ble_eq_true rfl) (c_isBelow G t1 hc ?_)
              refine AW.zeq 97 93 dX8_covering_90 (by decide) rfl (fun c5 => ?_) (fun c5 => ?_)
              · refine AW.iconst 98 dX8_covering_97 rfl (nI 0) rfl ?_
                rw [← e]
                exact J false (by rw [cvB, c3, if_neg (by decide), c5, Bool.and_false])
              · refine AW.iconst 94 dX8_covering_93 rfl (nI 1) rfl ?_
                refine AW.goto 98 dX8_covering_94 (by decide) ?_
                rw [← e]
                exact J true (by rw [cvB, c3, if_neg (by decide), c5, decide_eq_true (by omega)]; rfl)
        · refine AW.aload_n 30 dX8_covering_29 rfl (by rfl) ?_
          refine AW.getfield 33 dX8_covering_30 rfl fl_X8_31 (by assumption) (by rfl) ?_
          refine AW.iload 35 dX8_covering_33 rfl (by rfl) ?_
          refine AW.iaload 36 _ dX8_covering_35 rfl (by assumption) (by first | exact Or.inl rfl | exact Or.inr rfl) (ix_nI (by omega)) (by omega) ?_
          rw [y6]
          refine AW.iload_n 37 dX8_covering_36 rfl (by rfl) ?_
          refine AW.iconst 38 dX8_covering_37 rfl (nI 1) rfl ?_
          first | refine AW.iaddN 39 dX8_covering_38 rfl ?_ | refine AW.iadd 39 dX8_covering_38 rfl ?_
          refine AW.nne 61 42 dX8_covering_39 (by decide) rfl (by omega) (by omega) (fun c4 => ?_) (fun c4 => ?_)
          · refine AW.iconst 62 dX8_covering_61 rfl (nI 0) rfl ?_
            refine AW.goto 98 dX8_covering_62 (by decide) ?_
            exact J false (by rw [cvB, c3, if_pos rfl, decide_eq_false c4]; rfl)
          · refine AW.aload_n 43 dX8_covering_42 rfl (by rfl) ?_
            refine AW.iload_n 44 dX8_covering_43 rfl (by rfl) ?_
            refine AW.aload_n 45 dX8_covering_44 rfl (by rfl) ?_
            refine AW.getfield 48 dX8_covering_45 rfl fl_X8_28 (by assumption) (by rfl) ?_
            refine AW.iload 50 dX8_covering_48 rfl (by rfl) ?_
            refine AW.iaload 51 _ dX8_covering_50 rfl (by assumption) (by first | exact Or.inl rfl | exact Or.inr rfl) (ix_nI (by omega)) (by omega) ?_
            rw [y5]
            refine AW.cV2 54 dX8_covering_51 rfl mi_X8_isBelow mv_X8_isBelow lk_X8_171 ⟨(Nat.le_of_ble_eq_true rfl), (Nat.le_of_ble_eq_true rfl)⟩ rfl (by assumption) rfl (Nat.le_of_ble_eq_true rfl) (c_isBelow G hc t1 ?_)
            refine AW.zeq 61 57 dX8_covering_54 (by decide) rfl (fun c5 => ?_) (fun c5 => ?_)
            · refine AW.iconst 62 dX8_covering_61 rfl (nI 0) rfl ?_
              refine AW.goto 98 dX8_covering_62 (by decide) ?_
              exact J false (by rw [cvB, c3, if_pos rfl, c5, Bool.and_false])
            · refine AW.iconst 58 dX8_covering_57 rfl (nI 1) rfl ?_
              refine AW.goto 98 dX8_covering_58 (by decide) ?_
              exact J true (by rw [cvB, c3, if_pos rfl, c5, decide_eq_true c4]; rfl)
  exact L (catN X.1.1) 0 (by omega) _
end REFD
