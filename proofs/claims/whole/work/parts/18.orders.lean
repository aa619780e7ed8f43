/-! ORDERS: the text tx of len bytes, read from the place at -/
def skB (tx : Nat → Nat) (len : Nat) : Nat → Nat → Nat
  | 0, a => a
  | k + 1, a => if a < len then (if tx a = 32 then skB tx len k (a + 1) else a) else a
/-- the first place from a on that is no blank -/
def skF (tx : Nat → Nat) (len a : Nat) : Nat := skB tx len (len - a) a
def dgB (tx : Nat → Nat) (len a : Nat) : Bool := decide (a < len) && decide (48 ≤ tx a ∧ tx a ≤ 57)
def isB (tx : Nat → Nat) (len a c : Nat) : Bool := decide (a < len) && decide (tx a = c)
/-- at most k digits more: their number so far d, the value so far v, the place -/
def rdD (tx : Nat → Nat) (len : Nat) : Nat → Nat → Nat → Nat → Nat × Nat × Nat
  | 0, a, d, v => (a, d, v)
  | k + 1, a, d, v => if dgB tx len a then rdD tx len k (a + 1) (d + 1) (10 * v + (tx a - 48)) else (a, d, v)
/-- a number: the place behind it (or of the fault), whether it is one, its value -/
def rdN (tx : Nat → Nat) (len : Nat) (neg : Bool) (a : Nat) : Nat × Bool × Int32 :=
  let a1 := skF tx len a
  let s := neg && isB tx len a1 45
  let t := rdD tx len 4 (if s then a1 + 1 else a1) 0 0
  (t.1, (decide (0 < t.2.1) && !dgB tx len t.1), if s then - nI t.2.2 else nI t.2.2)
def argF (c : Nat) : Nat := if c = 110 then 1 else if c = 107 ∨ c = 116 ∨ c = 117 ∨ c = 120 then 2 else if c = 112 ∨ c = 109 ∨ c = 106 then 3 else 0
/-- numbers i to w - 1 of an order with the letter L (k of them): the place, whether they are there, the values -/
def rdA (tx : Nat → Nat) (len L : Nat) : Nat → Nat → Nat → (Nat → Int32) → Nat × Bool × (Nat → Int32)
  | 0, _, a, f => (a, true, f)
  | k + 1, i, a, f =>
    let t := rdN tx len (decide (L = 120) && decide (i = 1)) a
    if t.2.1 then rdA tx len L k (i + 1) t.1 (upd f i t.2.2) else (t.1, false, upd f i t.2.2)
/-- an order: the place, whether it is one, its letter and values -/
def rdO (tx : Nat → Nat) (len a : Nat) (f : Nat → Int32) : Nat × Bool × Nat × (Nat → Int32) :=
  if a < len then
    if argF (tx a) = 0 then (a, false, 0, f)
    else
      let t := rdA tx len (tx a) (argF (tx a)) 0 (a + 1) f
      if t.2.1 then
        let b := skF tx len t.1
        if isB tx len b 59 then (b + 1, true, tx a, t.2.2) else (b, false, 0, t.2.2)
      else (t.1, false, 0, t.2.2)
  else (a, false, 0, f)
section ORD
variable {N : Nat} {h : aH} {P : aP} {tx : Nat → Nat} {len : Nat}
def ordO (len a fd : Nat) : aE := .inr (2, [.ref 139, .int (nI len), .int (nI a), .int (nI fd), .ref 140, .ref 141])
/-- the orders: the text, the place, the number found, letters, values -/
def OrdAt (h : aH) (tx : Nat → Nat) (len a fd : Nat) (lt : Nat → Int32) (vl : Nat → Nat → Int32) : Prop := h 138 = ordO len a fd ∧ h 139 = iA 120 tx ∧ h 140 = .inl (0, (40, .inl lt)) ∧ h 141 = refs 40 141 ∧ (∀ i, i < 40 → h (141 + 1 + i) = .inl (0, (3, .inl (vl i)))) ∧ len ≤ 120 ∧ ∀ i, tx i < 128
variable {a fd : Nat} {lt : Nat → Int32} {vl : Nat → Nat → Int32}
theorem OrdAt.at (O : OrdAt h tx len a fd lt vl) (b : Nat) : OrdAt (hs h 138 (ordO len b fd)) tx len b fd lt vl := by
  obtain ⟨o1, o2, o3, o4, o5, o6, o7⟩ := O
  exact ⟨hs_eq _ _ _, by rw [hs_ne (by decide), o2], by rw [hs_ne (by decide), o3], by rw [hs_ne (by decide), o4], fun i hi => by rw [hs_ne (by omega), o5 i hi], o6, o7⟩
theorem OrdAt.same {h' : aH} (O : OrdAt h tx len a fd lt vl) (e : ∀ z, 138 ≤ z → z < 182 → h' z = h z) : OrdAt h' tx len a fd lt vl := by
  obtain ⟨o1, o2, o3, o4, o5, o6, o7⟩ := O
  exact ⟨by rw [e _ (by omega) (by omega), o1], by rw [e _ (by omega) (by omega), o2], by rw [e _ (by omega) (by omega), o3], by rw [e _ (by omega) (by omega), o4], fun i hi => by rw [e _ (by omega) (by omega), o5 i hi], o6, o7⟩
theorem skB_le : ∀ k a, a ≤ skB tx len k a ∧ (a ≤ len → skB tx len k a ≤ len)
  | 0, a => ⟨Nat.le_refl _, fun h => h⟩
  | k + 1, a => by
    unfold skB
    split
    · split
      · have := skB_le k (a + 1)
        exact ⟨by omega, fun _ => this.2 (by omega)⟩
      · exact ⟨Nat.le_refl _, fun h => h⟩
    · exact ⟨Nat.le_refl _, fun h => h⟩
theorem skF_ge (a : Nat) : a ≤ skF tx len a := (skB_le _ _).1
theorem skF_le {a : Nat} (h : a ≤ len) : skF tx len a ≤ len := (skB_le _ _).2 h
theorem c_skipBlanks (O : OrdAt h tx len a fd lt vl) (ha : a ≤ len) (hP : P none N (hs h 138 (ordO len (skF tx len a) fd))) : AM X2_skipBlanks [.ref 138] N h P := by
  refine AM.of0 rfl (Nat.le_of_ble_eq_true rfl) rfl [some (.ref 138)] rfl ?_
  have L : ∀ k b, b + k = len → skB tx len k b = skF tx len a → AW X2_skipBlanks 0 [some (.ref 138)] [] N (0, 0) (hs h 138 (ordO len b fd)) P := by
    intro k
    induction k with
    | zero =>
      intro b hb he
      obtain ⟨o1, o2, o3, o4, o5, o6, o7⟩ := O.at b
      have he : b = skF tx len a := he
      refine AW.aload_n 1 dX2_skipBlanks_0 rfl (by rfl) ?_
      refine AW.getfield 4 dX2_skipBlanks_1 rfl fl_X2_19 (by assumption) (by rfl) ?_
      refine AW.aload_n 5 dX2_skipBlanks_4 rfl (by rfl) ?_
      refine AW.getfield 8 dX2_skipBlanks_5 rfl fl_X2_15 (by assumption) (by rfl) ?_
      refine AW.nge 38 11 dX2_skipBlanks_8 (by decide) rfl (by omega) (by omega) (fun c => ?_) (fun c => ?_)
      · refine AW.vret dX2_skipBlanks_38 rfl ?_
        rw [he]
        exact hP
      · omega
    | succ k ih =>
      intro b hb he
      obtain ⟨o1, o2, o3, o4, o5, o6, o7⟩ := O.at b
      refine AW.aload_n 1 dX2_skipBlanks_0 rfl (by rfl) ?_
      refine AW.getfield 4 dX2_skipBlanks_1 rfl fl_X2_19 (by assumption) (by rfl) ?_
      refine AW.aload_n 5 dX2_skipBlanks_4 rfl (by rfl) ?_
      refine AW.getfield 8 dX2_skipBlanks_5 rfl fl_X2_15 (by assumption) (by rfl) ?_
      refine AW.nge 38 11 dX2_skipBlanks_8 (by decide) rfl (by omega) (by omega) (fun c => ?_) (fun c => ?_)
      · omega
      · rw [skB, if_pos c] at he
        have := o7 b
        refine AW.aload_n 12 dX2_skipBlanks_11 rfl (by rfl) ?_
        refine AW.getfield 15 dX2_skipBlanks_12 rfl fl_X2_9 (by assumption) (by rfl) ?_
        refine AW.aload_n 16 dX2_skipBlanks_15 rfl (by rfl) ?_
        refine AW.getfield 19 dX2_skipBlanks_16 rfl fl_X2_19 (by assumption) (by rfl) ?_
        refine AW.iaload 20 _ dX2_skipBlanks_19 rfl (by assumption) (by first | exact Or.inl rfl | exact Or.inr rfl) (ix_nI (by omega)) (by omega) ?_
        refine AW.bipush 22 dX2_skipBlanks_20 rfl (nI 32) rfl ?_
        refine AW.nne 38 25 dX2_skipBlanks_22 (by decide) rfl (by omega) (by omega) (fun c2 => ?_) (fun c2 => ?_)
        · refine AW.vret dX2_skipBlanks_38 rfl ?_
          rw [if_neg c2] at he
          rw [he]
          exact hP
        · refine AW.aload_n 26 dX2_skipBlanks_25 rfl (by rfl) ?_
          refine AW.dup 27 dX2_skipBlanks_26 rfl rfl ?_
          refine AW.getfield 30 dX2_skipBlanks_27 rfl fl_X2_19 (by assumption) (by rfl) ?_
          refine AW.iconst 31 dX2_skipBlanks_30 rfl (nI 1) rfl ?_
          first | refine AW.iaddN 32 dX2_skipBlanks_31 rfl ?_ | refine AW.iadd 32 dX2_skipBlanks_31 rfl ?_
          refine AW.putfield 35 dX2_skipBlanks_32 rfl fl_X2_19 (by assumption) (Nat.le_of_ble_eq_true rfl) (fun _ => ⟨rfl, rfl⟩) ?_
          rw [if_pos c2] at he
          refine AW.heap _ (hs_hs _ _ _ _) ?_
          refine AW.goto 0 dX2_skipBlanks_35 (by decide) ?_
          exact ih (b + 1) (by omega) he
  have := L (len - a) a (by omega) rfl
  rw [hs_self O.1] at this
  exact this
def prI (tx : Nat → Nat) (len a : Nat) : Int32 := if a < len then nI (tx a) else -1
theorem c_present (O : OrdAt h tx len a fd lt vl) (ha : a ≤ len) (hP : P (some (.int (prI tx len a))) N h) : AM X2_present [.ref 138] N h P := by
  obtain ⟨o1, o2, o3, o4, o5, o6, o7⟩ := O
  refine AM.of0 rfl (Nat.le_of_ble_eq_true rfl) rfl [some (.ref 138)] rfl ?_
  refine AW.aload_n 1 dX2_present_0 rfl (by rfl) ?_
  refine AW.getfield 4 dX2_present_1 rfl fl_X2_19 (by assumption) (by rfl) ?_
  refine AW.aload_n 5 dX2_present_4 rfl (by rfl) ?_
  refine AW.getfield 8 dX2_present_5 rfl fl_X2_15 (by assumption) (by rfl) ?_
  refine AW.nge 23 11 dX2_present_8 (by decide) rfl (by omega) (by omega) (fun c => ?_) (fun c => ?_)
  · rw [prI, if_neg (by omega)] at hP
    refine AW.iconst 24 dX2_present_23 rfl (-1) rfl ?_
    refine AW.iret dX2_present_24 rfl ?_
    exact hP
  · rw [prI, if_pos c] at hP
    refine AW.aload_n 12 dX2_present_11 rfl (by rfl) ?_
    refine AW.getfield 15 dX2_present_12 rfl fl_X2_9 (by assumption) (by rfl) ?_
    refine AW.aload_n 16 dX2_present_15 rfl (by rfl) ?_
    refine AW.getfield 19 dX2_present_16 rfl fl_X2_19 (by assumption) (by rfl) ?_
    refine AW.iaload 20 _ dX2_present_19 rfl (by assumption) (by first | exact Or.inl rfl | exact Or.inr rfl) (ix_nI (by omega)) (by omega) ?_
    refine AW.goto 24 dX2_present_20 (by decide) ?_
    refine AW.iret dX2_present_24 rfl ?_
    exact hP
theorem c_isDigit (ha : tx a < 128) (hP : P (some (.int (nI (b01 (dgB tx len a))))) N h) : AM X2_isDigit [.int (prI tx len a)] N h P := by
  by_cases c : a < len
  · rw [prI, if_pos c]
    refine AM.of0 rfl (Nat.le_of_ble_eq_true rfl) rfl [some (.int (nI (tx a)))] rfl ?_
    have F : dgB tx len a = false → AW X2_isDigit 16 [some (.int (nI (tx a)))] [] N (0, 0) h P := by
      intro e
      rw [b01_f e] at hP
      refine AW.iconst 17 dX2_isDigit_16 rfl (nI 0) rfl ?_
      refine AW.zret dX2_isDigit_17 rfl (by first | exact z_0 | exact z_1 | exact z_b01 _ | assumption) ?_
      exact hP
    refine AW.iload_n 1 dX2_isDigit_0 rfl (by rfl) ?_
    refine AW.bipush 3 dX2_isDigit_1 rfl (nI 48) rfl ?_
    refine AW.nlt 16 6 dX2_isDigit_3 (by decide) rfl (by omega) (by omega) (fun c1 => ?_) (fun c1 => ?_)
    · exact F (by rw [dgB, decide_eq_false (p := 48 ≤ tx a ∧ tx a ≤ 57) (by omega), Bool.and_false])
    · refine AW.iload_n 7 dX2_isDigit_6 rfl (by rfl) ?_
      refine AW.bipush 9 dX2_isDigit_7 rfl (nI 57) rfl ?_
      refine AW.ngt 16 12 dX2_isDigit_9 (by decide) rfl (by omega) (by omega) (fun c2 => ?_) (fun c2 => ?_)
      · exact F (by rw [dgB, decide_eq_false (p := 48 ≤ tx a ∧ tx a ≤ 57) (by omega), Bool.and_false])
      · rw [b01_t (by rw [dgB, decide_eq_true c, decide_eq_true (show 48 ≤ tx a ∧ tx a ≤ 57 by omega)]; rfl)] at hP
        refine AW.iconst 13 dX2_isDigit_12 rfl (nI 1) rfl ?_
        refine AW.goto 17 dX2_isDigit_13 (by decide) ?_
        refine AW.zret dX2_isDigit_17 rfl (by first | exact z_0 | exact z_1 | exact z_b01 _ | assumption) ?_
        exact hP
  · rw [prI, if_neg c]
    rw [b01_f (by rw [dgB, decide_eq_false c]; rfl)] at hP
    refine AM.of0 rfl (Nat.le_of_ble_eq_true rfl) rfl [some (.int (-1))] rfl ?_
    refine AW.iload_n 1 dX2_isDigit_0 rfl (by rfl) ?_
    refine AW.bipush 3 dX2_isDigit_1 rfl (nI 48) rfl ?_
    refine AW.icmp_lt 16 6 dX2_isDigit_3 (by decide) rfl (fun c1 => ?_) (fun c1 => ?_)
    · refine AW.iconst 17 dX2_isDigit_16 rfl (nI 0) rfl ?_
      refine AW.zret dX2_isDigit_17 rfl (by first | exact z_0 | exact z_1 | exact z_b01 _ | assumption) ?_
      exact hP
    · exact absurd (by decide) c1
theorem c_argumentsOf {c : Nat} (hc128 : c < 128) (hP : P (some (.int (nI (argF c)))) N h) : AM X2_argumentsOf [.int (nI c)] N h P := by
  have tc : (nI c).toInt = (c : Int) := nI_toInt (by omega)
  refine AM.of0 rfl (Nat.le_of_ble_eq_true rfl) rfl [some (.int (nI c))] rfl ?_
  refine AW.iload_n 1 dX2_argumentsOf_0 rfl (by rfl) ?_
  have hc : c < 106 ∨ c = 106 ∨ c = 107 ∨ c = 108 ∨ c = 109 ∨ c = 110 ∨ c = 111 ∨ c = 112 ∨ c = 113 ∨ c = 114 ∨ c = 115 ∨ c = 116 ∨ c = 117 ∨ c = 118 ∨ c = 119 ∨ c = 120 ∨ 120 < c := by omega
  rcases hc with hc | rfl | rfl | rfl | rfl | rfl | rfl | rfl | rfl | rfl | rfl | rfl | rfl | rfl | rfl | rfl | hc
  · refine AW.tsOut 82 dX2_argumentsOf_1 (Or.inl (by omega)) (by decide) ?_
    refine AW.iconst 83 dX2_argumentsOf_82 rfl (nI 0) rfl ?_
    refine AW.iret dX2_argumentsOf_83 rfl ?_
    rw [show argF c = 0 by unfold argF; rw [if_neg (by omega), if_neg (by omega), if_neg (by omega)]] at hP
    exact hP
  · refine AW.tsIn 80 dX2_argumentsOf_1 (by omega) (by omega) rfl (by decide) ?_
    refine AW.iconst 81 dX2_argumentsOf_80 rfl (nI 3) rfl ?_
    refine AW.iret dX2_argumentsOf_81 rfl ?_
    exact hP
  · refine AW.tsIn 78 dX2_argumentsOf_1 (by omega) (by omega) rfl (by decide) ?_
    refine AW.iconst 79 dX2_argumentsOf_78 rfl (nI 2) rfl ?_
    refine AW.iret dX2_argumentsOf_79 rfl ?_
    exact hP
  · refine AW.tsIn 82 dX2_argumentsOf_1 (by omega) (by omega) rfl (by decide) ?_
    refine AW.iconst 83 dX2_argumentsOf_82 rfl (nI 0) rfl ?_
    refine AW.iret dX2_argumentsOf_83 rfl ?_
    exact hP
  · refine AW.tsIn 80 dX2_argumentsOf_1 (by omega) (by omega) rfl (by decide) ?_
    refine AW.iconst 81 dX2_argumentsOf_80 rfl (nI 3) rfl ?_
    refine AW.iret dX2_argumentsOf_81 rfl ?_
    exact hP
  · refine AW.tsIn 76 dX2_argumentsOf_1 (by omega) (by omega) rfl (by decide) ?_
    refine AW.iconst 77 dX2_argumentsOf_76 rfl (nI 1) rfl ?_
    refine AW.iret dX2_argumentsOf_77 rfl ?_
    exact hP
  · refine AW.tsIn 82 dX2_argumentsOf_1 (by omega) (by omega) rfl (by decide) ?_
    refine AW.iconst 83 dX2_argumentsOf_82 rfl (nI 0) rfl ?_
    refine AW.iret dX2_argumentsOf_83 rfl ?_
    exact hP
  · refine AW.tsIn 80 dX2_argumentsOf_1 (by omega) (by omega) rfl (by decide) ?_
    refine AW.iconst 81 dX2_argumentsOf_80 rfl (nI 3) rfl ?_
    refine AW.iret dX2_argumentsOf_81 rfl ?_
    exact hP
  · refine AW.tsIn 82 dX2_argumentsOf_1 (by omega) (by omega) rfl (by decide) ?_
    refine AW.iconst 83 dX2_argumentsOf_82 rfl (nI 0) rfl ?_
    refine AW.iret dX2_argumentsOf_83 rfl ?_
    exact hP
  · refine AW.tsIn 82 dX2_argumentsOf_1 (by omega) (by omega) rfl (by decide) ?_
    refine AW.iconst 83 dX2_argumentsOf_82 rfl (nI 0) rfl ?_
    refine AW.iret dX2_argumentsOf_83 rfl ?_
    exact hP
  · refine AW.tsIn 82 dX2_argumentsOf_1 (by omega) (by omega) rfl (by decide) ?_
    refine AW.iconst 83 dX2_argumentsOf_82 rfl (nI 0) rfl ?_
    refine AW.iret dX2_argumentsOf_83 rfl ?_
    exact hP
  · refine AW.tsIn 78 dX2_argumentsOf_1 (by omega) (by omega) rfl (by decide) ?_
    refine AW.iconst 79 dX2_argumentsOf_78 rfl (nI 2) rfl ?_
    refine AW.iret dX2_argumentsOf_79 rfl ?_
    exact hP
  · refine AW.tsIn 78 dX2_argumentsOf_1 (by omega) (by omega) rfl (by decide) ?_
    refine AW.iconst 79 dX2_argumentsOf_78 rfl (nI 2) rfl ?_
    refine AW.iret dX2_argumentsOf_79 rfl ?_
    exact hP
  · refine AW.tsIn 82 dX2_argumentsOf_1 (by omega) (by omega) rfl (by decide) ?_
    refine AW.iconst 83 dX2_argumentsOf_82 rfl (nI 0) rfl ?_
    refine AW.iret dX2_argumentsOf_83 rfl ?_
    exact hP
  · refine AW.tsIn 82 dX2_argumentsOf_1 (by omega) (by omega) rfl (by decide) ?_
    refine AW.iconst 83 dX2_argumentsOf_82 rfl (nI 0) rfl ?_
    refine AW.iret dX2_argumentsOf_83 rfl ?_
    exact hP
  · refine AW.tsIn 78 dX2_argumentsOf_1 (by omega) (by omega) rfl (by decide) ?_
    refine AW.iconst 79 dX2_argumentsOf_78 rfl (nI 2) rfl ?_
    refine AW.iret dX2_argumentsOf_79 rfl ?_
    exact hP
  · refine AW.tsOut 82 dX2_argumentsOf_1 (Or.inr (by omega)) (by decide) ?_
    refine AW.iconst 83 dX2_argumentsOf_82 rfl (nI 0) rfl ?_
    refine AW.iret dX2_argumentsOf_83 rfl ?_
    rw [show argF c = 0 by unfold argF; rw [if_neg (by omega), if_neg (by omega), if_neg (by omega)]] at hP
    exact hP
theorem c_argumentsOfM (hP : P (some (.int (nI 0))) N h) : AM X2_argumentsOf [.int (-1)] N h P := by
  refine AM.of0 rfl (Nat.le_of_ble_eq_true rfl) rfl [some (.int (-1))] rfl ?_
  refine AW.iload_n 1 dX2_argumentsOf_0 rfl (by rfl) ?_
  refine AW.tsOut 82 dX2_argumentsOf_1 (Or.inl (by decide)) (by decide) ?_
  refine AW.iconst 83 dX2_argumentsOf_82 rfl (nI 0) rfl ?_
  refine AW.iret dX2_argumentsOf_83 rfl ?_
  exact hP
def upV (vl : Nat → Nat → Int32) (k i : Nat) (v : Int32) : Nat → Nat → Int32 := fun j => if j = k then upd (vl k) i v else vl j
theorem OrdAt.val {i : Nat} {v : Int32} (O : OrdAt h tx len a fd lt vl) (hf : fd < 40) : OrdAt (hs h (141 + 1 + fd) (.inl (0, (3, .inl (upd (vl fd) i v))))) tx len a fd lt (upV vl fd i v) := by
  obtain ⟨o1, o2, o3, o4, o5, o6, o7⟩ := O
  refine ⟨by rw [hs_ne (by omega), o1], by rw [hs_ne (by omega), o2], by rw [hs_ne (by omega), o3], by rw [hs_ne (by omega), o4], fun j hj => ?_, o6, o7⟩
  by_cases q : j = fd
  · subst q; rw [hs_eq, upV, if_pos rfl]
  · rw [hs_ne (by omega), upV, if_neg q, o5 j hj]
theorem prI_eq {c : Nat} (hc : c < 128) (ha : tx a < 128) : prI tx len a = nI c ↔ isB tx len a c = true := by
  unfold prI isB
  by_cases q : a < len
  · rw [if_pos q, decide_eq_true q, Bool.true_and, decide_eq_true_eq, nI_eq (by omega) (by omega)]
  · rw [if_neg q, decide_eq_false q]
    constructor
    · intro e
      have := congrArg Int32.toInt e
      rw [nI_toInt (by omega), show (-1 : Int32).toInt = -1 from rfl] at this
      omega
    · intro e; cases e
theorem rdD_le (ha : a ≤ len) : ∀ k a d v, a ≤ len → a ≤ (rdD tx len k a d v).1 ∧ (rdD tx len k a d v).1 ≤ len ∧ (rdD tx len k a d v).2.1 ≤ d + k
  | 0, a, d, v, h => ⟨Nat.le_refl _, h, Nat.le_refl _⟩
  | k + 1, a, d, v, h => by
    unfold rdD
    by_cases c : dgB tx len a = true
    · rw [if_pos c]
      have hl : a < len := by
        unfold dgB at c
        simp at c
        exact c.1
      have := rdD_le ha k (a + 1) (d + 1) (10 * v + (tx a - 48)) (by omega)
      exact ⟨by omega, this.2.1, by omega⟩
    · rw [if_neg c]; exact ⟨Nat.le_refl _, h, Nat.le_add_right d (k + 1)⟩
theorem rdN_le (neg : Bool) (ha : a ≤ len) : a ≤ (rdN tx len neg a).1 ∧ (rdN tx len neg a).1 ≤ len := by
  have h1 := skF_ge (tx := tx) (len := len) a
  have h2 := skF_le (tx := tx) ha
  unfold rdN
  dsimp only
  by_cases c : (neg && isB tx len (skF tx len a) 45) = true
  · rw [if_pos c]
    have hl : skF tx len a < len := by
      unfold isB at c
      simp at c
      exact c.2.1
    have := rdD_le (tx := tx) ha 4 (skF tx len a + 1) 0 0 (by omega)
    exact ⟨by omega, this.2.1⟩
  · rw [if_neg c]
    have := rdD_le (tx := tx) ha 4 (skF tx len a) 0 0 h2
    exact ⟨by omega, this.2.1⟩
theorem c_readsNumber {i : Nat} {neg : Bool} (O : OrdAt h tx len a fd lt vl) (ha : a ≤ len) (hf : fd < 40) (hi : i < 3) (hP : ∀ h', OrdAt h' tx len (rdN tx len neg a).1 fd lt (upV vl fd i (rdN tx len neg a).2.2) → (∀ z, z < 138 ∨ 182 ≤ z → h' z = h z) → P (some (.int (nI (b01 (rdN tx len neg a).2.1)))) N h') : AM X2_readsNumber [.ref 138, .int (nI i), .int (nI (b01 neg))] N h P := by
  have o6 := O.2.2.2.2.2.1
  have o7 := O.2.2.2.2.2.2
  have ha1 := skF_le (tx := tx) ha
  have x138 := O.1
  refine AM.of0 rfl (Nat.le_of_ble_eq_true rfl) rfl [some (.ref 138), some (.int (nI i)), some (.int (nI (b01 neg))), none, none, none] rfl ?_
  refine AW.aload_n 1 dX2_readsNumber_0 rfl (by rfl) ?_
  refine AW.cV0 4 dX2_readsNumber_1 rfl mi_X2_skipBlanks mv_X2_skipBlanks lk_X2_33 ⟨(Nat.le_of_ble_eq_true rfl), (Nat.le_of_ble_eq_true rfl)⟩ rfl (by assumption) rfl (Nat.le_of_ble_eq_true rfl) (c_skipBlanks O ha ?_)
  have O1 := O.at (skF tx len a)
  have f1 : ∀ z, z < 138 ∨ 182 ≤ z → hs h 138 (ordO len (skF tx len a) fd) z = h z := fun z hz => hs_ne (by omega)
  generalize hs h 138 (ordO len (skF tx len a) fd) = h1 at O1 f1 ⊢
  have x1 := O1.1
  have D : ∀ (sg : Bool) (b : Nat) (h2 : aH), OrdAt h2 tx len b fd lt vl → (∀ z, z < 138 ∨ 182 ≤ z → h2 z = h z) → b ≤ len → sg = (neg && isB tx len (skF tx len a) 45) → b = (if sg then skF tx len a + 1 else skF tx len a) → AW X2_readsNumber 37 [some (.ref 138), some (.int (nI i)), some (.int (nI (b01 neg))), some (.int (nI (b01 sg))), none, none] [] N (0, 0) h2 P := by
    intro sg b h2 O2 f2 hb hsg hbe
    have T : ∀ e d v h3, OrdAt h3 tx len e fd lt vl → (∀ z, z < 138 ∨ 182 ≤ z → h3 z = h z) → e ≤ len → (e, d, v) = rdD tx len 4 b 0 0 → AW X2_readsNumber 90 [some (.ref 138), some (.int (nI i)), some (.int (nI (b01 neg))), some (.int (nI (b01 sg))), some (.int (nI v)), some (.int (nI d))] [] N (0, 0) h3 P := by
      intro e d v h3 O3 f3 he hr
      obtain ⟨p1, p2, p3, p4, p5, p6, p7⟩ := id O3
      have pf := p5 fd hf
      have hd4 := (rdD_le (tx := tx) ha 4 b 0 0 hb).2.2
      rw [← hr] at hd4
      dsimp only at hd4
      have eN : rdN tx len neg a = (e, (decide (0 < d) && !dgB tx len e), if sg then - nI v else nI v) := by
        unfold rdN
        dsimp only
        rw [← hsg, ← hbe, ← hr]
      rw [eN] at hP
      have V : ∀ x : Int32, x = (if sg then - nI v else nI v) → AW X2_readsNumber 112 [some (.ref 138), some (.int (nI i)), some (.int (nI (b01 neg))), some (.int (nI (b01 sg))), some (.int (nI v)), some (.int (nI d))] [.int x, .int (nI i), .ref (141 + 1 + fd)] N (0, 0) h3 P := by
        intro x hx
        rw [← hx] at hP
        refine AW.iastore 113 _ dX2_readsNumber_112 rfl (by assumption) (ix_nI (by omega)) (by omega) ?_
        have O4 := O3.val (i := i) (v := x) hf
        have f4 : ∀ z, z < 138 ∨ 182 ≤ z → hs h3 (141 + 1 + fd) (.inl (0, (3, .inl (upd (vl fd) i x)))) z = h z := fun z hz => by rw [hs_ne (by omega), f3 z hz]
        generalize hs h3 (141 + 1 + fd) (.inl (0, (3, .inl (upd (vl fd) i x)))) = h4 at O4 f4 ⊢
        have hP := hP h4 O4 f4
        have x4 := O4.1
        have E0 : (decide (0 < d) && !dgB tx len e) = false → AW X2_readsNumber 132 [some (.ref 138), some (.int (nI i)), some (.int (nI (b01 neg))), some (.int (nI (b01 sg))), some (.int (nI v)), some (.int (nI d))] [] N (0, 0) h4 P := by
          intro q
          rw [b01_f q] at hP
          refine AW.iconst 133 dX2_readsNumber_132 rfl (nI 0) rfl ?_
          refine AW.zret dX2_readsNumber_133 rfl (by first | exact z_0 | exact z_1 | exact z_b01 _ | assumption) ?_
          exact hP
        refine AW.iload 115 dX2_readsNumber_113 rfl (by rfl) ?_
        refine AW.if_le 132 118 dX2_readsNumber_115 (by decide) rfl (fun c => ?_) (fun c => ?_)
        · have : d = 0 := by
            rcases Nat.eq_zero_or_pos d with q | q
            · exact q
            · exact absurd c (nI_nle q (by omega))
          exact E0 (by rw [this]; rfl)
        · have hd0 : 0 < d := by
            rcases Nat.eq_zero_or_pos d with q | q
            · subst q; exact absurd (by decide) c
            · exact q
          refine AW.aload_n 119 dX2_readsNumber_118 rfl (by rfl) ?_
          refine AW.cV0 122 dX2_readsNumber_119 rfl mi_X2_present mv_X2_present lk_X2_40 ⟨(Nat.le_of_ble_eq_true rfl), (Nat.le_of_ble_eq_true rfl)⟩ rfl (by assumption) rfl (Nat.le_of_ble_eq_true rfl) (c_present O4 he ?_)
          refine AW.cS1 125 dX2_readsNumber_122 rfl mi_X2_isDigit ms_X2_isDigit lk_X2_52 ⟨(Nat.le_of_ble_eq_true rfl), (Nat.le_of_ble_eq_true rfl)⟩ rfl (Nat.le_of_ble_eq_true rfl) (c_isDigit (p7 e) ?_)
          refine AW.zne 132 128 dX2_readsNumber_125 (by decide) rfl (fun c2 => ?_) (fun c2 => ?_)
          · exact E0 (by rw [c2, Bool.not_true, Bool.and_false])
          · rw [b01_t (by rw [c2, decide_eq_true hd0]; rfl)] at hP
            refine AW.iconst 129 dX2_readsNumber_128 rfl (nI 1) rfl ?_
            refine AW.goto 133 dX2_readsNumber_129 (by decide) ?_
            refine AW.zret dX2_readsNumber_133 rfl (by first | exact z_0 | exact z_1 | exact z_b01 _ | assumption) ?_
            exact hP
      refine AW.aload_n 91 dX2_readsNumber_90 rfl (by rfl) ?_
      refine AW.getfield 94 dX2_readsNumber_91 rfl fl_X2_30 (by assumption) (by rfl) ?_
      refine AW.aload_n 95 dX2_readsNumber_94 rfl (by rfl) ?_
      refine AW.getfield 98 dX2_readsNumber_95 rfl fl_X2_22 (by assumption) (by rfl) ?_
      refine AW.aaload 99 _ dX2_readsNumber_98 rfl (by assumption) (fun _ => rfl) rfl (ix_nI (by omega)) (by omega) (if_pos (show fd < 40 by omega)) ?_
      refine AW.iload_n 100 dX2_readsNumber_99 rfl (by rfl) ?_
      refine AW.iload_n 101 dX2_readsNumber_100 rfl (by rfl) ?_
      refine AW.zeq 110 104 dX2_readsNumber_101 (by decide) rfl (fun c => ?_) (fun c => ?_)
      · refine AW.iload 112 dX2_readsNumber_110 rfl (by rfl) ?_
        exact V _ (by rw [c]; rfl)
      · refine AW.iload 106 dX2_readsNumber_104 rfl (by rfl) ?_
        refine AW.ineg 107 dX2_readsNumber_106 rfl ?_
        refine AW.goto 112 dX2_readsNumber_107 (by decide) ?_
        exact V _ (by rw [c]; rfl)
    have L : ∀ k e d v h3, OrdAt h3 tx len e fd lt vl → (∀ z, z < 138 ∨ 182 ≤ z → h3 z = h z) → e ≤ len → d + k = 4 → rdD tx len k e d v = rdD tx len 4 b 0 0 → AW X2_readsNumber 43 [some (.ref 138), some (.int (nI i)), some (.int (nI (b01 neg))), some (.int (nI (b01 sg))), some (.int (nI v)), some (.int (nI d))] [] N (0, 0) h3 P := by
      intro k
      induction k with
      | zero =>
        intro e d v h3 O3 f3 he hd hr
        have x3 := O3.1
        refine AW.aload_n 44 dX2_readsNumber_43 rfl (by rfl) ?_
        refine AW.cV0 47 dX2_readsNumber_44 rfl mi_X2_present mv_X2_present lk_X2_40 ⟨(Nat.le_of_ble_eq_true rfl), (Nat.le_of_ble_eq_true rfl)⟩ rfl (by assumption) rfl (Nat.le_of_ble_eq_true rfl) (c_present O3 he ?_)
        refine AW.cS1 50 dX2_readsNumber_47 rfl mi_X2_isDigit ms_X2_isDigit lk_X2_52 ⟨(Nat.le_of_ble_eq_true rfl), (Nat.le_of_ble_eq_true rfl)⟩ rfl (Nat.le_of_ble_eq_true rfl) (c_isDigit (o7 e) ?_)
        refine AW.zeq 90 53 dX2_readsNumber_50 (by decide) rfl (fun c => ?_) (fun c => ?_)
        · exact T e d v h3 O3 f3 he hr
        · refine AW.iload 55 dX2_readsNumber_53 rfl (by rfl) ?_
          refine AW.iconst 56 dX2_readsNumber_55 rfl (nI 4) rfl ?_
          refine AW.nge 90 59 dX2_readsNumber_56 (by decide) rfl (by omega) (by omega) (fun c2 => ?_) (fun c2 => ?_)
          · exact T e d v h3 O3 f3 he hr
          · omega
      | succ k ih =>
        intro e d v h3 O3 f3 he hd hr
        have x3 := O3.1
        refine AW.aload_n 44 dX2_readsNumber_43 rfl (by rfl) ?_
        refine AW.cV0 47 dX2_readsNumber_44 rfl mi_X2_present mv_X2_present lk_X2_40 ⟨(Nat.le_of_ble_eq_true rfl), (Nat.le_of_ble_eq_true rfl)⟩ rfl (by assumption) rfl (Nat.le_of_ble_eq_true rfl) (c_present O3 he ?_)
        refine AW.cS1 50 dX2_readsNumber_47 rfl mi_X2_isDigit ms_X2_isDigit lk_X2_52 ⟨(Nat.le_of_ble_eq_true rfl), (Nat.le_of_ble_eq_true rfl)⟩ rfl (Nat.le_of_ble_eq_true rfl) (c_isDigit (o7 e) ?_)
        refine AW.zeq 90 53 dX2_readsNumber_50 (by decide) rfl (fun c => ?_) (fun c => ?_)
        · exact T e d v h3 O3 f3 he (by rw [rdD, c] at hr; exact hr)
        · rw [rdD, c, if_pos rfl] at hr
          have hl : e < len ∧ 48 ≤ tx e ∧ tx e ≤ 57 := by
            unfold dgB at c
            simpa using c
          refine AW.iload 55 dX2_readsNumber_53 rfl (by rfl) ?_
          refine AW.iconst 56 dX2_readsNumber_55 rfl (nI 4) rfl ?_
          refine AW.nge 90 59 dX2_readsNumber_56 (by decide) rfl (by omega) (by omega) (fun c2 => ?_) (fun c2 => ?_)
          · omega
          · refine AW.bipush 61 dX2_readsNumber_59 rfl (nI 10) rfl ?_
            refine AW.iload 63 dX2_readsNumber_61 rfl (by rfl) ?_
            first | refine AW.imulN 64 dX2_readsNumber_63 rfl ?_ | refine AW.imul 64 dX2_readsNumber_63 rfl ?_
            refine AW.aload_n 65 dX2_readsNumber_64 rfl (by rfl) ?_
            refine AW.cV0 68 dX2_readsNumber_65 rfl mi_X2_present mv_X2_present lk_X2_40 ⟨(Nat.le_of_ble_eq_true rfl), (Nat.le_of_ble_eq_true rfl)⟩ rfl (by assumption) rfl (Nat.le_of_ble_eq_true rfl) (c_present O3 he ?_)
            rw [prI, if_pos hl.1]
            first | refine AW.iaddN 69 dX2_readsNumber_68 rfl ?_ | refine AW.iadd 69 dX2_readsNumber_68 rfl ?_
            refine AW.bipush 71 dX2_readsNumber_69 rfl (nI 48) rfl ?_
            first | refine AW.isubN 72 dX2_readsNumber_71 rfl (by omega) ?_ | refine AW.isub 72 dX2_readsNumber_71 rfl ?_
            refine AW.istore 74 dX2_readsNumber_72 rfl (Nat.le_of_ble_eq_true rfl) rfl ?_
            refine AW.iinc1 77 dX2_readsNumber_74 rfl (by rfl) rfl ?_
            refine AW.aload_n 78 dX2_readsNumber_77 rfl (by rfl) ?_
            refine AW.dup 79 dX2_readsNumber_78 rfl rfl ?_
            refine AW.getfield 82 dX2_readsNumber_79 rfl fl_X2_19 (by assumption) (by rfl) ?_
            refine AW.iconst 83 dX2_readsNumber_82 rfl (nI 1) rfl ?_
            first | refine AW.iaddN 84 dX2_readsNumber_83 rfl ?_ | refine AW.iadd 84 dX2_readsNumber_83 rfl ?_
            refine AW.putfield 87 dX2_readsNumber_84 rfl fl_X2_19 (by assumption) (Nat.le_of_ble_eq_true rfl) (fun _ => ⟨rfl, rfl⟩) ?_
            refine AW.heap (hs h3 138 (ordO len (e + 1) fd)) rfl ?_
            refine AW.goto 43 dX2_readsNumber_87 (by decide) ?_
            rw [show 10 * v + tx e - 48 = 10 * v + (tx e - 48) by omega]
            exact ih (e + 1) (d + 1) _ _ (O3.at (e + 1)) (fun z hz => by rw [hs_ne (by omega), f3 z hz]) (by omega) (by omega) hr
    refine AW.iconst 38 dX2_readsNumber_37 rfl (nI 0) rfl ?_
    refine AW.istore 40 dX2_readsNumber_38 rfl (Nat.le_of_ble_eq_true rfl) rfl ?_
    refine AW.iconst 41 dX2_readsNumber_40 rfl (nI 0) rfl ?_
    refine AW.istore 43 dX2_readsNumber_41 rfl (Nat.le_of_ble_eq_true rfl) rfl ?_
    exact L 4 b 0 0 h2 O2 f2 hb (by omega) rfl
  have S : ∀ sg : Bool, sg = (neg && isB tx len (skF tx len a) 45) → AW X2_readsNumber 22 [some (.ref 138), some (.int (nI i)), some (.int (nI (b01 neg))), none, none, none] [.int (nI (b01 sg))] N (0, 0) h1 P := by
    intro sg hsg
    refine AW.istore_n 23 dX2_readsNumber_22 rfl (Nat.le_of_ble_eq_true rfl) rfl ?_
    refine AW.iload_n 24 dX2_readsNumber_23 rfl (by rfl) ?_
    refine AW.zeq 37 27 dX2_readsNumber_24 (by decide) rfl (fun c => ?_) (fun c => ?_)
    · exact D sg (skF tx len a) h1 O1 f1 ha1 hsg (by rw [c]; rfl)
    · have hl : skF tx len a < len := by
        rw [c] at hsg
        have := hsg.symm
        unfold isB at this
        simp at this
        exact this.2.1
      refine AW.aload_n 28 dX2_readsNumber_27 rfl (by rfl) ?_
      refine AW.dup 29 dX2_readsNumber_28 rfl rfl ?_
      refine AW.getfield 32 dX2_readsNumber_29 rfl fl_X2_19 (by assumption) (by rfl) ?_
      refine AW.iconst 33 dX2_readsNumber_32 rfl (nI 1) rfl ?_
      first | refine AW.iaddN 34 dX2_readsNumber_33 rfl ?_ | refine AW.iadd 34 dX2_readsNumber_33 rfl ?_
      refine AW.putfield 37 dX2_readsNumber_34 rfl fl_X2_19 (by assumption) (Nat.le_of_ble_eq_true rfl) (fun _ => ⟨rfl, rfl⟩) ?_
      refine AW.heap (hs h1 138 (ordO len (skF tx len a + 1) fd)) rfl ?_
      exact D sg (skF tx len a + 1) _ (O1.at _) (fun z hz => by rw [hs_ne (by omega), f1 z hz]) (by omega) hsg (by rw [c]; rfl)
  refine AW.iload_n 5 dX2_readsNumber_4 rfl (by rfl) ?_
  refine AW.zeq 21 8 dX2_readsNumber_5 (by decide) rfl (fun c => ?_) (fun c => ?_)
  · refine AW.iconst 22 dX2_readsNumber_21 rfl (nI 0) rfl ?_
    exact S false (by rw [c]; rfl)
  · refine AW.aload_n 9 dX2_readsNumber_8 rfl (by rfl) ?_
    refine AW.cV0 12 dX2_readsNumber_9 rfl mi_X2_present mv_X2_present lk_X2_40 ⟨(Nat.le_of_ble_eq_true rfl), (Nat.le_of_ble_eq_true rfl)⟩ rfl (by assumption) rfl (Nat.le_of_ble_eq_true rfl) (c_present O1 ha1 ?_)
    refine AW.bipush 14 dX2_readsNumber_12 rfl (nI 45) rfl ?_
    refine AW.icmp_ne 21 17 dX2_readsNumber_14 (by decide) rfl (fun c2 => ?_) (fun c2 => ?_)
    · refine AW.iconst 22 dX2_readsNumber_21 rfl (nI 0) rfl ?_
      have : isB tx len (skF tx len a) 45 = false := by
        rw [← Bool.not_eq_true]
        exact fun q => c2 ((prI_eq (by omega) (o7 _)).mpr q)
      exact S false (by rw [this, Bool.and_false])
    · refine AW.iconst 18 dX2_readsNumber_17 rfl (nI 1) rfl ?_
      refine AW.goto 22 dX2_readsNumber_18 (by decide) ?_
      exact S true (by rw [c, (prI_eq (by omega) (o7 _)).mp c2]; rfl)
theorem rdA_le (L : Nat) : ∀ k i a f, a ≤ len → a ≤ (rdA tx len L k i a f).1 ∧ (rdA tx len L k i a f).1 ≤ len
  | 0, i, a, f, h => ⟨Nat.le_refl _, h⟩
  | k + 1, i, a, f, h => by
    have h1 := rdN_le (tx := tx) (decide (L = 120) && decide (i = 1)) h
    unfold rdA
    dsimp only
    split
    · have := rdA_le L k (i + 1) (rdN tx len (decide (L = 120) && decide (i = 1)) a).1 (upd f i (rdN tx len (decide (L = 120) && decide (i = 1)) a).2.2) h1.2
      exact ⟨by omega, this.2⟩
    · exact h1
theorem rdO_le {f : Nat → Int32} (ha : a ≤ len) : a ≤ (rdO tx len a f).1 ∧ (rdO tx len a f).1 ≤ len ∧ ((rdO tx len a f).2.1 = true → a + 1 < (rdO tx len a f).1) := by
  unfold rdO
  by_cases c : a < len
  · rw [if_pos c]
    by_cases c2 : argF (tx a) = 0
    · rw [if_pos c2]; exact ⟨Nat.le_refl _, ha, fun q => by cases q⟩
    · rw [if_neg c2]
      dsimp only
      have h1 := rdA_le (tx := tx) (tx a) (argF (tx a)) 0 (a + 1) f (by omega : a + 1 ≤ len)
      split
      · have h2 := skF_ge (tx := tx) (len := len) (rdA tx len (tx a) (argF (tx a)) 0 (a + 1) f).1
        have h3 := skF_le (tx := tx) h1.2
        split
        · rename_i q
          unfold isB at q
          simp at q
          exact ⟨by omega, by omega, fun _ => by show a + 1 < _ + 1; omega⟩
        · exact ⟨by omega, by omega, fun q => by cases q⟩
      · exact ⟨by omega, by omega, fun q => by cases q⟩
  · rw [if_neg c]; exact ⟨Nat.le_refl _, ha, fun q => by cases q⟩
theorem rdD_adv : ∀ k a d v, (rdD tx len k a d v).1 + d = a + (rdD tx len k a d v).2.1
  | 0, a, d, v => rfl
  | k + 1, a, d, v => by
    unfold rdD
    split
    · have := rdD_adv k (a + 1) (d + 1) (10 * v + (tx a - 48)); omega
    · rfl
theorem rdN_adv (neg : Bool) (a : Nat) (h : (rdN tx len neg a).2.1 = true) : a < (rdN tx len neg a).1 := by
  have h1 := skF_ge (tx := tx) (len := len) a
  unfold rdN at h ⊢
  dsimp only at h ⊢
  have hst : a ≤ (if (neg && isB tx len (skF tx len a) 45) = true then skF tx len a + 1 else skF tx len a) := by split <;> omega
  generalize (if (neg && isB tx len (skF tx len a) 45) = true then skF tx len a + 1 else skF tx len a) = st at h hst ⊢
  have h2 := rdD_adv (tx := tx) (len := len) 4 st 0 0
  rw [Bool.and_eq_true] at h
  have := of_decide_eq_true h.1
  omega
theorem rdA_adv (L : Nat) : ∀ k i a f, (rdA tx len L k i a f).2.1 = true → a + k ≤ (rdA tx len L k i a f).1
  | 0, i, a, f, _ => Nat.le_refl _
  | k + 1, i, a, f, h => by
    unfold rdA at h ⊢
    dsimp only at h ⊢
    by_cases c : (rdN tx len (decide (L = 120) && decide (i = 1)) a).2.1 = true
    · rw [if_pos c] at h ⊢
      have h1 := rdN_adv _ a c
      have := rdA_adv L k (i + 1) _ _ h
      omega
    · rw [if_neg c] at h; cases h
theorem rdO_adv {f : Nat → Int32} (h : (rdO tx len a f).2.1 = true) : a + 3 ≤ (rdO tx len a f).1 := by
  unfold rdO at h ⊢
  by_cases c : a < len
  · rw [if_pos c] at h ⊢
    by_cases c2 : argF (tx a) = 0
    · rw [if_pos c2] at h; cases h
    · rw [if_neg c2] at h ⊢
      dsimp only at h ⊢
      by_cases c3 : (rdA tx len (tx a) (argF (tx a)) 0 (a + 1) f).2.1 = true
      · rw [if_pos c3] at h ⊢
        have h1 := rdA_adv _ _ _ _ _ c3
        have h2 := skF_ge (tx := tx) (len := len) (rdA tx len (tx a) (argF (tx a)) 0 (a + 1) f).1
        by_cases c4 : isB tx len (skF tx len (rdA tx len (tx a) (argF (tx a)) 0 (a + 1) f).1) 59 = true
        · rw [if_pos c4]; show a + 3 ≤ _ + 1; omega
        · rw [if_neg c4] at h; cases h
      · rw [if_neg c3] at h; cases h
  · rw [if_neg c] at h; cases h
theorem argF_le (c : Nat) : argF c ≤ 3 := by unfold argF; repeat' split <;> try omega
theorem OrdAt.let {L : Int32} (O : OrdAt h tx len a fd lt vl) : OrdAt (hs h 140 (.inl (0, (40, .inl (upd lt fd L))))) tx len a fd (upd lt fd L) vl := by
  obtain ⟨o1, o2, o3, o4, o5, o6, o7⟩ := O
  exact ⟨by rw [hs_ne (by omega), o1], by rw [hs_ne (by omega), o2], hs_eq _ _ _, by rw [hs_ne (by omega), o4], fun i hi => by rw [hs_ne (by omega), o5 i hi], o6, o7⟩
theorem OrdAt.fnd (O : OrdAt h tx len a fd lt vl) (b fd' : Nat) : OrdAt (hs h 138 (ordO len b fd')) tx len b fd' lt vl := by
  obtain ⟨o1, o2, o3, o4, o5, o6, o7⟩ := O
  exact ⟨hs_eq _ _ _, by rw [hs_ne (by decide), o2], by rw [hs_ne (by decide), o3], by rw [hs_ne (by decide), o4], fun i hi => by rw [hs_ne (by omega), o5 i hi], o6, o7⟩
def upW (vl : Nat → Nat → Int32) (k : Nat) (f : Nat → Int32) : Nat → Nat → Int32 := fun j => if j = k then f else vl j
theorem upV_upW (vl : Nat → Nat → Int32) (k i : Nat) (v : Int32) : upV vl k i v = upW vl k (upd (vl k) i v) := rfl
theorem upW_upW (vl : Nat → Nat → Int32) (k : Nat) (f g : Nat → Int32) : upW (upW vl k f) k g = upW vl k g := by
  funext j
  unfold upW
  split <;> rfl
theorem upW_self (vl : Nat → Nat → Int32) (k : Nat) : upW vl k (vl k) = vl := by
  funext j
  unfold upW
  split
  · rename_i e; rw [e]
  · rfl
/-- behind an order: the letters and the number found -/
def ordL (lt : Nat → Int32) (fd : Nat) (o : Nat × Bool × Nat × (Nat → Int32)) : Nat → Int32 := if o.2.1 then upd lt fd (nI o.2.2.1) else lt
def ordF (fd : Nat) (o : Nat × Bool × Nat × (Nat → Int32)) : Nat := if o.2.1 then fd + 1 else fd
theorem c_readsOrder (O : OrdAt h tx len a fd lt vl) (ha : a ≤ len) (hf : fd < 40) (hP : ∀ h', OrdAt h' tx len (rdO tx len a (vl fd)).1 (ordF fd (rdO tx len a (vl fd))) (ordL lt fd (rdO tx len a (vl fd))) (upW vl fd (rdO tx len a (vl fd)).2.2.2) → (∀ z, z < 138 ∨ 182 ≤ z → h' z = h z) → P (some (.int (nI (b01 (rdO tx len a (vl fd)).2.1)))) N h') : AM X2_readsOrder [.ref 138] N h P := by
  have o6 := O.2.2.2.2.2.1
  have o7 := O.2.2.2.2.2.2
  have x138 := O.1
  refine AM.of0 rfl (Nat.le_of_ble_eq_true rfl) rfl [some (.ref 138), none, none, none, none] rfl ?_
  refine AW.aload_n 1 dX2_readsOrder_0 rfl (by rfl) ?_
  refine AW.cV0 4 dX2_readsOrder_1 rfl mi_X2_present mv_X2_present lk_X2_40 ⟨(Nat.le_of_ble_eq_true rfl), (Nat.le_of_ble_eq_true rfl)⟩ rfl (by assumption) rfl (Nat.le_of_ble_eq_true rfl) (c_present O ha ?_)
  by_cases hl : a < len
  · rw [prI, if_pos hl]
    have ht := o7 a
    have hal := argF_le (tx a)
    refine AW.istore_n 5 dX2_readsOrder_4 rfl (Nat.le_of_ble_eq_true rfl) rfl ?_
    refine AW.iload_n 6 dX2_readsOrder_5 rfl (by rfl) ?_
    refine AW.cS1 9 dX2_readsOrder_6 rfl mi_X2_argumentsOf ms_X2_argumentsOf lk_X2_44 ⟨(Nat.le_of_ble_eq_true rfl), (Nat.le_of_ble_eq_true rfl)⟩ rfl (Nat.le_of_ble_eq_true rfl) (c_argumentsOf ht ?_)
    refine AW.istore_n 10 dX2_readsOrder_9 rfl (Nat.le_of_ble_eq_true rfl) rfl ?_
    refine AW.iload_n 11 dX2_readsOrder_10 rfl (by rfl) ?_
    refine AW.ieq 23 14 dX2_readsOrder_11 (by decide) rfl (by omega) (fun c => ?_) (fun c => ?_)
    · have eO : rdO tx len a (vl fd) = (a, false, 0, vl fd) := by rw [rdO, if_pos hl, if_pos c]
      rw [eO] at hP
      refine AW.iconst 24 dX2_readsOrder_23 rfl (nI 0) rfl ?_
      refine AW.zret dX2_readsOrder_24 rfl (by first | exact z_0 | exact z_1 | exact z_b01 _ | assumption) ?_
      exact hP h (by rw [upW_self]; exact O) (fun _ _ => rfl)
    · refine AW.aload_n 15 dX2_readsOrder_14 rfl (by rfl) ?_
      refine AW.getfield 18 dX2_readsOrder_15 rfl fl_X2_22 (by assumption) (by rfl) ?_
      refine AW.bipush 20 dX2_readsOrder_18 rfl (nI 40) rfl ?_
      refine AW.nlt 25 23 dX2_readsOrder_20 (by decide) rfl (by omega) (by omega) (fun c2 => ?_) (fun c2 => ?_)
      · refine AW.aload_n 26 dX2_readsOrder_25 rfl (by rfl) ?_
        refine AW.dup 27 dX2_readsOrder_26 rfl rfl ?_
        refine AW.getfield 30 dX2_readsOrder_27 rfl fl_X2_19 (by assumption) (by rfl) ?_
        refine AW.iconst 31 dX2_readsOrder_30 rfl (nI 1) rfl ?_
        first | refine AW.iaddN 32 dX2_readsOrder_31 rfl ?_ | refine AW.iadd 32 dX2_readsOrder_31 rfl ?_
        refine AW.putfield 35 dX2_readsOrder_32 rfl fl_X2_19 (by assumption) (Nat.le_of_ble_eq_true rfl) (fun _ => ⟨rfl, rfl⟩) ?_
        refine AW.heap (hs h 138 (ordO len (a + 1) fd)) rfl ?_
        refine AW.iconst 36 dX2_readsOrder_35 rfl (nI 0) rfl ?_
        refine AW.istore_n 37 dX2_readsOrder_36 rfl (Nat.le_of_ble_eq_true rfl) rfl ?_
        have L : ∀ k i b f h1, i + k = argF (tx a) → OrdAt h1 tx len b fd lt (upW vl fd f) → (∀ z, z < 138 ∨ 182 ≤ z → h1 z = h z) → b ≤ len → rdA tx len (tx a) k i b f = rdA tx len (tx a) (argF (tx a)) 0 (a + 1) (vl fd) → ∀ o, AW X2_readsOrder 37 [some (.ref 138), some (.int (nI (tx a))), some (.int (nI (argF (tx a)))), some (.int (nI i)), o] [] N (0, 0) h1 P := by
          intro k
          induction k with
          | zero =>
            intro i b f h1 hi O1 f1 hb he o
            have he : (b, true, f) = rdA tx len (tx a) (argF (tx a)) 0 (a + 1) (vl fd) := he
            have x1 := O1.1
            have hb2 := skF_le (tx := tx) hb
            have hb3 := skF_ge (tx := tx) (len := len) b
            refine AW.iload_n 38 dX2_readsOrder_37 rfl (by rfl) ?_
            refine AW.iload_n 39 dX2_readsOrder_38 rfl (by rfl) ?_
            refine AW.nge 78 42 dX2_readsOrder_39 (by decide) rfl (by omega) (by omega) (fun c3 => ?_) (fun c3 => ?_)
            · refine AW.aload_n 79 dX2_readsOrder_78 rfl (by rfl) ?_
              refine AW.cV0 82 dX2_readsOrder_79 rfl mi_X2_skipBlanks mv_X2_skipBlanks lk_X2_33 ⟨(Nat.le_of_ble_eq_true rfl), (Nat.le_of_ble_eq_true rfl)⟩ rfl (by assumption) rfl (Nat.le_of_ble_eq_true rfl) (c_skipBlanks O1 hb ?_)
              have O2 := O1.at (skF tx len b)
              have f2 : ∀ z, z < 138 ∨ 182 ≤ z → hs h1 138 (ordO len (skF tx len b) fd) z = h z := fun z hz => by rw [hs_ne (by omega), f1 z hz]
              generalize hs h1 138 (ordO len (skF tx len b) fd) = h2 at O2 f2 ⊢
              have x2 := O2.1
              refine AW.aload_n 83 dX2_readsOrder_82 rfl (by rfl) ?_
              refine AW.cV0 86 dX2_readsOrder_83 rfl mi_X2_present mv_X2_present lk_X2_40 ⟨(Nat.le_of_ble_eq_true rfl), (Nat.le_of_ble_eq_true rfl)⟩ rfl (by assumption) rfl (Nat.le_of_ble_eq_true rfl) (c_present O2 hb2 ?_)
              refine AW.bipush 88 dX2_readsOrder_86 rfl (nI 59) rfl ?_
              refine AW.icmp_eq 93 91 dX2_readsOrder_88 (by decide) rfl (fun c4 => ?_) (fun c4 => ?_)
              · have q := (prI_eq (by omega) (o7 _)).mp c4
                have eO : rdO tx len a (vl fd) = (skF tx len b + 1, true, tx a, f) := by
                  rw [rdO, if_pos hl, if_neg c, ← he]
                  show (if isB tx len (skF tx len b) 59 then _ else _) = _
                  rw [q, if_pos rfl]
                rw [eO] at hP
                have hl2 : skF tx len b < len := by
                  unfold isB at q
                  simp at q
                  exact q.1
                refine AW.aload_n 94 dX2_readsOrder_93 rfl (by rfl) ?_
                refine AW.dup 95 dX2_readsOrder_94 rfl rfl ?_
                refine AW.getfield 98 dX2_readsOrder_95 rfl fl_X2_19 (by assumption) (by rfl) ?_
                refine AW.iconst 99 dX2_readsOrder_98 rfl (nI 1) rfl ?_
                first | refine AW.iaddN 100 dX2_readsOrder_99 rfl ?_ | refine AW.iadd 100 dX2_readsOrder_99 rfl ?_
                refine AW.putfield 103 dX2_readsOrder_100 rfl fl_X2_19 (by assumption) (Nat.le_of_ble_eq_true rfl) (fun _ => ⟨rfl, rfl⟩) ?_
                refine AW.heap (hs h2 138 (ordO len (skF tx len b + 1) fd)) rfl ?_
                have O3 := O2.at (skF tx len b + 1)
                have f3 : ∀ z, z < 138 ∨ 182 ≤ z → hs h2 138 (ordO len (skF tx len b + 1) fd) z = h z := fun z hz => by rw [hs_ne (by omega), f2 z hz]
                generalize hs h2 138 (ordO len (skF tx len b + 1) fd) = h3 at O3 f3 ⊢
                have x3 := O3.1
                have x3b := O3.2.2.1
                refine AW.aload_n 104 dX2_readsOrder_103 rfl (by rfl) ?_
                refine AW.getfield 107 dX2_readsOrder_104 rfl fl_X2_25 (by assumption) (by rfl) ?_
                refine AW.aload_n 108 dX2_readsOrder_107 rfl (by rfl) ?_
                refine AW.getfield 111 dX2_readsOrder_108 rfl fl_X2_22 (by assumption) (by rfl) ?_
                refine AW.iload_n 112 dX2_readsOrder_111 rfl (by rfl) ?_
                refine AW.iastore 113 _ dX2_readsOrder_112 rfl (by assumption) (ix_nI (by omega)) (by omega) ?_
                have O4 := O3.let (L := nI (tx a))
                have f4 : ∀ z, z < 138 ∨ 182 ≤ z → hs h3 140 (.inl (0, (40, .inl (upd lt fd (nI (tx a)))))) z = h z := fun z hz => by rw [hs_ne (by omega), f3 z hz]
                generalize hs h3 140 (.inl (0, (40, .inl (upd lt fd (nI (tx a)))))) = h4 at O4 f4 ⊢
                have x4 := O4.1
                refine AW.aload_n 114 dX2_readsOrder_113 rfl (by rfl) ?_
                refine AW.dup 115 dX2_readsOrder_114 rfl rfl ?_
                refine AW.getfield 118 dX2_readsOrder_115 rfl fl_X2_22 (by assumption) (by rfl) ?_
                refine AW.iconst 119 dX2_readsOrder_118 rfl (nI 1) rfl ?_
                first | refine AW.iaddN 120 dX2_readsOrder_119 rfl ?_ | refine AW.iadd 120 dX2_readsOrder_119 rfl ?_
                refine AW.putfield 123 dX2_readsOrder_120 rfl fl_X2_22 (by assumption) (Nat.le_of_ble_eq_true rfl) (fun _ => ⟨rfl, rfl⟩) ?_
                refine AW.heap (hs h4 138 (ordO len (skF tx len b + 1) (fd + 1))) rfl ?_
                refine AW.iconst 124 dX2_readsOrder_123 rfl (nI 1) rfl ?_
                refine AW.zret dX2_readsOrder_124 rfl (by first | exact z_0 | exact z_1 | exact z_b01 _ | assumption) ?_
                exact hP _ (O4.fnd _ _) (fun z hz => by rw [hs_ne (by omega), f4 z hz])
              · have q : isB tx len (skF tx len b) 59 = false := by
                  rw [← Bool.not_eq_true]
                  exact fun q => c4 ((prI_eq (by omega) (o7 _)).mpr q)
                have eO : rdO tx len a (vl fd) = (skF tx len b, false, 0, f) := by
                  rw [rdO, if_pos hl, if_neg c, ← he]
                  show (if isB tx len (skF tx len b) 59 then _ else _) = _
                  rw [q]; rfl
                rw [eO] at hP
                refine AW.iconst 92 dX2_readsOrder_91 rfl (nI 0) rfl ?_
                refine AW.zret dX2_readsOrder_92 rfl (by first | exact z_0 | exact z_1 | exact z_b01 _ | assumption) ?_
                exact hP _ O2 f2
            · omega
          | succ k ih =>
            intro i b f h1 hi O1 f1 hb he o
            have x1 := O1.1
            refine AW.iload_n 38 dX2_readsOrder_37 rfl (by rfl) ?_
            refine AW.iload_n 39 dX2_readsOrder_38 rfl (by rfl) ?_
            refine AW.nge 78 42 dX2_readsOrder_39 (by decide) rfl (by omega) (by omega) (fun c3 => ?_) (fun c3 => ?_)
            · omega
            · have J : ∀ neg : Bool, neg = (decide (tx a = 120) && decide (i = 1)) → AW X2_readsOrder 58 [some (.ref 138), some (.int (nI (tx a))), some (.int (nI (argF (tx a)))), some (.int (nI i)), o] [.int (nI (b01 neg))] N (0, 0) h1 P := by
                intro neg hneg
                refine AW.istore 60 dX2_readsOrder_58 rfl (Nat.le_of_ble_eq_true rfl) rfl ?_
                refine AW.aload_n 61 dX2_readsOrder_60 rfl (by rfl) ?_
                refine AW.iload_n 62 dX2_readsOrder_61 rfl (by rfl) ?_
                refine AW.iload 64 dX2_readsOrder_62 rfl (by rfl) ?_
                refine AW.cV2 67 dX2_readsOrder_64 rfl mi_X2_readsNumber mv_X2_readsNumber lk_X2_48 ⟨(Nat.le_of_ble_eq_true rfl), (Nat.le_of_ble_eq_true rfl)⟩ rfl (by assumption) rfl (Nat.le_of_ble_eq_true rfl) (c_readsNumber O1 hb hf (by omega) (fun h2 O2 f2 => ?_))
                have hfd : upW vl fd f fd = f := if_pos rfl
                rw [upV_upW, upW_upW, hfd] at O2
                have f2' : ∀ z, z < 138 ∨ 182 ≤ z → h2 z = h z := fun z hz => by rw [f2 z hz, f1 z hz]
                rw [rdA, ← hneg] at he
                refine AW.zne 72 70 dX2_readsOrder_67 (by decide) rfl (fun c4 => ?_) (fun c4 => ?_)
                · refine AW.iinc1 75 dX2_readsOrder_72 rfl (by rfl) rfl ?_
                  refine AW.goto 37 dX2_readsOrder_75 (by decide) ?_
                  rw [c4, if_pos rfl] at he
                  exact ih (i + 1) _ _ h2 (by omega) O2 f2' (rdN_le neg hb).2 he _
                · rw [c4] at he
                  have he : ((rdN tx len neg b).1, false, upd f i (rdN tx len neg b).2.2) = rdA tx len (tx a) (argF (tx a)) 0 (a + 1) (vl fd) := he
                  have eO : rdO tx len a (vl fd) = ((rdN tx len neg b).1, false, 0, upd f i (rdN tx len neg b).2.2) := by
                    rw [rdO, if_pos hl, if_neg c, ← he]; rfl
                  rw [eO] at hP
                  refine AW.iconst 71 dX2_readsOrder_70 rfl (nI 0) rfl ?_
                  refine AW.zret dX2_readsOrder_71 rfl (by first | exact z_0 | exact z_1 | exact z_b01 _ | assumption) ?_
                  exact hP _ O2 f2'
              refine AW.iload_n 43 dX2_readsOrder_42 rfl (by rfl) ?_
              refine AW.bipush 45 dX2_readsOrder_43 rfl (nI 120) rfl ?_
              refine AW.nne 57 48 dX2_readsOrder_45 (by decide) rfl (by omega) (by omega) (fun c4 => ?_) (fun c4 => ?_)
              · refine AW.iconst 58 dX2_readsOrder_57 rfl (nI 0) rfl ?_
                exact J false (by rw [decide_eq_false c4]; rfl)
              · refine AW.iload_n 49 dX2_readsOrder_48 rfl (by rfl) ?_
                refine AW.iconst 50 dX2_readsOrder_49 rfl (nI 1) rfl ?_
                refine AW.nne 57 53 dX2_readsOrder_50 (by decide) rfl (by omega) (by omega) (fun c5 => ?_) (fun c5 => ?_)
                · refine AW.iconst 58 dX2_readsOrder_57 rfl (nI 0) rfl ?_
                  exact J false (by rw [decide_eq_false c5, Bool.and_false])
                · refine AW.iconst 54 dX2_readsOrder_53 rfl (nI 1) rfl ?_
                  refine AW.goto 58 dX2_readsOrder_54 (by decide) ?_
                  exact J true (by rw [decide_eq_true c4, decide_eq_true c5]; rfl)
        exact L (argF (tx a)) 0 (a + 1) (vl fd) _ (by omega) (by rw [upW_self]; exact O.at (a + 1)) (fun z hz => hs_ne (by omega)) (by omega) rfl none
      · omega
  · rw [prI, if_neg hl]
    have eO : rdO tx len a (vl fd) = (a, false, 0, vl fd) := by rw [rdO, if_neg hl]
    rw [eO] at hP
    refine AW.istore_n 5 dX2_readsOrder_4 rfl (Nat.le_of_ble_eq_true rfl) rfl ?_
    refine AW.iload_n 6 dX2_readsOrder_5 rfl (by rfl) ?_
    refine AW.cS1 9 dX2_readsOrder_6 rfl mi_X2_argumentsOf ms_X2_argumentsOf lk_X2_44 ⟨(Nat.le_of_ble_eq_true rfl), (Nat.le_of_ble_eq_true rfl)⟩ rfl (Nat.le_of_ble_eq_true rfl) (c_argumentsOfM ?_)
    refine AW.istore_n 10 dX2_readsOrder_9 rfl (Nat.le_of_ble_eq_true rfl) rfl ?_
    refine AW.iload_n 11 dX2_readsOrder_10 rfl (by rfl) ?_
    refine AW.ieq 23 14 dX2_readsOrder_11 (by decide) rfl (by omega) (fun c => ?_) (fun c => ?_)
    · refine AW.iconst 24 dX2_readsOrder_23 rfl (nI 0) rfl ?_
      refine AW.zret dX2_readsOrder_24 rfl (by first | exact z_0 | exact z_1 | exact z_b01 _ | assumption) ?_
      exact hP h (by rw [upW_self]; exact O) (fun _ _ => rfl)
    · exact absurd rfl c
/-- the orders from the place a on: the fault (none: no fault), how many, letters, values -/
def rdP (tx : Nat → Nat) (len : Nat) : Nat → Nat → Nat → (Nat → Int32) → (Nat → Nat → Int32) → Option Nat × Nat × (Nat → Int32) × (Nat → Nat → Int32)
  | 0, _, fd, lt, vl => (none, fd, lt, vl)
  | k + 1, a, fd, lt, vl =>
    if a < len then
      let o := rdO tx len a (vl fd)
      if o.2.1 then rdP tx len k (skF tx len o.1) (fd + 1) (upd lt fd (nI o.2.2.1)) (upW vl fd o.2.2.2) else (some o.1, fd, lt, upW vl fd o.2.2.2)
    else (none, fd, lt, vl)
def rdT (tx : Nat → Nat) (len : Nat) (lt : Nat → Int32) (vl : Nat → Nat → Int32) : Option Nat × Nat × (Nat → Int32) × (Nat → Nat → Int32) :=
  let t := rdP tx len 41 (skF tx len 0) 0 lt vl
  (match t.1 with
    | some e => some e
    | none => if 0 < t.2.1 then none else some len, t.2)
def fltI (o : Option Nat) : Int32 := match o with
  | some e => nI e
  | none => -1
theorem c_fault (O : OrdAt h tx len a fd lt vl) (hP : ∀ h' b, OrdAt h' tx len b (rdT tx len lt vl).2.1 (rdT tx len lt vl).2.2.1 (rdT tx len lt vl).2.2.2 → (∀ z, z < 138 ∨ 182 ≤ z → h' z = h z) → P (some (.int (fltI (rdT tx len lt vl).1))) N h') : AM X2_fault [.ref 138] N h P := by
  have o6 := O.2.2.2.2.2.1
  have o7 := O.2.2.2.2.2.2
  have x138 := O.1
  refine AM.of0 rfl (Nat.le_of_ble_eq_true rfl) rfl [some (.ref 138), none] rfl ?_
  refine AW.aload_n 1 dX2_fault_0 rfl (by rfl) ?_
  refine AW.iconst 2 dX2_fault_1 rfl (nI 0) rfl ?_
  refine AW.putfield 5 dX2_fault_2 rfl fl_X2_19 (by assumption) (Nat.le_of_ble_eq_true rfl) (fun _ => ⟨rfl, rfl⟩) ?_
  refine AW.heap (hs h 138 (ordO len 0 fd)) rfl ?_
  have y138 : hs h 138 (ordO len 0 fd) 138 = ordO len 0 fd := hs_eq _ _ _
  refine AW.aload_n 6 dX2_fault_5 rfl (by rfl) ?_
  refine AW.iconst 7 dX2_fault_6 rfl (nI 0) rfl ?_
  refine AW.putfield 10 dX2_fault_7 rfl fl_X2_22 (by assumption) (Nat.le_of_ble_eq_true rfl) (fun _ => ⟨rfl, rfl⟩) ?_
  refine AW.heap (hs h 138 (ordO len 0 0)) (hs_hs _ _ _ _) ?_
  have O1 := O.fnd 0 0
  have f1 : ∀ z, z < 138 ∨ 182 ≤ z → hs h 138 (ordO len 0 0) z = h z := fun z hz => hs_ne (by omega)
  generalize hs h 138 (ordO len 0 0) = h1 at O1 f1 ⊢
  have x1 := O1.1
  refine AW.aload_n 11 dX2_fault_10 rfl (by rfl) ?_
  refine AW.cV0 14 dX2_fault_11 rfl mi_X2_skipBlanks mv_X2_skipBlanks lk_X2_33 ⟨(Nat.le_of_ble_eq_true rfl), (Nat.le_of_ble_eq_true rfl)⟩ rfl (by assumption) rfl (Nat.le_of_ble_eq_true rfl) (c_skipBlanks O1 (Nat.zero_le _) ?_)
  have O2 := O1.at (skF tx len 0)
  have f2 : ∀ z, z < 138 ∨ 182 ≤ z → hs h1 138 (ordO len (skF tx len 0) 0) z = h z := fun z hz => by rw [hs_ne (by omega), f1 z hz]
  generalize hs h1 138 (ordO len (skF tx len 0) 0) = h2 at O2 f2 ⊢
  refine AW.iconst 15 dX2_fault_14 rfl (nI 0) rfl ?_
  refine AW.istore_n 16 dX2_fault_15 rfl (Nat.le_of_ble_eq_true rfl) rfl ?_
  have E : ∀ b fd lt' vl' h3 o, OrdAt h3 tx len b fd lt' vl' → (∀ z, z < 138 ∨ 182 ≤ z → h3 z = h z) → fd ≤ 41 → (none, fd, lt', vl') = rdP tx len 41 (skF tx len 0) 0 lt vl → AW X2_fault 55 [some (.ref 138), o] [] N (0, 0) h3 P := by
    intro b fd lt' vl' h3 o O3 f3 hfd he
    have x3 := O3.1
    rw [rdT, ← he] at hP
    dsimp only at hP
    refine AW.aload_n 56 dX2_fault_55 rfl (by rfl) ?_
    refine AW.getfield 59 dX2_fault_56 rfl fl_X2_22 (by assumption) (by rfl) ?_
    refine AW.if_le 66 62 dX2_fault_59 (by decide) rfl (fun c => ?_) (fun c => ?_)
    · have : fd = 0 := by
        rcases Nat.eq_zero_or_pos fd with q | q
        · exact q
        · exact absurd c (nI_nle q (by omega))
      subst this
      refine AW.aload_n 67 dX2_fault_66 rfl (by rfl) ?_
      refine AW.getfield 70 dX2_fault_67 rfl fl_X2_15 (by assumption) (by rfl) ?_
      refine AW.iret dX2_fault_70 rfl ?_
      exact hP h3 b O3 f3
    · have h0 : 0 < fd := by
        rcases Nat.eq_zero_or_pos fd with q | q
        · subst q; exact absurd (by decide) c
        · exact q
      rw [if_pos h0] at hP
      refine AW.iconst 63 dX2_fault_62 rfl (-1) rfl ?_
      refine AW.goto 70 dX2_fault_63 (by decide) ?_
      refine AW.iret dX2_fault_70 rfl ?_
      exact hP h3 b O3 f3
  have L : ∀ k i b lt' vl' h3, i + k = 41 → OrdAt h3 tx len b i lt' vl' → (∀ z, z < 138 ∨ 182 ≤ z → h3 z = h z) → b ≤ len → 3 * i ≤ b → rdP tx len k b i lt' vl' = rdP tx len 41 (skF tx len 0) 0 lt vl → AW X2_fault 16 [some (.ref 138), some (.int (nI i))] [] N (0, 0) h3 P := by
    intro k
    induction k with
    | zero =>
      intro i b lt' vl' h3 hi O3 f3 hb h3i he
      have he : (none, i, lt', vl') = rdP tx len 41 (skF tx len 0) 0 lt vl := he
      refine AW.iload_n 17 dX2_fault_16 rfl (by rfl) ?_
      refine AW.bipush 19 dX2_fault_17 rfl (nI 40) rfl ?_
      refine AW.ngt 55 22 dX2_fault_19 (by decide) rfl (by omega) (by omega) (fun c => ?_) (fun c => ?_)
      · exact E b i lt' vl' h3 _ O3 f3 (by omega) he
      · omega
    | succ k ih =>
      intro i b lt' vl' h3 hi O3 f3 hb h3i he
      have x3 := O3.1
      refine AW.iload_n 17 dX2_fault_16 rfl (by rfl) ?_
      refine AW.bipush 19 dX2_fault_17 rfl (nI 40) rfl ?_
      refine AW.ngt 55 22 dX2_fault_19 (by decide) rfl (by omega) (by omega) (fun c => ?_) (fun c => ?_)
      · omega
      · refine AW.aload_n 23 dX2_fault_22 rfl (by rfl) ?_
        refine AW.getfield 26 dX2_fault_23 rfl fl_X2_19 (by assumption) (by rfl) ?_
        refine AW.aload_n 27 dX2_fault_26 rfl (by rfl) ?_
        refine AW.getfield 30 dX2_fault_27 rfl fl_X2_15 (by assumption) (by rfl) ?_
        refine AW.nge 55 33 dX2_fault_30 (by decide) rfl (by omega) (by omega) (fun c2 => ?_) (fun c2 => ?_)
        · rw [rdP, if_neg (by omega)] at he
          exact E b i lt' vl' h3 _ O3 f3 (by omega) he
        · rw [rdP, if_pos c2] at he
          dsimp only at he
          refine AW.aload_n 34 dX2_fault_33 rfl (by rfl) ?_
          refine AW.cV0 37 dX2_fault_34 rfl mi_X2_readsOrder mv_X2_readsOrder lk_X2_36 ⟨(Nat.le_of_ble_eq_true rfl), (Nat.le_of_ble_eq_true rfl)⟩ rfl (by assumption) rfl (Nat.le_of_ble_eq_true rfl) (c_readsOrder O3 hb (by omega) (fun h4 O4 f4 => ?_))
          have f4' : ∀ z, z < 138 ∨ 182 ≤ z → h4 z = h z := fun z hz => by rw [f4 z hz, f3 z hz]
          have x4 := O4.1
          have hle := rdO_le (tx := tx) (f := vl' i) hb
          refine AW.zne 45 40 dX2_fault_37 (by decide) rfl (fun c3 => ?_) (fun c3 => ?_)
          · rw [c3, if_pos rfl] at he
            rw [ordF, ordL, c3, if_pos rfl, if_pos rfl] at O4
            have hadv := rdO_adv c3
            refine AW.aload_n 46 dX2_fault_45 rfl (by rfl) ?_
            refine AW.cV0 49 dX2_fault_46 rfl mi_X2_skipBlanks mv_X2_skipBlanks lk_X2_33 ⟨(Nat.le_of_ble_eq_true rfl), (Nat.le_of_ble_eq_true rfl)⟩ rfl (by assumption) rfl (Nat.le_of_ble_eq_true rfl) (c_skipBlanks O4 hle.2.1 ?_)
            have O5 := O4.at (skF tx len (rdO tx len b (vl' i)).1)
            have hg := skF_ge (tx := tx) (len := len) (rdO tx len b (vl' i)).1
            refine AW.iinc1 52 dX2_fault_49 rfl (by rfl) rfl ?_
            refine AW.goto 16 dX2_fault_52 (by decide) ?_
            exact ih (i + 1) _ _ _ _ (by omega) O5 (fun z hz => by rw [hs_ne (by omega), f4' z hz]) (skF_le hle.2.1) (by omega) he
          · rw [c3] at he
            have he : (some (rdO tx len b (vl' i)).1, i, lt', upW vl' i (rdO tx len b (vl' i)).2.2.2) = rdP tx len 41 (skF tx len 0) 0 lt vl := he
            have hP := hP
            rw [rdT, ← he] at hP
            rw [ordF, ordL, c3] at O4
            refine AW.aload_n 41 dX2_fault_40 rfl (by rfl) ?_
            refine AW.getfield 44 dX2_fault_41 rfl fl_X2_19 (by assumption) (by rfl) ?_
            refine AW.iret dX2_fault_44 rfl ?_
            exact hP h4 _ O4 f4'
  exact L 41 0 (skF tx len 0) lt vl h2 (by omega) O2 f2 (skF_le (Nat.zero_le _)) (Nat.zero_le _) rfl
theorem c_append {c : Nat} (O : OrdAt h tx len a fd lt vl) (hl : len < 120) (hc : c < 128) (hP : ∀ h', OrdAt h' (upN tx len c) (len + 1) a fd lt vl → (∀ z, z < 138 ∨ 182 ≤ z → h' z = h z) → P none N h') : AM X2_append [.ref 138, .int (nI c)] N h P := by
  obtain ⟨o1, o2, o3, o4, o5, o6, o7⟩ := O
  refine AM.of0 rfl (Nat.le_of_ble_eq_true rfl) rfl [some (.ref 138), some (.int (nI c))] rfl ?_
  refine AW.aload_n 1 dX2_append_0 rfl (by rfl) ?_
  refine AW.getfield 4 dX2_append_1 rfl fl_X2_15 (by assumption) (by rfl) ?_
  refine AW.bipush 6 dX2_append_4 rfl (nI 120) rfl ?_
  refine AW.nge 29 9 dX2_append_6 (by decide) rfl (by omega) (by omega) (fun cc => ?_) (fun cc => ?_)
  · omega
  · refine AW.aload_n 10 dX2_append_9 rfl (by rfl) ?_
    refine AW.getfield 13 dX2_append_10 rfl fl_X2_9 (by assumption) (by rfl) ?_
    refine AW.aload_n 14 dX2_append_13 rfl (by rfl) ?_
    refine AW.getfield 17 dX2_append_14 rfl fl_X2_15 (by assumption) (by rfl) ?_
    refine AW.iload_n 18 dX2_append_17 rfl (by rfl) ?_
    refine AW.iastore 19 _ dX2_append_18 rfl (by assumption) (ix_nI (by omega)) (by omega) ?_
    rw [upd_nI]
    have x138 : hs h 139 (iA 120 (upN tx len c)) 138 = ordO len a fd := by rw [hs_ne (by decide), o1]
    refine AW.aload_n 20 dX2_append_19 rfl (by rfl) ?_
    refine AW.dup 21 dX2_append_20 rfl rfl ?_
    refine AW.getfield 24 dX2_append_21 rfl fl_X2_15 (by assumption) (by rfl) ?_
    refine AW.iconst 25 dX2_append_24 rfl (nI 1) rfl ?_
    first | refine AW.iaddN 26 dX2_append_25 rfl ?_ | refine AW.iadd 26 dX2_append_25 rfl ?_
    refine AW.putfield 29 dX2_append_26 rfl fl_X2_15 (by assumption) (Nat.le_of_ble_eq_true rfl) (fun _ => ⟨rfl, rfl⟩) ?_
    refine AW.heap (hs (hs h 139 (iA 120 (upN tx len c))) 138 (ordO (len + 1) a fd)) rfl ?_
    refine AW.vret dX2_append_29 rfl ?_
    refine hP _ ⟨hs_eq _ _ _, by rw [hs_ne (by decide), hs_eq], by rw [hs_ne (by decide), hs_ne (by decide), o3], by rw [hs_ne (by decide), hs_ne (by decide), o4], fun i hi => by rw [hs_ne (by omega), hs_ne (by omega), o5 i hi], by omega, fun i => ?_⟩ (fun z hz => by rw [hs_ne (by omega), hs_ne (by omega)])
    unfold upN
    split
    · exact hc
    · exact o7 i
end ORD
