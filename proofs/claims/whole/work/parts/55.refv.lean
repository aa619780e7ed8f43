/-! THE MODEL, thirty-second part: read, numbersOf, an order -/
section REFV
variable {N n : Nat} {h : aH} {P : aP} {tx : Nat → Nat} {len : Nat} {ps la ma od : Int32} {d : Int64} {a : Nat}
theorem r_hereK {f : Int32} (x196 : h 196 = modO ps (nI len) la ma (nI a) f od d) (x201 : h 201 = iA 120 tx) (hl : len ≤ 120) (ht : ∀ i, tx i < 128) (ha : a ≤ len) (hP : P (some (.int (prI tx len (skF tx len a)))) N (hs h 196 (modO ps (nI len) la ma (nI (skF tx len a)) f od d))) : AM X8_here [.ref 196] N h P := by
  have := r_here (h := h) (P := P) (N := N) (ps := ps) (la := la) (ma := ma) (od := od) (d := d) (f := f) x201 hl ht ha hP
  rw [hs_self x196] at this
  exact this
theorem r_mustK {f : Option Nat} {b : Bool} (x196 : h 196 = modO ps (nI len) la ma (nI a) (fltI f) od d) (ha : a < 1000) (hf : ∀ e, f = some e → e < 1000) (hP : P none N (hs h 196 (modO ps (nI len) la ma (nI a) (fltI (mstF f b a)) od d))) : AM X8_must [.ref 196, .int (nI (b01 b))] N h P := by
  have := r_must (h := h) (P := P) (N := N) (ps := ps) (la := la) (ma := ma) (od := od) (d := d) (len := len) ha hf hP
  rw [hs_self x196] at this
  exact this
theorem r_read {neg : Bool} (x201 : h 201 = iA 120 tx) (hl : len ≤ 120) (ht : ∀ i, tx i < 128) (ha : a ≤ len) (hP : P (some (.int (rdN tx len neg a).2.2)) N (hs h 196 (modO ps (nI len) la ma (nI (rdN tx len neg a).1) (fltI (if (rdN tx len neg a).2.1 then none else some (rdN tx len neg a).1)) od d))) : AM X8_read [.ref 196, .int (nI (b01 neg))] N (hs h 196 (modO ps (nI len) la ma (nI a) (fltI none) od d)) P := by
  have y196 := hs_eq h 196 (modO ps (nI len) la ma (nI a) (fltI none) od d)
  have ha1 := skF_le (tx := tx) ha
  refine AM.of0 rfl (Nat.le_of_ble_eq_true rfl) rfl [some (.ref 196), some (.int (nI (b01 neg)))] rfl ?_
  refine AW.aload_n 1 dX8_read_0 rfl (by rfl) ?_
  refine AW.cV0 4 dX8_read_1 rfl mi_X8_here mv_X8_here lk_X8_235 ⟨(Nat.le_of_ble_eq_true rfl), (Nat.le_of_ble_eq_true rfl)⟩ rfl (by assumption) rfl (Nat.le_of_ble_eq_true rfl) (r_here x201 hl ht ha ?_)
  have z196 := hs_eq h 196 (modO ps (nI len) la ma (nI (skF tx len a)) (fltI none) od d)
  have F : (neg && isB tx len (skF tx len a) 45) = false → AW X8_read 29 [some (.ref 196), some (.int (nI (b01 neg)))] [] N (0, 0) (hs h 196 (modO ps (nI len) la ma (nI (skF tx len a)) (fltI none) od d)) P := by
    intro e
    refine AW.aload_n 30 dX8_read_29 rfl (by rfl) ?_
    refine AW.cV0 33 dX8_read_30 rfl mi_X8_plain mv_X8_plain lk_X8_238 ⟨(Nat.le_of_ble_eq_true rfl), (Nat.le_of_ble_eq_true rfl)⟩ rfl (by assumption) rfl (Nat.le_of_ble_eq_true rfl) (r_plain x201 hl ht (by omega) ?_)
    refine AW.iret dX8_read_33 rfl ?_
    have eN : rdN tx len neg a = ((rdD tx len 4 (skF tx len a) 0 0).1, (decide (0 < (rdD tx len 4 (skF tx len a) 0 0).2.1) && !dgB tx len (rdD tx len 4 (skF tx len a) 0 0).1), nI (rdD tx len 4 (skF tx len a) 0 0).2.2) := by
      unfold rdN
      dsimp only
      rw [e]
      rfl
    rw [eN] at hP
    exact hP
  refine AW.bipush 6 dX8_read_4 rfl (nI 45) rfl ?_
  refine AW.icmp_ne 29 9 dX8_read_6 (by decide) rfl (fun c => ?_) (fun c => ?_)
  · exact F (by rw [show isB tx len (skF tx len a) 45 = false from Bool.eq_false_iff.mpr (fun q => c ((prI_eq (by omega) (ht _)).mpr q)), Bool.and_false])
  · refine AW.iload_n 10 dX8_read_9 rfl (by rfl) ?_
    refine AW.zeq 29 13 dX8_read_10 (by decide) rfl (fun c2 => ?_) (fun c2 => ?_)
    · exact F (by rw [c2, Bool.false_and])
    · have q : isB tx len (skF tx len a) 45 = true := (prI_eq (by omega) (ht _)).mp c
      refine AW.aload_n 14 dX8_read_13 rfl (by rfl) ?_
      refine AW.dup 15 dX8_read_14 rfl rfl ?_
      refine AW.getfield 18 dX8_read_15 rfl fl_X8_222 (by assumption) (by rfl) ?_
      refine AW.iconst 19 dX8_read_18 rfl (nI 1) rfl ?_
      first | refine AW.iaddN 20 dX8_read_19 rfl ?_ | refine AW.iadd 20 dX8_read_19 rfl ?_
      refine AW.putfield 23 dX8_read_20 rfl fl_X8_222 (by assumption) (Nat.le_of_ble_eq_true rfl) (fun _ => ⟨rfl, rfl⟩) ?_
      refine AW.heap (hs h 196 (modO ps (nI len) la ma (nI (skF tx len a + 1)) (fltI none) od d)) (by rw [hs_hs]; rfl) ?_
      have w196 := hs_eq h 196 (modO ps (nI len) la ma (nI (skF tx len a + 1)) (fltI none) od d)
      refine AW.aload_n 24 dX8_read_23 rfl (by rfl) ?_
      refine AW.cV0 27 dX8_read_24 rfl mi_X8_plain mv_X8_plain lk_X8_238 ⟨(Nat.le_of_ble_eq_true rfl), (Nat.le_of_ble_eq_true rfl)⟩ rfl (by assumption) rfl (Nat.le_of_ble_eq_true rfl) (r_plain x201 hl ht (by omega) ?_)
      refine AW.ineg 28 dX8_read_27 rfl ?_
      refine AW.iret dX8_read_28 rfl ?_
      have eN : rdN tx len neg a = ((rdD tx len 4 (skF tx len a + 1) 0 0).1, (decide (0 < (rdD tx len 4 (skF tx len a + 1) 0 0).2.1) && !dgB tx len (rdD tx len 4 (skF tx len a + 1) 0 0).1), - nI (rdD tx len 4 (skF tx len a + 1) 0 0).2.2) := by
        unfold rdN
        dsimp only
        rw [c2, q]
        rfl
      rw [eN] at hP
      exact hP
theorem r_readK {neg : Bool} (x196 : h 196 = modO ps (nI len) la ma (nI a) (fltI none) od d) (x201 : h 201 = iA 120 tx) (hl : len ≤ 120) (ht : ∀ i, tx i < 128) (ha : a ≤ len) (hP : P (some (.int (rdN tx len neg a).2.2)) N (hs h 196 (modO ps (nI len) la ma (nI (rdN tx len neg a).1) (fltI (if (rdN tx len neg a).2.1 then none else some (rdN tx len neg a).1)) od d))) : AM X8_read [.ref 196, .int (nI (b01 neg))] N h P := by
  have := r_read (h := h) (P := P) (N := N) (ps := ps) (la := la) (ma := ma) (od := od) (d := d) (neg := neg) x201 hl ht ha hP
  rw [hs_self x196] at this
  exact this
theorem r_numbersOf {c : Nat} (hc128 : c < 128) (hP : P (some (.int (if argF c = 0 then -1 else nI (argF c)))) N h) : AM X8_numbersOf [.int (nI c)] N h P := by
  have tc : (nI c).toInt = (c : Int) := nI_toInt (by omega)
  refine AM.of0 rfl (Nat.le_of_ble_eq_true rfl) rfl [some (.int (nI c))] rfl ?_
  refine AW.iload_n 1 dX8_numbersOf_0 rfl (by rfl) ?_
  have hc : c < 106 ∨ c = 106 ∨ c = 107 ∨ c = 108 ∨ c = 109 ∨ c = 110 ∨ c = 111 ∨ c = 112 ∨ c = 113 ∨ c = 114 ∨ c = 115 ∨ c = 116 ∨ c = 117 ∨ c = 118 ∨ c = 119 ∨ c = 120 ∨ 120 < c := by omega
  rcases hc with hc | rfl | rfl | rfl | rfl | rfl | rfl | rfl | rfl | rfl | rfl | rfl | rfl | rfl | rfl | rfl | hc
  · refine AW.tsOut 82 dX8_numbersOf_1 (Or.inl (by omega)) (by decide) ?_
    refine AW.iconst 83 dX8_numbersOf_82 rfl (-1) rfl ?_
    refine AW.iret dX8_numbersOf_83 rfl ?_
    rw [show argF c = 0 by unfold argF; rw [if_neg (by omega), if_neg (by omega), if_neg (by omega)]] at hP
    exact hP
  · refine AW.tsIn 80 dX8_numbersOf_1 (by omega) (by omega) rfl (by decide) ?_
    refine AW.iconst 81 dX8_numbersOf_80 rfl (nI 3) rfl ?_
    refine AW.iret dX8_numbersOf_81 rfl ?_
    exact hP
  · refine AW.tsIn 78 dX8_numbersOf_1 (by omega) (by omega) rfl (by decide) ?_
    refine AW.iconst 79 dX8_numbersOf_78 rfl (nI 2) rfl ?_
    refine AW.iret dX8_numbersOf_79 rfl ?_
    exact hP
  · refine AW.tsIn 82 dX8_numbersOf_1 (by omega) (by omega) rfl (by decide) ?_
    refine AW.iconst 83 dX8_numbersOf_82 rfl (-1) rfl ?_
    refine AW.iret dX8_numbersOf_83 rfl ?_
    exact hP
  · refine AW.tsIn 80 dX8_numbersOf_1 (by omega) (by omega) rfl (by decide) ?_
    refine AW.iconst 81 dX8_numbersOf_80 rfl (nI 3) rfl ?_
    refine AW.iret dX8_numbersOf_81 rfl ?_
    exact hP
  · refine AW.tsIn 76 dX8_numbersOf_1 (by omega) (by omega) rfl (by decide) ?_
    refine AW.iconst 77 dX8_numbersOf_76 rfl (nI 1) rfl ?_
    refine AW.iret dX8_numbersOf_77 rfl ?_
    exact hP
  · refine AW.tsIn 82 dX8_numbersOf_1 (by omega) (by omega) rfl (by decide) ?_
    refine AW.iconst 83 dX8_numbersOf_82 rfl (-1) rfl ?_
    refine AW.iret dX8_numbersOf_83 rfl ?_
    exact hP
  · refine AW.tsIn 80 dX8_numbersOf_1 (by omega) (by omega) rfl (by decide) ?_
    refine AW.iconst 81 dX8_numbersOf_80 rfl (nI 3) rfl ?_
    refine AW.iret dX8_numbersOf_81 rfl ?_
    exact hP
  · refine AW.tsIn 82 dX8_numbersOf_1 (by omega) (by omega) rfl (by decide) ?_
    refine AW.iconst 83 dX8_numbersOf_82 rfl (-1) rfl ?_
    refine AW.iret dX8_numbersOf_83 rfl ?_
    exact hP
  · refine AW.tsIn 82 dX8_numbersOf_1 (by omega) (by omega) rfl (by decide) ?_
    refine AW.iconst 83 dX8_numbersOf_82 rfl (-1) rfl ?_
    refine AW.iret dX8_numbersOf_83 rfl ?_
    exact hP
  · refine AW.tsIn 82 dX8_numbersOf_1 (by omega) (by omega) rfl (by decide) ?_
    refine AW.iconst 83 dX8_numbersOf_82 rfl (-1) rfl ?_
    refine AW.iret dX8_numbersOf_83 rfl ?_
    exact hP
  · refine AW.tsIn 78 dX8_numbersOf_1 (by omega) (by omega) rfl (by decide) ?_
    refine AW.iconst 79 dX8_numbersOf_78 rfl (nI 2) rfl ?_
    refine AW.iret dX8_numbersOf_79 rfl ?_
    exact hP
  · refine AW.tsIn 78 dX8_numbersOf_1 (by omega) (by omega) rfl (by decide) ?_
    refine AW.iconst 79 dX8_numbersOf_78 rfl (nI 2) rfl ?_
    refine AW.iret dX8_numbersOf_79 rfl ?_
    exact hP
  · refine AW.tsIn 82 dX8_numbersOf_1 (by omega) (by omega) rfl (by decide) ?_
    refine AW.iconst 83 dX8_numbersOf_82 rfl (-1) rfl ?_
    refine AW.iret dX8_numbersOf_83 rfl ?_
    exact hP
  · refine AW.tsIn 82 dX8_numbersOf_1 (by omega) (by omega) rfl (by decide) ?_
    refine AW.iconst 83 dX8_numbersOf_82 rfl (-1) rfl ?_
    refine AW.iret dX8_numbersOf_83 rfl ?_
    exact hP
  · refine AW.tsIn 78 dX8_numbersOf_1 (by omega) (by omega) rfl (by decide) ?_
    refine AW.iconst 79 dX8_numbersOf_78 rfl (nI 2) rfl ?_
    refine AW.iret dX8_numbersOf_79 rfl ?_
    exact hP
  · refine AW.tsOut 82 dX8_numbersOf_1 (Or.inr (by omega)) (by decide) ?_
    refine AW.iconst 83 dX8_numbersOf_82 rfl (-1) rfl ?_
    refine AW.iret dX8_numbersOf_83 rfl ?_
    rw [show argF c = 0 by unfold argF; rw [if_neg (by omega), if_neg (by omega), if_neg (by omega)]] at hP
    exact hP
end REFV
