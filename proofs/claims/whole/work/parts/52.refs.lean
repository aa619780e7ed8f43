/-! THE MODEL, twenty-ninth part: reading: here, must, isFigure, plain, read -/
section REFS
variable {N n : Nat} {h : aH} {P : aP} {tx : Nat → Nat} {len : Nat} {ps la ma od f : Int32} {d : Int64} {a : Nat}
theorem skF_stop {a : Nat} (ha : a ≤ len) : skF tx len a = a ∨ (a < len ∧ tx a = 32 ∧ skF tx len a = skF tx len (a + 1)) := by
  unfold skF
  rcases Nat.lt_or_ge a len with c | c
  · obtain ⟨k, hk⟩ : ∃ k, len - a = k + 1 := ⟨len - a - 1, by omega⟩
    rw [hk, skB, if_pos c]
    by_cases e : tx a = 32
    · rw [if_pos e]
      exact Or.inr ⟨c, e, by rw [show len - (a + 1) = k by omega]⟩
    · rw [if_neg e]
      exact Or.inl rfl
  · rw [show len - a = 0 by omega]
    exact Or.inl rfl
theorem r_here (x201 : h 201 = iA 120 tx) (hl : len ≤ 120) (ht : ∀ i, tx i < 128) (ha : a ≤ len) (hP : P (some (.int (if skF tx len a < len then nI (tx (skF tx len a)) else -1))) N (hs h 196 (modO ps (nI len) la ma (nI (skF tx len a)) f od d))) : AM X8_here [.ref 196] N (hs h 196 (modO ps (nI len) la ma (nI a) f od d)) P := by
  refine AM.of0 rfl (Nat.le_of_ble_eq_true rfl) rfl [some (.ref 196)] rfl ?_
  have L : ∀ k a, a + k = len → skF tx len a = skF tx len a → (P (some (.int (if skF tx len a < len then nI (tx (skF tx len a)) else -1))) N (hs h 196 (modO ps (nI len) la ma (nI (skF tx len a)) f od d))) → AW X8_here 0 [some (.ref 196)] [] N (0, 0) (hs h 196 (modO ps (nI len) la ma (nI a) f od d)) P := by
    intro k
    induction k with
    | zero =>
      intro a hk _ hP
      have y196 := hs_eq h 196 (modO ps (nI len) la ma (nI a) f od d)
      have e : skF tx len a = a := by rcases @skF_stop tx len a (by omega) with e | e; exact e; omega
      rw [e, if_neg (by omega)] at hP
      refine AW.aload_n 1 dX8_here_0 rfl (by rfl) ?_
      refine AW.getfield 4 dX8_here_1 rfl fl_X8_222 (by assumption) (by rfl) ?_
      refine AW.aload_n 5 dX8_here_4 rfl (by rfl) ?_
      refine AW.getfield 8 dX8_here_5 rfl fl_X8_219 (by assumption) (by rfl) ?_
      refine AW.nge 38 11 dX8_here_8 (by decide) rfl (by omega) (by omega) (fun c => ?_) (fun c => ?_)
      · refine AW.aload_n 39 dX8_here_38 rfl (by rfl) ?_
        refine AW.getfield 42 dX8_here_39 rfl fl_X8_222 (by assumption) (by rfl) ?_
        refine AW.aload_n 43 dX8_here_42 rfl (by rfl) ?_
        refine AW.getfield 46 dX8_here_43 rfl fl_X8_219 (by assumption) (by rfl) ?_
        refine AW.nge 61 49 dX8_here_46 (by decide) rfl (by omega) (by omega) (fun c2 => ?_) (fun c2 => ?_)
        · refine AW.iconst 62 dX8_here_61 rfl (-1) rfl ?_
          refine AW.iret dX8_here_62 rfl ?_
          exact hP
        · omega
      · omega
    | succ k ih =>
      intro a hk _ hP
      have y196 := hs_eq h 196 (modO ps (nI len) la ma (nI a) f od d)
      have y201 := at_ne (a := 196) (e := modO ps (nI len) la ma (nI a) f od d) x201 (by decide)
      have t1 := ht a
      refine AW.aload_n 1 dX8_here_0 rfl (by rfl) ?_
      refine AW.getfield 4 dX8_here_1 rfl fl_X8_222 (by assumption) (by rfl) ?_
      refine AW.aload_n 5 dX8_here_4 rfl (by rfl) ?_
      refine AW.getfield 8 dX8_here_5 rfl fl_X8_219 (by assumption) (by rfl) ?_
      refine AW.nge 38 11 dX8_here_8 (by decide) rfl (by omega) (by omega) (fun c => ?_) (fun c => ?_)
      · omega
      · refine AW.aload_n 12 dX8_here_11 rfl (by rfl) ?_
        refine AW.getfield 15 dX8_here_12 rfl fl_X8_22 (by assumption) (by rfl) ?_
        refine AW.aload_n 16 dX8_here_15 rfl (by rfl) ?_
        refine AW.getfield 19 dX8_here_16 rfl fl_X8_222 (by assumption) (by rfl) ?_
        refine AW.iaload 20 _ dX8_here_19 rfl (by assumption) (by first | exact Or.inl rfl | exact Or.inr rfl) (ix_nI (by omega)) (by omega) ?_
        refine AW.bipush 22 dX8_here_20 rfl (nI 32) rfl ?_
        refine AW.nne 38 25 dX8_here_22 (by decide) rfl (by omega) (by omega) (fun c2 => ?_) (fun c2 => ?_)
        · have e : skF tx len a = a := by rcases @skF_stop tx len a (by omega) with e | e; exact e; exact absurd e.2.1 c2
          rw [e, if_pos (by omega)] at hP
          refine AW.aload_n 39 dX8_here_38 rfl (by rfl) ?_
          refine AW.getfield 42 dX8_here_39 rfl fl_X8_222 (by assumption) (by rfl) ?_
          refine AW.aload_n 43 dX8_here_42 rfl (by rfl) ?_
          refine AW.getfield 46 dX8_here_43 rfl fl_X8_219 (by assumption) (by rfl) ?_
          refine AW.nge 61 49 dX8_here_46 (by decide) rfl (by omega) (by omega) (fun c3 => ?_) (fun c3 => ?_)
          · omega
          · refine AW.aload_n 50 dX8_here_49 rfl (by rfl) ?_
            refine AW.getfield 53 dX8_here_50 rfl fl_X8_22 (by assumption) (by rfl) ?_
            refine AW.aload_n 54 dX8_here_53 rfl (by rfl) ?_
            refine AW.getfield 57 dX8_here_54 rfl fl_X8_222 (by assumption) (by rfl) ?_
            refine AW.iaload 58 _ dX8_here_57 rfl (by assumption) (by first | exact Or.inl rfl | exact Or.inr rfl) (ix_nI (by omega)) (by omega) ?_
            refine AW.goto 62 dX8_here_58 (by decide) ?_
            refine AW.iret dX8_here_62 rfl ?_
            exact hP
        · refine AW.aload_n 26 dX8_here_25 rfl (by rfl) ?_
          refine AW.dup 27 dX8_here_26 rfl rfl ?_
          refine AW.getfield 30 dX8_here_27 rfl fl_X8_222 (by assumption) (by rfl) ?_
          refine AW.iconst 31 dX8_here_30 rfl (nI 1) rfl ?_
          first | refine AW.iaddN 32 dX8_here_31 rfl ?_ | refine AW.iadd 32 dX8_here_31 rfl ?_
          refine AW.putfield 35 dX8_here_32 rfl fl_X8_222 (by assumption) (Nat.le_of_ble_eq_true rfl) (fun _ => ⟨rfl, rfl⟩) ?_
          refine AW.heap (hs h 196 (modO ps (nI len) la ma (nI (a + 1)) f od d)) (by rw [hs_hs]; rfl) ?_
          refine AW.goto 0 dX8_here_35 (by decide) ?_
          have e : skF tx len a = skF tx len (a + 1) := by
            rcases @skF_stop tx len a (by omega) with e | e
            · exfalso
              have c3 : a < len := by omega
              obtain ⟨k', hk'⟩ : ∃ k', len - a = k' + 1 := ⟨len - a - 1, by omega⟩
              unfold skF at e
              rw [hk', skB, if_pos c3, if_pos c2] at e
              have := (@skB_le tx len k' (a + 1)).1
              omega
            · exact e.2.2
          rw [e] at hP
          exact ih (a + 1) (by omega) rfl hP
  exact L (len - a) a (by omega) rfl hP
end REFS
