/-! THE MODEL, thirty-first part: plain, read -/
section REFU
variable {N n : Nat} {h : aH} {P : aP} {tx : Nat → Nat} {len : Nat} {ps la ma od : Int32} {d : Int64} {a : Nat}
theorem dgB_t {tx : Nat → Nat} {len a : Nat} (h : dgB tx len a = true) : a < len ∧ 48 ≤ tx a ∧ tx a ≤ 57 := by
  rw [dgB, Bool.and_eq_true, decide_eq_true_iff, decide_eq_true_iff] at h
  exact h
def plF (tx : Nat → Nat) (len a : Nat) : Option Nat := if decide (0 < (rdD tx len 4 a 0 0).2.1) && !dgB tx len (rdD tx len 4 a 0 0).1 then none else some (rdD tx len 4 a 0 0).1
theorem r_plain (x201 : h 201 = iA 120 tx) (hl : len ≤ 120) (ht : ∀ i, tx i < 128) (ha : a < 900) (hP : P (some (.int (nI (rdD tx len 4 a 0 0).2.2))) N (hs h 196 (modO ps (nI len) la ma (nI (rdD tx len 4 a 0 0).1) (fltI (plF tx len a)) od d))) : AM X8_plain [.ref 196] N (hs h 196 (modO ps (nI len) la ma (nI a) (fltI none) od d)) P := by
  refine AM.of0 rfl (Nat.le_of_ble_eq_true rfl) rfl [some (.ref 196), none, none] rfl ?_
  have y196 := hs_eq h 196 (modO ps (nI len) la ma (nI a) (fltI none) od d)
  refine AW.aload_n 1 dX8_plain_0 rfl (by rfl) ?_
  refine AW.aload_n 2 dX8_plain_1 rfl (by rfl) ?_
  refine AW.cV0 5 dX8_plain_2 rfl mi_X8_isFigure mv_X8_isFigure lk_X8_228 ⟨(Nat.le_of_ble_eq_true rfl), (Nat.le_of_ble_eq_true rfl)⟩ rfl (by assumption) rfl (Nat.le_of_ble_eq_true rfl) (r_isFigure x201 hl ht (by omega) ?_)
  refine AW.cV1 8 dX8_plain_5 rfl mi_X8_must mv_X8_must lk_X8_231 ⟨(Nat.le_of_ble_eq_true rfl), (Nat.le_of_ble_eq_true rfl)⟩ rfl (by assumption) rfl (Nat.le_of_ble_eq_true rfl) (r_must (b := dgB tx len a) (f := none) (by omega) (fun e q => by cases q) ?_)
  refine AW.iconst 9 dX8_plain_8 rfl (nI 0) rfl ?_
  refine AW.istore_n 10 dX8_plain_9 rfl (Nat.le_of_ble_eq_true rfl) rfl ?_
  refine AW.iconst 11 dX8_plain_10 rfl (nI 0) rfl ?_
  refine AW.istore_n 12 dX8_plain_11 rfl (Nat.le_of_ble_eq_true rfl) rfl ?_
  have fin : ∀ b v i f, b < 1000 → (∀ e, f = some e → e < 1000) → (∃ u, rdD tx len 4 a 0 0 = (b, u, v) ∧ mstF f (!dgB tx len b) b = plF tx len a) → AW X8_plain 66 [some (.ref 196), some (.int (nI v)), some (.int (nI i))] [] N (0, 0) (hs h 196 (modO ps (nI len) la ma (nI b) (fltI f) od d)) P := by
    intro b v i f hb hf ⟨u, e1, e2⟩
    have y196 := hs_eq h 196 (modO ps (nI len) la ma (nI b) (fltI f) od d)
    have J : ∀ t, t = !dgB tx len b → AW X8_plain 79 [some (.ref 196), some (.int (nI v)), some (.int (nI i))] [.int (nI (b01 t)), .ref 196] N (0, 0) (hs h 196 (modO ps (nI len) la ma (nI b) (fltI f) od d)) P := by
      intro t ht'
      subst ht'
      refine AW.cV1 82 dX8_plain_79 rfl mi_X8_must mv_X8_must lk_X8_231 ⟨(Nat.le_of_ble_eq_true rfl), (Nat.le_of_ble_eq_true rfl)⟩ rfl (by assumption) rfl (Nat.le_of_ble_eq_true rfl) (r_must hb hf ?_)
      rw [e2]
      refine AW.iload_n 83 dX8_plain_82 rfl (by rfl) ?_
      refine AW.iret dX8_plain_83 rfl ?_
      rw [e1] at hP
      exact hP
    refine AW.aload_n 67 dX8_plain_66 rfl (by rfl) ?_
    refine AW.aload_n 68 dX8_plain_67 rfl (by rfl) ?_
    refine AW.cV0 71 dX8_plain_68 rfl mi_X8_isFigure mv_X8_isFigure lk_X8_228 ⟨(Nat.le_of_ble_eq_true rfl), (Nat.le_of_ble_eq_true rfl)⟩ rfl (by assumption) rfl (Nat.le_of_ble_eq_true rfl) (r_isFigure x201 hl ht hb ?_)
    refine AW.zne 78 74 dX8_plain_71 (by decide) rfl (fun c => ?_) (fun c => ?_)
    · refine AW.iconst 79 dX8_plain_78 rfl (nI 0) rfl ?_
      exact J false (by rw [c]; rfl)
    · refine AW.iconst 75 dX8_plain_74 rfl (nI 1) rfl ?_
      refine AW.goto 79 dX8_plain_75 (by decide) ?_
      exact J true (by rw [c]; rfl)
  rcases c0 : dgB tx len a
  · rw [show mstF none false a = some a from rfl]
    refine AW.iload_n 13 dX8_plain_12 rfl (by rfl) ?_
    refine AW.iconst 14 dX8_plain_13 rfl (nI 4) rfl ?_
    refine AW.nge 66 17 dX8_plain_14 (by decide) rfl (by omega) (by omega) (fun c1 => ?_) (fun c1 => ?_)
    · omega
    · have y196 := hs_eq h 196 (modO ps (nI len) la ma (nI a) (fltI (some a)) od d)
      refine AW.aload_n 18 dX8_plain_17 rfl (by rfl) ?_
      refine AW.cV0 21 dX8_plain_18 rfl mi_X8_isFigure mv_X8_isFigure lk_X8_228 ⟨(Nat.le_of_ble_eq_true rfl), (Nat.le_of_ble_eq_true rfl)⟩ rfl (by assumption) rfl (Nat.le_of_ble_eq_true rfl) (r_isFigure x201 hl ht (by omega) ?_)
      rw [c0]
      refine AW.zeq 66 24 dX8_plain_21 (by decide) rfl (fun c2 => ?_) (fun c2 => ?_)
      · have e : rdD tx len 4 a 0 0 = (a, 0, 0) := by rw [rdD, if_neg (by rw [c0]; decide)]
        refine fin a 0 0 (some a) (by omega) (fun e q => by cases q; omega) ⟨0, e, ?_⟩
        rw [plF, e]
        rfl
      · exact absurd c2 (by decide)
  · rw [show mstF none true a = none from rfl]
    obtain ⟨T, hT⟩ : ∃ T, T = rdD tx len 4 a 0 0 := ⟨_, rfl⟩
    have L : ∀ k i, i + k = 4 → ∀ b u v, b < 990 + i → v < 10 ^ i → T = rdD tx len k b u v → (0 < u ∨ dgB tx len b = true ∧ 0 < k) → AW X8_plain 12 [some (.ref 196), some (.int (nI v)), some (.int (nI i))] [] N (0, 0) (hs h 196 (modO ps (nI len) la ma (nI b) (fltI none) od d)) P := by
      have stop : ∀ b u v i, b < 1000 → T = (b, u, v) → 0 < u → AW X8_plain 66 [some (.ref 196), some (.int (nI v)), some (.int (nI i))] [] N (0, 0) (hs h 196 (modO ps (nI len) la ma (nI b) (fltI none) od d)) P := by
        intro b u v i hb e hu
        rw [hT] at e
        refine fin b v i none hb (fun e q => by cases q) ⟨u, e, ?_⟩
        rw [plF, e, decide_eq_true hu, Bool.true_and]
        rfl
      intro k
      induction k with
      | zero =>
        intro i hi b u v hb hv e hu
        refine AW.iload_n 13 dX8_plain_12 rfl (by rfl) ?_
        refine AW.iconst 14 dX8_plain_13 rfl (nI 4) rfl ?_
        refine AW.nge 66 17 dX8_plain_14 (by decide) rfl (by omega) (by omega) (fun c1 => ?_) (fun c1 => ?_)
        · refine stop b u v i (by omega) (by rw [e, rdD]) ?_
          rcases hu with q | q
          · exact q
          · omega
        · omega
      | succ k ih =>
        intro i hi b u v hb hv e hu
        have y196 := hs_eq h 196 (modO ps (nI len) la ma (nI b) (fltI none) od d)
        have y201 := at_ne (a := 196) (e := modO ps (nI len) la ma (nI b) (fltI none) od d) x201 (by decide)
        have p4 : 10 ^ i ≤ 10 ^ 3 := Nat.pow_le_pow_right (by decide) (by omega)
        refine AW.iload_n 13 dX8_plain_12 rfl (by rfl) ?_
        refine AW.iconst 14 dX8_plain_13 rfl (nI 4) rfl ?_
        refine AW.nge 66 17 dX8_plain_14 (by decide) rfl (by omega) (by omega) (fun c1 => ?_) (fun c1 => ?_)
        · omega
        · refine AW.aload_n 18 dX8_plain_17 rfl (by rfl) ?_
          refine AW.cV0 21 dX8_plain_18 rfl mi_X8_isFigure mv_X8_isFigure lk_X8_228 ⟨(Nat.le_of_ble_eq_true rfl), (Nat.le_of_ble_eq_true rfl)⟩ rfl (by assumption) rfl (Nat.le_of_ble_eq_true rfl) (r_isFigure x201 hl ht (by omega) ?_)
          rw [rdD] at e
          refine AW.zeq 66 24 dX8_plain_21 (by decide) rfl (fun c2 => ?_) (fun c2 => ?_)
          · rw [if_neg (by rw [c2]; decide)] at e
            refine stop b u v i (by omega) e ?_
            rcases hu with q | q
            · exact q
            · rw [q.1] at c2; exact absurd c2 (by decide)
          · rw [if_pos c2] at e
            obtain ⟨d1, d2, d3⟩ := dgB_t c2
            refine AW.aload_n 25 dX8_plain_24 rfl (by rfl) ?_
            refine AW.getfield 28 dX8_plain_25 rfl fl_X8_225 (by assumption) (by rfl) ?_
            refine AW.iconst 29 dX8_plain_28 rfl (-1) rfl ?_
            refine AW.icmp_ne 66 32 dX8_plain_29 (by decide) rfl (fun c3 => ?_) (fun c3 => ?_)
            · exact absurd rfl c3
            · refine AW.bipush 34 dX8_plain_32 rfl (nI 10) rfl ?_
              refine AW.iload_n 35 dX8_plain_34 rfl (by rfl) ?_
              first | refine AW.imulN 36 dX8_plain_35 rfl ?_ | refine AW.imul 36 dX8_plain_35 rfl ?_
              refine AW.aload_n 37 dX8_plain_36 rfl (by rfl) ?_
              refine AW.getfield 40 dX8_plain_37 rfl fl_X8_22 (by assumption) (by rfl) ?_
              refine AW.aload_n 41 dX8_plain_40 rfl (by rfl) ?_
              refine AW.getfield 44 dX8_plain_41 rfl fl_X8_222 (by assumption) (by rfl) ?_
              refine AW.iaload 45 _ dX8_plain_44 rfl (by assumption) (by first | exact Or.inl rfl | exact Or.inr rfl) (ix_nI (by omega)) (by omega) ?_
              first | refine AW.iaddN 46 dX8_plain_45 rfl ?_ | refine AW.iadd 46 dX8_plain_45 rfl ?_
              refine AW.bipush 48 dX8_plain_46 rfl (nI 48) rfl ?_
              first | refine AW.isubN 49 dX8_plain_48 rfl (by omega) ?_ | refine AW.isub 49 dX8_plain_48 rfl ?_
              refine AW.istore_n 50 dX8_plain_49 rfl (Nat.le_of_ble_eq_true rfl) rfl ?_
              refine AW.aload_n 51 dX8_plain_50 rfl (by rfl) ?_
              refine AW.dup 52 dX8_plain_51 rfl rfl ?_
              refine AW.getfield 55 dX8_plain_52 rfl fl_X8_222 (by assumption) (by rfl) ?_
              refine AW.iconst 56 dX8_plain_55 rfl (nI 1) rfl ?_
              first | refine AW.iaddN 57 dX8_plain_56 rfl ?_ | refine AW.iadd 57 dX8_plain_56 rfl ?_
              refine AW.putfield 60 dX8_plain_57 rfl fl_X8_222 (by assumption) (Nat.le_of_ble_eq_true rfl) (fun _ => ⟨rfl, rfl⟩) ?_
              refine AW.heap (hs h 196 (modO ps (nI len) la ma (nI (b + 1)) (fltI none) od d)) (by rw [hs_hs]; rfl) ?_
              rw [show 10 * v + tx b - 48 = 10 * v + (tx b - 48) by omega]
              refine AW.iinc1 63 dX8_plain_60 rfl (by rfl) rfl ?_
              refine AW.goto 12 dX8_plain_63 (by decide) ?_
              refine ih (i + 1) (by omega) (b + 1) (u + 1) _ (by omega) ?_ e (Or.inl (by omega))
              rw [Nat.pow_succ]
              omega
    exact L 4 0 (by omega) a 0 0 (by omega) (by decide) hT (Or.inr ⟨c0, by omega⟩)
end REFU
