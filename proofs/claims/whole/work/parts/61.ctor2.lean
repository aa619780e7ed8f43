/-! CONSTRUCTORS: the lattice, the board -/
section CTOR2
variable {N : Nat} {h : aH} {P : aP}
/-- the rows, while the r-th is filled: those before it stand, those behind it are empty -/
def WyB (h h1 : aH) (r : Nat) (g : Nat → Nat) : Prop := h1 20 = latO ∧ h1 24 = refs 9 24 ∧ (∀ i, i < r → h1 (24 + 1 + i) = iA 9 (wy i)) ∧ (r < 9 → h1 (24 + 1 + r) = iA 9 g) ∧ (∀ i, r < i → i < 9 → h1 (24 + 1 + i) = iA 9 (fun _ => 0)) ∧ ∀ z, z < 25 ∨ 34 ≤ z → h1 z = h z
theorem WyB.set {h1 : aH} {r : Nat} {g g' : Nat → Nat} (B : WyB h h1 r g) (hr : r < 9) : WyB h (hs h1 (24 + 1 + r) (iA 9 g')) r g' := by
  obtain ⟨b1, b2, b3, b4, b5, b6⟩ := B
  exact ⟨by rw [hs_ne (by omega), b1], by rw [hs_ne (by omega), b2], fun i hi => by rw [hs_ne (by omega), b3 i hi], fun _ => hs_eq _ _ _, fun i h1 h2 => by rw [hs_ne (by omega), b5 i h1 h2], fun z hz => by rw [hs_ne (by omega), b6 z hz]⟩
theorem cw_C {r d : Nat} (h1r : 1 ≤ r) (hr : r ≤ 8) (hd : d ≤ 8 - r) (next : ∀ h1 v3, WyB h h1 r (fun i => if i < d + 1 then wy r i else 0) → AW X1_countWays 77 [some (.ref 20), some (.int (nI r)), some (.int (nI d)), v3] [] N (0, 0) h1 P) : ∀ k c, c + k = d + 1 → ∀ h1, WyB h h1 r (fun i => if i < d then wy r i else if i = d then cnt (fun c => wy (r - 1) (c + 1)) c else 0) → AW X1_countWays 43 [some (.ref 20), some (.int (nI r)), some (.int (nI d)), some (.int (nI (c + 1)))] [] N (0, 0) h1 P := by
  have ew : wy r d = cnt (fun c => wy (r - 1) (c + 1)) (d + 1) := by
    obtain ⟨q, rfl⟩ : ∃ q, r = q + 1 := ⟨r - 1, by omega⟩
    rw [wy, if_pos hd]
    rfl
  intro k
  induction k with
  | zero =>
    intro c hc h1 B
    refine AW.iload_n 44 dX1_countWays_43 rfl (by rfl) ?_
    refine AW.iload_n 45 dX1_countWays_44 rfl (by rfl) ?_
    refine AW.iconst 46 dX1_countWays_45 rfl (nI 1) rfl ?_
    first | refine AW.iaddN 47 dX1_countWays_46 rfl ?_ | refine AW.iadd 47 dX1_countWays_46 rfl ?_
    refine AW.ngt 77 50 dX1_countWays_47 (by decide) rfl (by omega) (by omega) (fun c1 => ?_) (fun c1 => ?_)
    · have e : (fun i => if i < d then wy r i else if i = d then cnt (fun c => wy (r - 1) (c + 1)) c else 0) = (fun i => if i < d + 1 then wy r i else 0) := by
        funext i
        by_cases e1 : i < d
        · rw [if_pos e1, if_pos (by omega)]
        · rw [if_neg e1]
          by_cases e2 : i = d
          · rw [if_pos e2, if_pos (by omega), e2, ew, show c = d + 1 by omega]
          · rw [if_neg e2, if_neg (by omega)]
      rw [e] at B
      exact next h1 _ B
    · omega
  | succ k ih =>
    intro c hc h1 B
    obtain ⟨b1, b2, b3, b4, b5, b6⟩ := id B
    have b4 := b4 (by omega)
    have b3' := b3 (r - 1) (by omega)
    refine AW.iload_n 44 dX1_countWays_43 rfl (by rfl) ?_
    refine AW.iload_n 45 dX1_countWays_44 rfl (by rfl) ?_
    refine AW.iconst 46 dX1_countWays_45 rfl (nI 1) rfl ?_
    first | refine AW.iaddN 47 dX1_countWays_46 rfl ?_ | refine AW.iadd 47 dX1_countWays_46 rfl ?_
    refine AW.ngt 77 50 dX1_countWays_47 (by decide) rfl (by omega) (by omega) (fun c1 => ?_) (fun c1 => ?_)
    · omega
    · refine AW.aload_n 51 dX1_countWays_50 rfl (by rfl) ?_
      refine AW.getfield 54 dX1_countWays_51 rfl fl_X1_23 (by assumption) (by rfl) ?_
      refine AW.iload_n 55 dX1_countWays_54 rfl (by rfl) ?_
      refine AW.aaload 56 _ dX1_countWays_55 rfl (by assumption) (fun _ => rfl) rfl (ix_nI (by omega)) (by omega) (if_pos (show r < 9 by omega)) ?_
      refine AW.iload_n 57 dX1_countWays_56 rfl (by rfl) ?_
      refine AW.dup2 58 dX1_countWays_57 rfl rfl rfl ?_
      refine AW.iaload 59 _ dX1_countWays_58 rfl b4 (by first | exact Or.inl rfl | exact Or.inr rfl) (ix_nI (by omega)) (by omega) ?_
      refine AW.aload_n 60 dX1_countWays_59 rfl (by rfl) ?_
      refine AW.getfield 63 dX1_countWays_60 rfl fl_X1_23 (by assumption) (by rfl) ?_
      refine AW.iload_n 64 dX1_countWays_63 rfl (by rfl) ?_
      refine AW.iconst 65 dX1_countWays_64 rfl (nI 1) rfl ?_
      first | refine AW.isubN 66 dX1_countWays_65 rfl (by omega) ?_ | refine AW.isub 66 dX1_countWays_65 rfl ?_
      refine AW.aaload 67 _ dX1_countWays_66 rfl (by assumption) (fun _ => rfl) rfl (ix_nI (by omega)) (by omega) (if_pos (show r - 1 < 9 by omega)) ?_
      refine AW.iload_n 68 dX1_countWays_67 rfl (by rfl) ?_
      refine AW.iaload 69 _ dX1_countWays_68 rfl b3' (by first | exact Or.inl rfl | exact Or.inr rfl) (ix_nI (by omega)) (by omega) ?_
      refine AW.stk [.int (nI (wy (r - 1) (c + 1))), .int (nI (cnt (fun c => wy (r - 1) (c + 1)) c)), .int (nI d), .ref (24 + 1 + r)] (by
        dsimp only
        rw [if_neg (by omega), if_pos rfl]) ?_
      first | refine AW.iaddN 70 dX1_countWays_69 rfl ?_ | refine AW.iadd 70 dX1_countWays_69 rfl ?_
      refine AW.iastore 71 _ dX1_countWays_70 rfl b4 (ix_nI (by omega)) (by omega) ?_
      rw [upd_nI, show upN (fun i => if i < d then wy r i else if i = d then cnt (fun c => wy (r - 1) (c + 1)) c else 0) d (cnt (fun c => wy (r - 1) (c + 1)) c + wy (r - 1) (c + 1)) = (fun i => if i < d then wy r i else if i = d then cnt (fun c => wy (r - 1) (c + 1)) (c + 1) else 0) from funext fun i => by
        unfold upN
        by_cases e : i = d
        · subst e
          rw [if_pos rfl, if_neg (by omega), if_pos rfl, cnt]
        · simp only [if_neg e]]
      refine AW.iinc1 74 dX1_countWays_71 rfl (by rfl) rfl ?_
      refine AW.goto 43 dX1_countWays_74 (by decide) ?_
      exact ih (c + 1) (by omega) _ (B.set (by omega))
theorem cw_D {r : Nat} (h1r : 1 ≤ r) (hr : r ≤ 8) (next : ∀ h1 v2 v3, WyB h h1 (r + 1) (fun _ => 0) → AW X1_countWays 83 [some (.ref 20), some (.int (nI r)), v2, v3] [] N (0, 0) h1 P) : ∀ k d, d + k = 9 - r → ∀ h1 v3, WyB h h1 r (fun i => if i < d then wy r i else 0) → AW X1_countWays 33 [some (.ref 20), some (.int (nI r)), some (.int (nI d)), v3] [] N (0, 0) h1 P := by
  intro k
  induction k with
  | zero =>
    intro d hd h1 v3 B
    refine AW.iload_n 34 dX1_countWays_33 rfl (by rfl) ?_
    refine AW.bipush 36 dX1_countWays_34 rfl (nI 8) rfl ?_
    refine AW.iload_n 37 dX1_countWays_36 rfl (by rfl) ?_
    first | refine AW.isubN 38 dX1_countWays_37 rfl (by omega) ?_ | refine AW.isub 38 dX1_countWays_37 rfl ?_
    refine AW.ngt 83 41 dX1_countWays_38 (by decide) rfl (by omega) (by omega) (fun c1 => ?_) (fun c1 => ?_)
    · refine next h1 _ _ ?_
      obtain ⟨b1, b2, b3, b4, b5, b6⟩ := B
      refine ⟨b1, b2, fun i hi => ?_, fun q => b5 (r + 1) (by omega) q, fun i q1 q2 => b5 i (by omega) q2, b6⟩
      by_cases e : i = r
      · subst e
        rw [b4 (by omega), show (fun j => if j < d then wy i j else 0) = wy i from funext fun j => by
          by_cases e1 : j < d
          · rw [if_pos e1]
          · obtain ⟨q, rfl⟩ : ∃ q, i = q + 1 := ⟨i - 1, by omega⟩
            rw [if_neg e1, wy, if_neg (by omega)]]
      · exact b3 i (by omega)
    · omega
  | succ k ih =>
    intro d hd h1 v3 B
    refine AW.iload_n 34 dX1_countWays_33 rfl (by rfl) ?_
    refine AW.bipush 36 dX1_countWays_34 rfl (nI 8) rfl ?_
    refine AW.iload_n 37 dX1_countWays_36 rfl (by rfl) ?_
    first | refine AW.isubN 38 dX1_countWays_37 rfl (by omega) ?_ | refine AW.isub 38 dX1_countWays_37 rfl ?_
    refine AW.ngt 83 41 dX1_countWays_38 (by decide) rfl (by omega) (by omega) (fun c1 => ?_) (fun c1 => ?_)
    · omega
    · refine AW.iconst 42 dX1_countWays_41 rfl (nI 1) rfl ?_
      refine AW.istore_n 43 dX1_countWays_42 rfl (Nat.le_of_ble_eq_true rfl) rfl ?_
      refine cw_C (h := h) h1r hr (by omega) (fun h2 v3 B2 => ?_) (d + 1) 0 (by omega) h1 ?_
      · refine AW.iinc1 80 dX1_countWays_77 rfl (by rfl) rfl ?_
        refine AW.goto 33 dX1_countWays_80 (by decide) ?_
        exact ih (d + 1) (by omega) h2 _ B2
      · rw [show (fun i => if i < d then wy r i else if i = d then cnt (fun c => wy (r - 1) (c + 1)) 0 else 0) = (fun i => if i < d then wy r i else 0) from funext fun i => by
          by_cases e1 : i < d
          · rw [if_pos e1, if_pos e1]
          · rw [if_neg e1, if_neg e1]
            split <;> rfl]
        exact B
theorem cw_R (hP : ∀ h1, WyB h h1 9 (fun _ => 0) → P none N h1) : ∀ k r, r + k = 9 → 1 ≤ r → ∀ h1 v2 v3, WyB h h1 r (fun _ => 0) → AW X1_countWays 25 [some (.ref 20), some (.int (nI r)), v2, v3] [] N (0, 0) h1 P := by
  intro k
  induction k with
  | zero =>
    intro r hr h1r h1 v2 v3 B
    refine AW.iload_n 26 dX1_countWays_25 rfl (by rfl) ?_
    refine AW.bipush 28 dX1_countWays_26 rfl (nI 8) rfl ?_
    refine AW.ngt 89 31 dX1_countWays_28 (by decide) rfl (by omega) (by omega) (fun c1 => ?_) (fun c1 => ?_)
    · refine AW.vret dX1_countWays_89 rfl ?_
      obtain rfl : r = 9 := by omega
      exact hP h1 B
    · omega
  | succ k ih =>
    intro r hr h1r h1 v2 v3 B
    refine AW.iload_n 26 dX1_countWays_25 rfl (by rfl) ?_
    refine AW.bipush 28 dX1_countWays_26 rfl (nI 8) rfl ?_
    refine AW.ngt 89 31 dX1_countWays_28 (by decide) rfl (by omega) (by omega) (fun c1 => ?_) (fun c1 => ?_)
    · omega
    · refine AW.iconst 32 dX1_countWays_31 rfl (nI 0) rfl ?_
      refine AW.istore_n 33 dX1_countWays_32 rfl (Nat.le_of_ble_eq_true rfl) rfl ?_
      refine cw_D (h := h) h1r (by omega) (fun h2 v2 v3 B2 => ?_) (9 - r) 0 (by omega) h1 v3 ?_
      · refine AW.iinc1 86 dX1_countWays_83 rfl (by rfl) rfl ?_
        refine AW.goto 25 dX1_countWays_86 (by decide) ?_
        exact ih (r + 1) (by omega) (by omega) h2 _ _ B2
      · rw [show (fun i => if i < 0 then wy r i else 0) = (fun _ => 0) from funext fun i => if_neg (by omega)]
        exact B
theorem c_countWays (B : WyB h h 0 (fun _ => 0)) (hP : ∀ h1, WyB h h1 9 (fun _ => 0) → P none N h1) : AM X1_countWays [.ref 20] N h P := by
  refine AM.of0 rfl (Nat.le_of_ble_eq_true rfl) rfl [some (.ref 20), none, none, none] rfl ?_
  refine AW.iconst 1 dX1_countWays_0 rfl (nI 0) rfl ?_
  refine AW.istore_n 2 dX1_countWays_1 rfl (Nat.le_of_ble_eq_true rfl) rfl ?_
  have L : ∀ k d, d + k = 9 → ∀ h1, WyB h h1 0 (fun i => if i < d then 1 else 0) → AW X1_countWays 2 [some (.ref 20), some (.int (nI d)), none, none] [] N (0, 0) h1 P := by
    intro k
    induction k with
    | zero =>
      intro d hd h1 B
      refine AW.iload_n 3 dX1_countWays_2 rfl (by rfl) ?_
      refine AW.bipush 5 dX1_countWays_3 rfl (nI 8) rfl ?_
      refine AW.ngt 23 8 dX1_countWays_5 (by decide) rfl (by omega) (by omega) (fun c => ?_) (fun c => ?_)
      · refine AW.iconst 24 dX1_countWays_23 rfl (nI 1) rfl ?_
        refine AW.istore_n 25 dX1_countWays_24 rfl (Nat.le_of_ble_eq_true rfl) rfl ?_
        refine cw_R (h := h) hP 8 1 (by omega) (by omega) h1 _ _ ?_
        obtain ⟨b1, b2, b3, b4, b5, b6⟩ := B
        refine ⟨b1, b2, fun i hi => ?_, fun q => b5 1 (by omega) (by omega), fun i q1 q2 => b5 i (by omega) q2, b6⟩
        obtain rfl : i = 0 := by omega
        rw [b4 (by omega), show (fun i => if i < d then 1 else 0) = wy 0 from funext fun j => by
          rw [wy]
          by_cases e1 : j < d
          · rw [if_pos e1, if_pos (by omega)]
          · rw [if_neg e1, if_neg (by omega)]]
      · omega
    | succ k ih =>
      intro d hd h1 B
      obtain ⟨b1, b2, b3, b4, b5, b6⟩ := id B
      have b4 := b4 (by omega)
      refine AW.iload_n 3 dX1_countWays_2 rfl (by rfl) ?_
      refine AW.bipush 5 dX1_countWays_3 rfl (nI 8) rfl ?_
      refine AW.ngt 23 8 dX1_countWays_5 (by decide) rfl (by omega) (by omega) (fun c => ?_) (fun c => ?_)
      · omega
      · refine AW.aload_n 9 dX1_countWays_8 rfl (by rfl) ?_
        refine AW.getfield 12 dX1_countWays_9 rfl fl_X1_23 (by assumption) (by rfl) ?_
        refine AW.iconst 13 dX1_countWays_12 rfl (nI 0) rfl ?_
        refine AW.aaload 14 _ dX1_countWays_13 rfl (by assumption) (fun _ => rfl) rfl (ix_nI (by omega)) (by omega) (if_pos (show 0 < 9 by omega)) ?_
        refine AW.iload_n 15 dX1_countWays_14 rfl (by rfl) ?_
        refine AW.iconst 16 dX1_countWays_15 rfl (nI 1) rfl ?_
        refine AW.iastore 17 _ dX1_countWays_16 rfl b4 (ix_nI (by omega)) (by omega) ?_
        rw [upd_nI, show upN (fun i => if i < d then 1 else 0) d 1 = (fun i => if i < d + 1 then 1 else 0) from funext fun i => by
          unfold upN
          by_cases e : i = d
          · rw [if_pos e, if_pos (by omega)]
          · rw [if_neg e]
            show (if i < d then 1 else 0) = (if i < d + 1 then 1 else 0)
            by_cases e1 : i < d
            · rw [if_pos e1, if_pos (by omega)]
            · rw [if_neg e1, if_neg (by omega)]]
        refine AW.iinc1 20 dX1_countWays_17 rfl (by rfl) rfl ?_
        refine AW.goto 2 dX1_countWays_20 (by decide) ?_
        exact ih (d + 1) (by omega) _ (B.set (by omega))
  refine L 9 0 (by omega) h ?_
  rw [show (fun i => if i < 0 then 1 else 0) = (fun _ => 0) from funext fun i => if_neg (by omega)]
  exact B
theorem partAt_of {h1 : aH} {a : Nat} (p1 : h1 a = oP 4 (a + 1)) (p2 : h1 (a + 1) = iA 8 idn) : PartAt h1 a (a + 1) := ⟨_, _, p1, p2, fun i hi => by unfold idn; rw [if_neg (by omega)]⟩
theorem c_newLattice {v0 v1 v2 v3 v4 v5 v6 v7 v8 : Value} (ha : h 20 = .inr (1, [v0, v1, v2, v3, v4, v5, v6, v7, v8])) (hP : ∀ h', LW h' → (∀ z, z < 20 → h' z = h z) → P none 44 h') : AM X1_init [.ref 20] 21 h P := by
  refine AM.of rfl (Nat.le_of_ble_eq_true rfl) ?_
  show AW X1_init 0 [some (.ref 20)] [] _ (23, 165) _ _
  refine AW.aload_n 1 dX1_init_0 rfl (by rfl) ?_
  refine AW.objInit 4 dX1_init_1 rfl lk_X1_3 oi_inst oi_code (Nat.le_of_ble_eq_true rfl) (Nat.le_of_ble_eq_true rfl) ?_
  refine AW.aload_n 5 dX1_init_4 rfl (by rfl) ?_
  refine AW.bipush 7 dX1_init_5 rfl (nI 8) rfl ?_
  refine AW.newI (u := (22, 157)) 8 9 dX1_init_7 rfl ac_I (ix_nI (by omega)) (Nat.le_of_ble_eq_true rfl) ?_
  have x1 : hs h 21 (.inl (0, (8, .inl (fun _ => 0)))) 20 = .inr (1, [v0, v1, v2, v3, v4, v5, v6, v7, v8]) := by rw [hs_ne (by omega), ha]
  have x21 := hs_eq h 21 (.inl (0, (8, .inl (fun _ => 0))) : aE)
  have f1 : ∀ z, z < 20 → hs h 21 (.inl (0, (8, .inl (fun _ => 0))) : aE) z = h z := fun z hz => hs_ne (by omega)
  generalize hs h 21 (.inl (0, (8, .inl (fun _ => 0))) : aE) = h1 at x1 x21 f1 ⊢
  refine AW.putfieldF 12 dX1_init_9 rfl fl_X1_9 (by assumption) (Nat.le_of_ble_eq_true rfl) (fun _ => ⟨rfl, rfl⟩) rfl rfl ?_
  refine AW.heap (hs h1 20 (.inr (1, [.ref 21, v1, v2, v3, v4, v5, v6, v7, v8]))) rfl ?_
  refine AW.aload_n 13 dX1_init_12 rfl (by rfl) ?_
  refine AW.bipush 15 dX1_init_13 rfl (nI 8) rfl ?_
  refine AW.newI (u := (21, 149)) 8 17 dX1_init_15 rfl ac_I (ix_nI (by omega)) (Nat.le_of_ble_eq_true rfl) ?_
  have y1 : hs (hs h1 20 (.inr (1, [.ref 21, v1, v2, v3, v4, v5, v6, v7, v8]))) 22 (.inl (0, (8, .inl (fun _ => 0)))) 20 = .inr (1, [.ref 21, v1, v2, v3, v4, v5, v6, v7, v8]) := by rw [hs_ne (by omega), hs_eq]
  have y21 : hs (hs h1 20 (.inr (1, [.ref 21, v1, v2, v3, v4, v5, v6, v7, v8]))) 22 (.inl (0, (8, .inl (fun _ => 0)))) 21 = (.inl (0, (8, .inl (fun _ => 0))) : aE) := by rw [hs_ne (by omega), hs_ne (by omega), x21]
  have y22 := hs_eq (hs h1 20 (.inr (1, [.ref 21, v1, v2, v3, v4, v5, v6, v7, v8]))) 22 (.inl (0, (8, .inl (fun _ => 0))) : aE)
  have f2 : ∀ z, z < 20 → hs (hs h1 20 (.inr (1, [.ref 21, v1, v2, v3, v4, v5, v6, v7, v8]))) 22 (.inl (0, (8, .inl (fun _ => 0))) : aE) z = h z := fun z hz => by rw [hs_ne (by omega), hs_ne (by omega), f1 z hz]
  generalize hs (hs h1 20 (.inr (1, [.ref 21, v1, v2, v3, v4, v5, v6, v7, v8]))) 22 (.inl (0, (8, .inl (fun _ => 0))) : aE) = h2 at y1 y21 y22 f2 ⊢
  refine AW.putfieldF 20 dX1_init_17 rfl fl_X1_15 (by assumption) (Nat.le_of_ble_eq_true rfl) (fun _ => ⟨rfl, rfl⟩) rfl rfl ?_
  refine AW.heap (hs h2 20 (.inr (1, [.ref 21, .ref 22, v2, v3, v4, v5, v6, v7, v8]))) rfl ?_
  refine AW.aload_n 21 dX1_init_20 rfl (by rfl) ?_
  refine AW.bipush 23 dX1_init_21 rfl (nI 9) rfl ?_
  refine AW.newI (u := (20, 140)) 9 25 dX1_init_23 rfl ac_I (ix_nI (by omega)) (Nat.le_of_ble_eq_true rfl) ?_
  have z1 : hs (hs h2 20 (.inr (1, [.ref 21, .ref 22, v2, v3, v4, v5, v6, v7, v8]))) 23 (.inl (0, (9, .inl (fun _ => 0)))) 20 = .inr (1, [.ref 21, .ref 22, v2, v3, v4, v5, v6, v7, v8]) := by rw [hs_ne (by omega), hs_eq]
  have z21 : hs (hs h2 20 (.inr (1, [.ref 21, .ref 22, v2, v3, v4, v5, v6, v7, v8]))) 23 (.inl (0, (9, .inl (fun _ => 0)))) 21 = (.inl (0, (8, .inl (fun _ => 0))) : aE) := by rw [hs_ne (by omega), hs_ne (by omega), y21]
  have z22 : hs (hs h2 20 (.inr (1, [.ref 21, .ref 22, v2, v3, v4, v5, v6, v7, v8]))) 23 (.inl (0, (9, .inl (fun _ => 0)))) 22 = (.inl (0, (8, .inl (fun _ => 0))) : aE) := by rw [hs_ne (by omega), hs_ne (by omega), y22]
  have z23 := hs_eq (hs h2 20 (.inr (1, [.ref 21, .ref 22, v2, v3, v4, v5, v6, v7, v8]))) 23 (.inl (0, (9, .inl (fun _ => 0))) : aE)
  have f3 : ∀ z, z < 20 → hs (hs h2 20 (.inr (1, [.ref 21, .ref 22, v2, v3, v4, v5, v6, v7, v8]))) 23 (.inl (0, (9, .inl (fun _ => 0))) : aE) z = h z := fun z hz => by rw [hs_ne (by omega), hs_ne (by omega), f2 z hz]
  generalize hs (hs h2 20 (.inr (1, [.ref 21, .ref 22, v2, v3, v4, v5, v6, v7, v8]))) 23 (.inl (0, (9, .inl (fun _ => 0))) : aE) = h3 at z1 z21 z22 z23 f3 ⊢
  refine AW.putfieldF 28 dX1_init_25 rfl fl_X1_18 (by assumption) (Nat.le_of_ble_eq_true rfl) (fun _ => ⟨rfl, rfl⟩) rfl rfl ?_
  refine AW.heap (hs h3 20 (.inr (1, [.ref 21, .ref 22, .ref 23, v3, v4, v5, v6, v7, v8]))) rfl ?_
  refine AW.aload_n 29 dX1_init_28 rfl (by rfl) ?_
  refine AW.bipush 31 dX1_init_29 rfl (nI 9) rfl ?_
  refine AW.bipush 33 dX1_init_31 rfl (nI 9) rfl ?_
  refine AW.mnaI (u := (10, 50)) 9 9 37 dX1_init_33 rfl (by rw [show "[" ++ (FieldType.array .int).toString = "[[I" by decide +kernel]; exact cl_X1_21) ac_I (ix_nI (by omega)) (ix_nI (by omega)) (Nat.le_of_ble_eq_true rfl) (Nat.le_of_ble_eq_true rfl) ?_
  obtain ⟨hh, ehh⟩ : ∃ hh, hh = hs h3 20 (.inr (1, [.ref 21, .ref 22, .ref 23, v3, v4, v5, v6, v7, v8])) := ⟨_, rfl⟩
  rw [← ehh]
  have w20 : hh 20 = .inr (1, [.ref 21, .ref 22, .ref 23, v3, v4, v5, v6, v7, v8]) := by rw [ehh, hs_eq]
  have w21 : hh 21 = (.inl (0, (8, .inl (fun _ => 0))) : aE) := by rw [ehh, hs_ne (by decide), z21]
  have w22 : hh 22 = (.inl (0, (8, .inl (fun _ => 0))) : aE) := by rw [ehh, hs_ne (by decide), z22]
  have w23 : hh 23 = (.inl (0, (9, .inl (fun _ => 0))) : aE) := by rw [ehh, hs_ne (by decide), z23]
  have f4 : ∀ z, z < 20 → hh z = h z := fun z hz => by rw [ehh, hs_ne (by omega), f3 z hz]
  obtain ⟨hm, ehm⟩ : ∃ hm, hm = hm2 hh 24 9 (refs 9 24) (iA 9 (fun _ => 0)) := ⟨_, rfl⟩
  have lo : ∀ z, z < 24 → hm z = hh z := fun z hz => by rw [ehm]; unfold hm2; rw [if_neg (by omega), if_neg (by omega)]
  have u20 := (lo 20 (by decide)).trans w20
  have u21 := (lo 21 (by decide)).trans w21
  have u22 := (lo 22 (by decide)).trans w22
  have u23 := (lo 23 (by decide)).trans w23
  have u24 : hm 24 = refs 9 24 := by rw [ehm]; unfold hm2; rw [if_pos rfl]
  have u25 : ∀ i, i < 9 → hm (24 + 1 + i) = iA 9 (fun _ => 0) := fun i hi => by rw [ehm]; unfold hm2; rw [if_neg (by omega), if_pos (by omega)]
  have f5 : ∀ z, z < 20 → hm z = h z := fun z hz => by rw [lo z (by omega), f4 z hz]
  refine AW.heap hm ehm.symm ?_
  refine AW.putfieldF 40 dX1_init_37 rfl fl_X1_23 (by assumption) (Nat.le_of_ble_eq_true rfl) (fun _ => ⟨rfl, rfl⟩) rfl rfl ?_
  refine AW.heap (hs hm 20 (.inr (1, [.ref 21, .ref 22, .ref 23, .ref 24, v4, v5, v6, v7, v8]))) rfl ?_
  have LL : ∀ z, z ≠ 20 → hs hm 20 (.inr (1, [.ref 21, .ref 22, .ref 23, .ref 24, v4, v5, v6, v7, v8])) z = hm z := fun z hz => hs_ne hz
  have p20 := hs_eq hm 20 (.inr (1, [.ref 21, .ref 22, .ref 23, .ref 24, v4, v5, v6, v7, v8]) : aE)
  generalize hs hm 20 (.inr (1, [.ref 21, .ref 22, .ref 23, .ref 24, v4, v5, v6, v7, v8])) = g0 at p20 LL ⊢
  have G0 : ∀ z, z < 34 → z ≠ 20 → g0 z = hm z := fun z _ hz => LL z hz
  clear LL
  refine AW.aload_n 41 dX1_init_40 rfl (by rfl) ?_
  refine AW.new (u := (9, 48)) tyX3 [.int 0, .null] 44 dX1_init_41 rfl cl_X1_26 ginbX3 giniX3 (ci := 3) rfl tyX3_ok gX3 (fun j hj => match j, hj with | 0, _ => rfl | 1, _ => rfl | k + 2, h => absurd h (by omega)) (fun _ => rfl) ?_
  refine AW.dup 45 dX1_init_44 rfl rfl ?_
  refine AW.callI (u := (8, 40)) 48 dX1_init_45 rfl mi_X3_init rfl rfl mt_X3_init lk_X1_28 ⟨(Nat.le_of_ble_eq_true rfl), (Nat.le_of_ble_eq_true rfl)⟩ rfl (Nat.le_of_ble_eq_true rfl) _ rfl (c_newPart (a := 34) (hs_eq _ _ _) rfl (fun k0 r0 s0 t0 => ?_))
  have T0 : ∀ z, z < 34 → k0 z = g0 z := fun z hz => by rw [t0 z (by omega), hs_ne (by omega)]
  have m20 := (T0 20 (by decide)).trans p20
  refine AW.putfieldF 51 dX1_init_48 rfl fl_X1_29 (by assumption) (Nat.le_of_ble_eq_true rfl) (fun _ => ⟨rfl, rfl⟩) rfl rfl ?_
  obtain ⟨g1, eg0⟩ : ∃ g, g = hs k0 20 (.inr (1, [.ref 21, .ref 22, .ref 23, .ref 24, .ref 34, v5, v6, v7, v8])) := ⟨_, rfl⟩
  refine AW.heap g1 eg0.symm ?_
  have p20 : g1 20 = .inr (1, [.ref 21, .ref 22, .ref 23, .ref 24, .ref 34, v5, v6, v7, v8]) := by rw [eg0, hs_eq]
  have N0 : ∀ z, z ≠ 20 → g1 z = k0 z := fun z hz => by rw [eg0, hs_ne hz]
  have G1 : ∀ z, z < 34 → z ≠ 20 → g1 z = hm z := fun z z1 z2 => by rw [N0 z z2, T0 z (by omega), G0 z z1 z2]
  have Q34 : PartAt g1 34 (34 + 1) := partAt_of (by rw [N0 _ (by decide), r0]) (by rw [N0 _ (by decide), s0])
  refine AW.aload_n 52 dX1_init_51 rfl (by rfl) ?_
  refine AW.new (u := (7, 38)) tyX3 [.int 0, .null] 55 dX1_init_52 rfl cl_X1_26 ginbX3 giniX3 (ci := 3) rfl tyX3_ok gX3 (fun j hj => match j, hj with | 0, _ => rfl | 1, _ => rfl | k + 2, h => absurd h (by omega)) (fun _ => rfl) ?_
  refine AW.dup 56 dX1_init_55 rfl rfl ?_
  refine AW.callI (u := (6, 30)) 59 dX1_init_56 rfl mi_X3_init rfl rfl mt_X3_init lk_X1_28 ⟨(Nat.le_of_ble_eq_true rfl), (Nat.le_of_ble_eq_true rfl)⟩ rfl (Nat.le_of_ble_eq_true rfl) _ rfl (c_newPart (a := 36) (hs_eq _ _ _) rfl (fun k1 r1 s1 t1 => ?_))
  have T1 : ∀ z, z < 36 → k1 z = g1 z := fun z hz => by rw [t1 z (by omega), hs_ne (by omega)]
  have m20 := (T1 20 (by decide)).trans p20
  refine AW.putfieldF 62 dX1_init_59 rfl fl_X1_33 (by assumption) (Nat.le_of_ble_eq_true rfl) (fun _ => ⟨rfl, rfl⟩) rfl rfl ?_
  obtain ⟨g2, eg1⟩ : ∃ g, g = hs k1 20 (.inr (1, [.ref 21, .ref 22, .ref 23, .ref 24, .ref 34, .ref 36, v6, v7, v8])) := ⟨_, rfl⟩
  refine AW.heap g2 eg1.symm ?_
  have p20 : g2 20 = .inr (1, [.ref 21, .ref 22, .ref 23, .ref 24, .ref 34, .ref 36, v6, v7, v8]) := by rw [eg1, hs_eq]
  have N1 : ∀ z, z ≠ 20 → g2 z = k1 z := fun z hz => by rw [eg1, hs_ne hz]
  have G2 : ∀ z, z < 34 → z ≠ 20 → g2 z = hm z := fun z z1 z2 => by rw [N1 z z2, T1 z (by omega), G1 z z1 z2]
  have Q34 : PartAt g2 34 (34 + 1) := by
    obtain ⟨m, f, q1, q2, q3⟩ := Q34
    exact ⟨m, f, by rw [N1 _ (by decide), T1 _ (by decide), q1], by rw [N1 _ (by decide), T1 _ (by decide), q2], q3⟩
  have Q36 : PartAt g2 36 (36 + 1) := partAt_of (by rw [N1 _ (by decide), r1]) (by rw [N1 _ (by decide), s1])
  refine AW.aload_n 63 dX1_init_62 rfl (by rfl) ?_
  refine AW.new (u := (5, 28)) tyX3 [.int 0, .null] 66 dX1_init_63 rfl cl_X1_26 ginbX3 giniX3 (ci := 3) rfl tyX3_ok gX3 (fun j hj => match j, hj with | 0, _ => rfl | 1, _ => rfl | k + 2, h => absurd h (by omega)) (fun _ => rfl) ?_
  refine AW.dup 67 dX1_init_66 rfl rfl ?_
  refine AW.callI (u := (4, 20)) 70 dX1_init_67 rfl mi_X3_init rfl rfl mt_X3_init lk_X1_28 ⟨(Nat.le_of_ble_eq_true rfl), (Nat.le_of_ble_eq_true rfl)⟩ rfl (Nat.le_of_ble_eq_true rfl) _ rfl (c_newPart (a := 38) (hs_eq _ _ _) rfl (fun k2 r2 s2 t2 => ?_))
  have T2 : ∀ z, z < 38 → k2 z = g2 z := fun z hz => by rw [t2 z (by omega), hs_ne (by omega)]
  have m20 := (T2 20 (by decide)).trans p20
  refine AW.putfieldF 73 dX1_init_70 rfl fl_X1_36 (by assumption) (Nat.le_of_ble_eq_true rfl) (fun _ => ⟨rfl, rfl⟩) rfl rfl ?_
  obtain ⟨g3, eg2⟩ : ∃ g, g = hs k2 20 (.inr (1, [.ref 21, .ref 22, .ref 23, .ref 24, .ref 34, .ref 36, .ref 38, v7, v8])) := ⟨_, rfl⟩
  refine AW.heap g3 eg2.symm ?_
  have p20 : g3 20 = .inr (1, [.ref 21, .ref 22, .ref 23, .ref 24, .ref 34, .ref 36, .ref 38, v7, v8]) := by rw [eg2, hs_eq]
  have N2 : ∀ z, z ≠ 20 → g3 z = k2 z := fun z hz => by rw [eg2, hs_ne hz]
  have G3 : ∀ z, z < 34 → z ≠ 20 → g3 z = hm z := fun z z1 z2 => by rw [N2 z z2, T2 z (by omega), G2 z z1 z2]
  have Q34 : PartAt g3 34 (34 + 1) := by
    obtain ⟨m, f, q1, q2, q3⟩ := Q34
    exact ⟨m, f, by rw [N2 _ (by decide), T2 _ (by decide), q1], by rw [N2 _ (by decide), T2 _ (by decide), q2], q3⟩
  have Q36 : PartAt g3 36 (36 + 1) := by
    obtain ⟨m, f, q1, q2, q3⟩ := Q36
    exact ⟨m, f, by rw [N2 _ (by decide), T2 _ (by decide), q1], by rw [N2 _ (by decide), T2 _ (by decide), q2], q3⟩
  have Q38 : PartAt g3 38 (38 + 1) := partAt_of (by rw [N2 _ (by decide), r2]) (by rw [N2 _ (by decide), s2])
  refine AW.aload_n 74 dX1_init_73 rfl (by rfl) ?_
  refine AW.new (u := (3, 18)) tyX3 [.int 0, .null] 77 dX1_init_74 rfl cl_X1_26 ginbX3 giniX3 (ci := 3) rfl tyX3_ok gX3 (fun j hj => match j, hj with | 0, _ => rfl | 1, _ => rfl | k + 2, h => absurd h (by omega)) (fun _ => rfl) ?_
  refine AW.dup 78 dX1_init_77 rfl rfl ?_
  refine AW.callI (u := (2, 10)) 81 dX1_init_78 rfl mi_X3_init rfl rfl mt_X3_init lk_X1_28 ⟨(Nat.le_of_ble_eq_true rfl), (Nat.le_of_ble_eq_true rfl)⟩ rfl (Nat.le_of_ble_eq_true rfl) _ rfl (c_newPart (a := 40) (hs_eq _ _ _) rfl (fun k3 r3 s3 t3 => ?_))
  have T3 : ∀ z, z < 40 → k3 z = g3 z := fun z hz => by rw [t3 z (by omega), hs_ne (by omega)]
  have m20 := (T3 20 (by decide)).trans p20
  refine AW.putfieldF 84 dX1_init_81 rfl fl_X1_39 (by assumption) (Nat.le_of_ble_eq_true rfl) (fun _ => ⟨rfl, rfl⟩) rfl rfl ?_
  obtain ⟨g4, eg3⟩ : ∃ g, g = hs k3 20 (.inr (1, [.ref 21, .ref 22, .ref 23, .ref 24, .ref 34, .ref 36, .ref 38, .ref 40, v8])) := ⟨_, rfl⟩
  refine AW.heap g4 eg3.symm ?_
  have p20 : g4 20 = .inr (1, [.ref 21, .ref 22, .ref 23, .ref 24, .ref 34, .ref 36, .ref 38, .ref 40, v8]) := by rw [eg3, hs_eq]
  have N3 : ∀ z, z ≠ 20 → g4 z = k3 z := fun z hz => by rw [eg3, hs_ne hz]
  have G4 : ∀ z, z < 34 → z ≠ 20 → g4 z = hm z := fun z z1 z2 => by rw [N3 z z2, T3 z (by omega), G3 z z1 z2]
  have Q34 : PartAt g4 34 (34 + 1) := by
    obtain ⟨m, f, q1, q2, q3⟩ := Q34
    exact ⟨m, f, by rw [N3 _ (by decide), T3 _ (by decide), q1], by rw [N3 _ (by decide), T3 _ (by decide), q2], q3⟩
  have Q36 : PartAt g4 36 (36 + 1) := by
    obtain ⟨m, f, q1, q2, q3⟩ := Q36
    exact ⟨m, f, by rw [N3 _ (by decide), T3 _ (by decide), q1], by rw [N3 _ (by decide), T3 _ (by decide), q2], q3⟩
  have Q38 : PartAt g4 38 (38 + 1) := by
    obtain ⟨m, f, q1, q2, q3⟩ := Q38
    exact ⟨m, f, by rw [N3 _ (by decide), T3 _ (by decide), q1], by rw [N3 _ (by decide), T3 _ (by decide), q2], q3⟩
  have Q40 : PartAt g4 40 (40 + 1) := partAt_of (by rw [N3 _ (by decide), r3]) (by rw [N3 _ (by decide), s3])
  refine AW.aload_n 85 dX1_init_84 rfl (by rfl) ?_
  refine AW.new (u := (1, 8)) tyX3 [.int 0, .null] 88 dX1_init_85 rfl cl_X1_26 ginbX3 giniX3 (ci := 3) rfl tyX3_ok gX3 (fun j hj => match j, hj with | 0, _ => rfl | 1, _ => rfl | k + 2, h => absurd h (by omega)) (fun _ => rfl) ?_
  refine AW.dup 89 dX1_init_88 rfl rfl ?_
  refine AW.callI (u := (0, 0)) 92 dX1_init_89 rfl mi_X3_init rfl rfl mt_X3_init lk_X1_28 ⟨(Nat.le_of_ble_eq_true rfl), (Nat.le_of_ble_eq_true rfl)⟩ rfl (Nat.le_of_ble_eq_true rfl) _ rfl (c_newPart (a := 42) (hs_eq _ _ _) rfl (fun k4 r4 s4 t4 => ?_))
  have T4 : ∀ z, z < 42 → k4 z = g4 z := fun z hz => by rw [t4 z (by omega), hs_ne (by omega)]
  have m20 := (T4 20 (by decide)).trans p20
  refine AW.putfieldF 95 dX1_init_92 rfl fl_X1_42 (by assumption) (Nat.le_of_ble_eq_true rfl) (fun _ => ⟨rfl, rfl⟩) rfl rfl ?_
  obtain ⟨g5, eg4⟩ : ∃ g, g = hs k4 20 (.inr (1, [.ref 21, .ref 22, .ref 23, .ref 24, .ref 34, .ref 36, .ref 38, .ref 40, .ref 42])) := ⟨_, rfl⟩
  refine AW.heap g5 eg4.symm ?_
  have p20 : g5 20 = .inr (1, [.ref 21, .ref 22, .ref 23, .ref 24, .ref 34, .ref 36, .ref 38, .ref 40, .ref 42]) := by rw [eg4, hs_eq]
  have N4 : ∀ z, z ≠ 20 → g5 z = k4 z := fun z hz => by rw [eg4, hs_ne hz]
  have G5 : ∀ z, z < 34 → z ≠ 20 → g5 z = hm z := fun z z1 z2 => by rw [N4 z z2, T4 z (by omega), G4 z z1 z2]
  have Q34 : PartAt g5 34 (34 + 1) := by
    obtain ⟨m, f, q1, q2, q3⟩ := Q34
    exact ⟨m, f, by rw [N4 _ (by decide), T4 _ (by decide), q1], by rw [N4 _ (by decide), T4 _ (by decide), q2], q3⟩
  have Q36 : PartAt g5 36 (36 + 1) := by
    obtain ⟨m, f, q1, q2, q3⟩ := Q36
    exact ⟨m, f, by rw [N4 _ (by decide), T4 _ (by decide), q1], by rw [N4 _ (by decide), T4 _ (by decide), q2], q3⟩
  have Q38 : PartAt g5 38 (38 + 1) := by
    obtain ⟨m, f, q1, q2, q3⟩ := Q38
    exact ⟨m, f, by rw [N4 _ (by decide), T4 _ (by decide), q1], by rw [N4 _ (by decide), T4 _ (by decide), q2], q3⟩
  have Q40 : PartAt g5 40 (40 + 1) := by
    obtain ⟨m, f, q1, q2, q3⟩ := Q40
    exact ⟨m, f, by rw [N4 _ (by decide), T4 _ (by decide), q1], by rw [N4 _ (by decide), T4 _ (by decide), q2], q3⟩
  have Q42 : PartAt g5 42 (42 + 1) := partAt_of (by rw [N4 _ (by decide), r4]) (by rw [N4 _ (by decide), s4])
  refine AW.aload_n 96 dX1_init_95 rfl (by rfl) ?_
  have B0 : WyB g5 g5 0 (fun _ => 0) := ⟨p20, (G5 24 (by decide) (by decide)).trans u24, fun i hi => by omega, fun _ => (G5 25 (by decide) (by decide)).trans (u25 0 (by decide)), fun i _ q2 => (G5 _ (by omega) (by omega)).trans (u25 i q2), fun _ _ => rfl⟩
  refine AW.cV0 99 dX1_init_96 rfl mi_X1_countWays mv_X1_countWays lk_X1_45 ⟨(Nat.le_of_ble_eq_true rfl), (Nat.le_of_ble_eq_true rfl)⟩ rfl (by assumption) rfl (Nat.le_of_ble_eq_true rfl) (c_countWays B0 (fun h' B => ?_))
  obtain ⟨b1, b2, b3, -, -, b6⟩ := B
  have e := fun z (hz : z < 25 ∨ 34 ≤ z) => b6 z hz
  have pp : ∀ {a : Nat}, 34 ≤ a → PartAt g5 a (a + 1) → PartAt h' a (a + 1) := fun ha ⟨m, f, q1, q2, q3⟩ => ⟨m, f, by rw [e _ (by omega), q1], by rw [e _ (by omega), q2], q3⟩
  refine AW.vret dX1_init_99 rfl ?_
  refine hP h' ⟨b1, ⟨_, by rw [e 21 (by decide), G5 21 (by decide) (by decide), u21]; rfl⟩, ⟨_, by rw [e 22 (by decide), G5 22 (by decide) (by decide), u22]; rfl⟩, ⟨_, by rw [e 23 (by decide), G5 23 (by decide) (by decide), u23]⟩, b2, b3, pp (by decide) Q34, pp (by decide) Q36, pp (by decide) Q38, pp (by decide) Q40, pp (by decide) Q42⟩ (fun z hz => by rw [e z (by omega), G5 z (by omega) (by omega), f5 z hz])
theorem c_newBoard {v0 v1 v2 : Value} (ha : h 4 = .inr (0, [v0, v1, v2])) (hP : ∀ h', BoardAt h' st0 → (∀ z, z < 4 → h' z = h z) → P none 46 h') : AM X0_init [.ref 4] 5 h P := by
  refine AM.of rfl (Nat.le_of_ble_eq_true rfl) ?_
  show AW X0_init 0 [some (.ref 4)] [] _ (41, 261) _ _
  refine AW.aload_n 1 dX0_init_0 rfl (by rfl) ?_
  refine AW.objInit 4 dX0_init_1 rfl lk_X0_3 oi_inst oi_code (Nat.le_of_ble_eq_true rfl) (Nat.le_of_ble_eq_true rfl) ?_
  refine AW.aload_n 5 dX0_init_4 rfl (by rfl) ?_
  refine AW.new (u := (40, 258)) tyX6 [.int 0, .null, .null] 8 dX0_init_5 rfl cl_X0_9 ginbX6 giniX6 (ci := 6) rfl tyX6_ok gX6 (fun j hj => match j, hj with | 0, _ => rfl | 1, _ => rfl | 2, _ => rfl | k + 3, h => absurd h (by omega)) (fun _ => rfl) ?_
  refine AW.dup 9 dX0_init_8 rfl rfl ?_
  refine AW.callI (u := (26, 184)) 12 dX0_init_9 rfl mi_X6_init rfl rfl mt_X6_init lk_X0_11 ⟨(Nat.le_of_ble_eq_true rfl), (Nat.le_of_ble_eq_true rfl)⟩ rfl (Nat.le_of_ble_eq_true rfl) _ rfl (c_newState (a := 5) (hs_eq _ _ _) rfl (fun h1 S1 f1 => ?_))
  have x4 : h1 4 = .inr (0, [v0, v1, v2]) := by rw [f1 4 (by decide), hs_ne (by decide), ha]
  have f1 : ∀ z, z < 4 → h1 z = h z := fun z hz => by rw [f1 z (by omega), hs_ne (by omega)]
  refine AW.putfieldF 15 dX0_init_12 rfl fl_X0_12 (by assumption) (Nat.le_of_ble_eq_true rfl) (fun _ => ⟨rfl, rfl⟩) rfl rfl ?_
  refine AW.heap (hs h1 4 (.inr (0, [.ref 5, v1, v2]))) rfl ?_
  refine AW.aload_n 16 dX0_init_15 rfl (by rfl) ?_
  refine AW.new (u := (25, 175)) tyX1 [.null, .null, .null, .null, .null, .null, .null, .null, .null] 19 dX0_init_16 rfl cl_X0_18 ginbX1 giniX1 (ci := 1) rfl tyX1_ok gX1 (fun j hj => match j, hj with | 0, _ => rfl | 1, _ => rfl | 2, _ => rfl | 3, _ => rfl | 4, _ => rfl | 5, _ => rfl | 6, _ => rfl | 7, _ => rfl | 8, _ => rfl | k + 9, h => absurd h (by omega)) (fun _ => rfl) ?_
  refine AW.dup 20 dX0_init_19 rfl rfl ?_
  refine AW.callI (u := (2, 10)) 23 dX0_init_20 rfl mi_X1_init rfl rfl mt_X1_init lk_X0_20 ⟨(Nat.le_of_ble_eq_true rfl), (Nat.le_of_ble_eq_true rfl)⟩ rfl (Nat.le_of_ble_eq_true rfl) _ rfl (c_newLattice (hs_eq _ _ _) (fun h2 W2 f2 => ?_))
  have y4 : h2 4 = .inr (0, [.ref 5, v1, v2]) := by rw [f2 4 (by decide), hs_ne (by decide), hs_eq]
  have S2 : StateAt h2 5 st0 := S1.same (fun z z1 z2 => by rw [f2 z (by omega), hs_ne (by omega), hs_ne (by omega)])
  have f2 : ∀ z, z < 4 → h2 z = h z := fun z hz => by rw [f2 z (by omega), hs_ne (by omega), hs_ne (by omega), f1 z hz]
  refine AW.putfieldF 26 dX0_init_23 rfl fl_X0_21 (by assumption) (Nat.le_of_ble_eq_true rfl) (fun _ => ⟨rfl, rfl⟩) rfl rfl ?_
  refine AW.heap (hs h2 4 (.inr (0, [.ref 5, .ref 20, v2]))) rfl ?_
  refine AW.aload_n 27 dX0_init_26 rfl (by rfl) ?_
  refine AW.new (u := (1, 8)) tyX3 [.int 0, .null] 30 dX0_init_27 rfl cl_X0_25 ginbX3 giniX3 (ci := 3) rfl tyX3_ok gX3 (fun j hj => match j, hj with | 0, _ => rfl | 1, _ => rfl | k + 2, h => absurd h (by omega)) (fun _ => rfl) ?_
  refine AW.dup 31 dX0_init_30 rfl rfl ?_
  refine AW.callI (u := (0, 0)) 34 dX0_init_31 rfl mi_X3_init rfl rfl mt_X3_init lk_X0_27 ⟨(Nat.le_of_ble_eq_true rfl), (Nat.le_of_ble_eq_true rfl)⟩ rfl (Nat.le_of_ble_eq_true rfl) _ rfl (c_newPart (a := 44) (hs_eq _ _ _) rfl (fun h3 p1 p2 f3 => ?_))
  have z4 : h3 4 = .inr (0, [.ref 5, .ref 20, v2]) := by rw [f3 4 (by decide), hs_ne (by decide), hs_eq]
  have S3 : StateAt h3 5 st0 := S2.same (fun z z1 z2 => by rw [f3 z (by omega), hs_ne (by omega), hs_ne (by omega)])
  have e3 : ∀ z, z < 44 → z ≠ 4 → h3 z = h2 z := fun z hz h4 => by rw [f3 z (by omega), hs_ne (by omega), hs_ne (by omega)]
  refine AW.putfieldF 37 dX0_init_34 rfl fl_X0_28 (by assumption) (Nat.le_of_ble_eq_true rfl) (fun _ => ⟨rfl, rfl⟩) rfl rfl ?_
  refine AW.heap (hs h3 4 brdO) rfl ?_
  refine AW.vret dX0_init_37 rfl ?_
  have E : ∀ z, 20 ≤ z → z < 44 → hs h3 4 brdO z = h2 z := fun z z1 z2 => by rw [hs_ne (by omega), e3 z (by omega) (by omega)]
  refine hP _ ⟨hs_eq _ _ _, S3.same (fun z z1 z2 => hs_ne (by omega)), ?_, ?_⟩ (fun z hz => by rw [hs_ne (by omega), e3 z (by omega) (by omega), f2 z hz])
  · obtain ⟨w1, ⟨q2, w2⟩, ⟨q3, w3⟩, ⟨q4, w4⟩, w5, w6, w7, w8, w9, w10, w11⟩ := W2
    have pa : ∀ {p q : Nat}, 20 ≤ p → p < 44 → 20 ≤ q → q < 44 → PartAt h2 p q → PartAt (hs h3 4 brdO) p q := fun hp hp2 hq hq2 ⟨m, f, g1, g2, g3⟩ => ⟨m, f, by rw [E _ (by omega) (by omega), g1], by rw [E _ (by omega) (by omega), g2], g3⟩
    exact ⟨by rw [E _ (by omega) (by omega), w1], ⟨q2, by rw [E _ (by omega) (by omega), w2]⟩, ⟨q3, by rw [E _ (by omega) (by omega), w3]⟩, ⟨q4, by rw [E _ (by omega) (by omega), w4]⟩, by rw [E _ (by omega) (by omega), w5], fun i hi => by rw [E _ (by omega) (by omega), w6 i hi], pa (by omega) (by omega) (by omega) (by omega) w7, pa (by omega) (by omega) (by omega) (by omega) w8, pa (by omega) (by omega) (by omega) (by omega) w9, pa (by omega) (by omega) (by omega) (by omega) w10, pa (by omega) (by omega) (by omega) (by omega) w11⟩
  · exact partAt_of (a := 44) (by rw [hs_ne (by decide), p1]) (by rw [hs_ne (by decide), p2])
end CTOR2
