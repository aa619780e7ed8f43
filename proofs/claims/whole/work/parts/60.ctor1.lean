/-! CONSTRUCTORS: parts, states, the past -/
section CTOR
variable {N : Nat} {h : aH} {P : aP}
theorem AW.uc {Y : aY} {pc : Nat} {ls : List (Option Value)} {st : List Value} {u : Nat × Nat} (c s : Nat) (e1 : c ≤ u.1) (e2 : s ≤ u.2) (k : AW Y pc ls st N (c, s) h P) : AW Y pc ls st N u h P := by
  intro D M p l e' R t m args below meth cc Z C H locs cells slots lsA hR hS h1 h2 hL
  exact k D M p l e' R t m args below meth cc Z C H locs cells slots lsA hR hS (Nat.le_trans (Nat.add_le_add_left e1 _) h1) (Nat.le_trans (Nat.add_le_add_left e2 _) h2) hL
theorem AW.nn {Y : aY} {pc : Nat} {ls : List (Option Value)} {st : List Value} {u : Nat × Nat} (N' : Nat) (e : N = N') (k : AW Y pc ls st N' u h P) : AW Y pc ls st N u h P := by subst e; exact k
theorem c_newPart {a : Nat} {x : Int32} {v : Value} (ha : h a = .inr (3, [.int x, v])) (hN : N = a + 1) (hP : ∀ h', h' a = oP 4 (a + 1) → h' (a + 1) = iA 8 idn → (∀ z, z < a → h' z = h z) → P none (a + 2) h') : AM X3_init [.ref a] N h P := by
  subst hN
  refine AM.of rfl (Nat.le_of_ble_eq_true rfl) ?_
  show AW X3_init 0 [some (.ref a)] [] _ (1, 8) _ _
  refine AW.aload_n 1 dX3_init_0 rfl (by rfl) ?_
  refine AW.objInit 4 dX3_init_1 rfl lk_X3_3 oi_inst oi_code (Nat.le_of_ble_eq_true rfl) (Nat.le_of_ble_eq_true rfl) ?_
  refine AW.aload_n 5 dX3_init_4 rfl (by rfl) ?_
  refine AW.bipush 7 dX3_init_5 rfl (nI 8) rfl ?_
  refine AW.newI (u := (0, 0)) 8 9 dX3_init_7 rfl ac_I (ix_nI (by omega)) (Nat.le_of_ble_eq_true rfl) ?_
  have x1 : hs h (a + 1) (.inl (0, (8, .inl (fun _ => 0)))) a = .inr (3, [.int x, v]) := by rw [hs_ne (by omega), ha]
  have x2 := hs_eq h (a + 1) (.inl (0, (8, .inl (fun _ => 0))) : aE)
  have x3 : ∀ z, z < a → hs h (a + 1) (.inl (0, (8, .inl (fun _ => 0))) : aE) z = h z := fun z hz => hs_ne (by omega)
  generalize hs h (a + 1) (.inl (0, (8, .inl (fun _ => 0))) : aE) = h1 at x1 x2 x3 ⊢
  refine AW.putfieldF 12 dX3_init_9 rfl fl_X3_9 (by assumption) (Nat.le_of_ble_eq_true rfl) (fun _ => ⟨rfl, rfl⟩) rfl rfl ?_
  refine AW.heap (hs h1 a (.inr (3, [.int x, .ref (a + 1)]))) rfl ?_
  have y1 := hs_eq h1 a (.inr (3, [.int x, .ref (a + 1)]) : aE)
  have y2 : hs h1 a (.inr (3, [.int x, .ref (a + 1)]) : aE) (a + 1) = _ := (hs_ne (by omega)).trans x2
  refine AW.aload_n 13 dX3_init_12 rfl (by rfl) ?_
  refine AW.iconst 14 dX3_init_13 rfl (nI 4) rfl ?_
  refine AW.cV1 17 dX3_init_14 rfl mi_X3_split mv_X3_split lk_X3_15 ⟨(Nat.le_of_ble_eq_true rfl), (Nat.le_of_ble_eq_true rfl)⟩ rfl (by assumption) rfl (Nat.le_of_ble_eq_true rfl) (c_split1 (q := a + 1) ⟨_, _, y1, y2, fun _ _ => rfl⟩ (by omega) ?_)
  refine AW.vret dX3_init_17 rfl ?_
  exact hP _ (by rw [hs_ne (by omega), hs_eq]) (hs_eq _ _ _) (fun z hz => by rw [hs_ne (by omega), hs_ne (by omega), hs_ne (by omega), x3 z hz])
def st0 : aS := (4, fun _ => idC 4, fun _ => nI 0)
theorem c_newState {a : Nat} {x : Int32} {v w : Value} (ha : h a = .inr (6, [.int x, v, w])) (hN : N = a + 1) (hP : ∀ h', StateAt h' a st0 → (∀ z, z < a → h' z = h z) → P none (a + 15) h') : AM X6_init [.ref a] N h P := by
  subst hN
  refine AM.of rfl (Nat.le_of_ble_eq_true rfl) ?_
  show AW X6_init 0 [some (.ref a), none] [] _ (14, 74) _ _
  refine AW.aload_n 1 dX6_init_0 rfl (by rfl) ?_
  refine AW.objInit 4 dX6_init_1 rfl lk_X6_3 oi_inst oi_code (Nat.le_of_ble_eq_true rfl) (Nat.le_of_ble_eq_true rfl) ?_
  refine AW.aload_n 5 dX6_init_4 rfl (by rfl) ?_
  refine AW.iconst 6 dX6_init_5 rfl (nI 4) rfl ?_
  refine AW.putfield 9 dX6_init_6 rfl fl_X6_9 (by assumption) (Nat.le_of_ble_eq_true rfl) (fun _ => ⟨rfl, rfl⟩) ?_
  refine AW.heap (hs h a (.inr (6, [.int (nI 4), v, w]))) rfl ?_
  refine AW.aload_n 10 dX6_init_9 rfl (by rfl) ?_
  refine AW.bipush 12 dX6_init_10 rfl (nI 6) rfl ?_
  refine AW.anew (u := (13, 68)) 4 6 15 dX6_init_12 rfl cl_X6_15 (Or.inl rfl) (fun _ => rfl) (ix_nI (by omega)) (Nat.le_of_ble_eq_true rfl) ?_
  have x1 : hs (hs h a (.inr (6, [.int (nI 4), v, w]))) (a + 1) (.inl (4, (6, .inr (.inr (.inr (.inr (fun _ => none))))))) a = .inr (6, [.int (nI 4), v, w]) := by rw [hs_ne (by omega), hs_eq]
  have x2 := hs_eq (hs h a (.inr (6, [.int (nI 4), v, w]))) (a + 1) (.inl (4, (6, .inr (.inr (.inr (.inr (fun _ => none)))))) : aE)
  have x3 : ∀ z, z < a → hs (hs h a (.inr (6, [.int (nI 4), v, w]))) (a + 1) (.inl (4, (6, .inr (.inr (.inr (.inr (fun _ => none)))))) : aE) z = h z := fun z hz => by rw [hs_ne (by omega), hs_ne (by omega)]
  generalize hs (hs h a (.inr (6, [.int (nI 4), v, w]))) (a + 1) (.inl (4, (6, .inr (.inr (.inr (.inr (fun _ => none)))))) : aE) = h1 at x1 x2 x3 ⊢
  refine AW.putfieldF 18 dX6_init_15 rfl fl_X6_17 (by assumption) (Nat.le_of_ble_eq_true rfl) (fun _ => ⟨rfl, rfl⟩) rfl rfl ?_
  refine AW.heap (hs h1 a (.inr (6, [.int (nI 4), .ref (a + 1), w]))) rfl ?_
  refine AW.iconst 19 dX6_init_18 rfl (nI 0) rfl ?_
  refine AW.istore_n 20 dX6_init_19 rfl (Nat.le_of_ble_eq_true rfl) rfl ?_
  have L : ∀ k s, s + k = 6 → ∀ h1, h1 a = .inr (6, [.int (nI 4), .ref (a + 1), w]) → h1 (a + 1) = .inl (4, (6, .inr (.inr (.inr (.inr (fun i => if i < s then some (a + 2 + 2 * i) else none)))))) → (∀ i, i < s → h1 (a + 2 + 2 * i) = oP 4 (a + 2 + 2 * i + 1) ∧ h1 (a + 2 + 2 * i + 1) = iA 8 idn) → (∀ z, z < a → h1 z = h z) → AW X6_init 20 [some (.ref a), some (.int (nI s))] [] (a + 2 + 2 * s) (2 * k + 1, 10 * k + 8) h1 P := by
    intro k
    induction k with
    | zero =>
      intro s hs6 h1 y1 y2 y3 y4
      obtain rfl : s = 6 := by omega
      refine AW.iload_n 21 dX6_init_20 rfl (by rfl) ?_
      refine AW.bipush 23 dX6_init_21 rfl (nI 6) rfl ?_
      refine AW.nge 45 26 dX6_init_23 (by decide) rfl (by omega) (by omega) (fun c => ?_) (fun c => ?_)
      · refine AW.uc 1 8 (by omega) (by omega) ?_
        refine AW.nn (a + 14) (by omega) ?_
        refine AW.aload_n 46 dX6_init_45 rfl (by rfl) ?_
        refine AW.bipush 48 dX6_init_46 rfl (nI 8) rfl ?_
        refine AW.newI (u := (0, 0)) 8 50 dX6_init_48 rfl ac_I (ix_nI (by omega)) (Nat.le_of_ble_eq_true rfl) ?_
        have z1 : hs h1 (a + 14) (.inl (0, (8, .inl (fun _ => 0)))) a = .inr (6, [.int (nI 4), .ref (a + 1), w]) := by rw [hs_ne (by omega), y1]
        have z2 := hs_eq h1 (a + 14) (.inl (0, (8, .inl (fun _ => 0))) : aE)
        have z3 : ∀ z, z ≠ a + 14 → hs h1 (a + 14) (.inl (0, (8, .inl (fun _ => 0))) : aE) z = h1 z := fun z hz => hs_ne hz
        generalize hs h1 (a + 14) (.inl (0, (8, .inl (fun _ => 0))) : aE) = h2 at z1 z2 z3 ⊢
        refine AW.putfieldF 53 dX6_init_50 rfl fl_X6_22 (by assumption) (Nat.le_of_ble_eq_true rfl) (fun _ => ⟨rfl, rfl⟩) rfl rfl ?_
        refine AW.heap (hs h2 a (.inr (6, [.int (nI 4), .ref (a + 1), .ref (a + 14)]))) rfl ?_
        refine AW.vret dX6_init_53 rfl ?_
        refine hP _ ⟨hs_eq _ _ _, ?_, fun s hs6 => ⟨?_, ?_⟩, ?_, by decide, by decide, fun _ _ => rfl⟩ (fun z hz => by rw [hs_ne (by omega), z3 z (by omega), y4 z hz])
        · rw [hs_ne (by omega), z3 _ (by omega), y2]
          rfl
        · rw [hs_ne (by omega), z3 _ (by omega), (y3 s hs6).1]
          rfl
        · rw [hs_ne (by omega), z3 _ (by omega), (y3 s hs6).2, show cr st0.1 (st0.2.1 s) = idn from cr_id (by decide)]
        · rw [hs_ne (by omega), z2]
          rfl
      · omega
    | succ k ih =>
      intro s hs6 h1 y1 y2 y3 y4
      refine AW.iload_n 21 dX6_init_20 rfl (by rfl) ?_
      refine AW.bipush 23 dX6_init_21 rfl (nI 6) rfl ?_
      refine AW.nge 45 26 dX6_init_23 (by decide) rfl (by omega) (by omega) (fun c => ?_) (fun c => ?_)
      · omega
      · refine AW.aload_n 27 dX6_init_26 rfl (by rfl) ?_
        refine AW.getfield 30 dX6_init_27 rfl fl_X6_17 (by assumption) (by rfl) ?_
        refine AW.iload_n 31 dX6_init_30 rfl (by rfl) ?_
        refine AW.uc (2 * k + 2 + 1) (10 * k + 16 + 2) (by omega) (by omega) ?_
        refine AW.new (u := (2 * k + 2, 10 * k + 16)) tyX3 [.int 0, .null] 34 dX6_init_31 rfl cl_X6_15 ginbX3 giniX3 (ci := 3) rfl tyX3_ok gX3 (fun j hj => match j, hj with | 0, _ => rfl | 1, _ => rfl | k + 2, h => absurd h (by omega)) (fun _ => rfl) ?_
        refine AW.uc (2 * k + 1 + 1) (10 * k + 8 + 8) (by omega) (by omega) ?_
        refine AW.dup 35 dX6_init_34 rfl rfl ?_
        refine AW.callI (u := (2 * k + 1, 10 * k + 8)) 38 dX6_init_35 rfl mi_X3_init rfl rfl mt_X3_init lk_X6_21 ⟨(Nat.le_of_ble_eq_true rfl), (Nat.le_of_ble_eq_true rfl)⟩ rfl (Nat.le_of_ble_eq_true rfl) _ rfl (c_newPart (a := a + 2 + 2 * s) (hs_eq _ _ _) rfl (fun h2 p1 p2 f2 => ?_))
        have f3 : ∀ z, z < a + 2 + 2 * s → h2 z = h1 z := fun z hz => by rw [f2 z hz, hs_ne (by omega)]
        have z2 := (f3 (a + 1) (by omega)).trans y2
        refine AW.aastore (r := (RX3, TX3, 2)) 39 s dX6_init_38 rfl z2 (by decide) (fun _ => rfl) p1 rfl (ix_nI (by omega)) (by omega) ?_
        refine AW.nn (a + 2 + 2 * (s + 1)) (by omega) ?_
        refine AW.iinc1 42 dX6_init_39 rfl (by rfl) rfl ?_
        refine AW.goto 20 dX6_init_42 (by decide) ?_
        refine ih (s + 1) (by omega) _ (by rw [hs_ne (by omega), f3 _ (by omega), y1]) ?_ ?_ (fun z hz => by rw [hs_ne (by omega), f3 _ (by omega), y4 z hz])
        · rw [hs_eq, show va_up (fun i => if i < s then some (a + 2 + 2 * i) else none) s (some (a + 2 + 2 * s)) = (fun i => if i < s + 1 then some (a + 2 + 2 * i) else none) from funext fun i => by
            unfold va_up
            by_cases e : i = s
            · subst e; simp
            · by_cases e2 : i < s
              · simp [e, e2, Nat.lt_succ_of_lt e2]
              · simp [e, e2, show ¬ i < s + 1 by omega]]
        · intro i hi
          by_cases e : i = s
          · subst e
            exact ⟨by rw [hs_ne (by omega), p1], by rw [hs_ne (by omega), p2]⟩
          · have := y3 i (by omega)
            exact ⟨by rw [hs_ne (by omega), f3 _ (by omega), this.1], by rw [hs_ne (by omega), f3 _ (by omega), this.2]⟩
  refine AW.uc (2 * 6 + 1) (10 * 6 + 8) (by decide) (by decide) ?_
  exact L 6 0 (by omega) _ (hs_eq _ _ _) (by rw [hs_ne (by omega), x2]; rfl) (fun i hi => by omega) (fun z hz => by rw [hs_ne (by omega), x3 z hz])
theorem c_newPast {x y : Int32} {v : Value} (ha : h 46 = .inr (4, [v, .int x, .int y])) (hP : ∀ h', PastAt h' 0 0 (fun _ => st0) → (∀ z, z < 46 → h' z = h z) → P none 138 h') : AM X4_init [.ref 46] 47 h P := by
  refine AM.of rfl (Nat.le_of_ble_eq_true rfl) ?_
  show AW X4_init 0 [some (.ref 46), none] [] _ (91, 468) _ _
  refine AW.aload_n 1 dX4_init_0 rfl (by rfl) ?_
  refine AW.objInit 4 dX4_init_1 rfl lk_X4_3 oi_inst oi_code (Nat.le_of_ble_eq_true rfl) (Nat.le_of_ble_eq_true rfl) ?_
  refine AW.aload_n 5 dX4_init_4 rfl (by rfl) ?_
  refine AW.bipush 7 dX4_init_5 rfl (nI 6) rfl ?_
  refine AW.anew (u := (90, 462)) 5 6 10 dX4_init_7 rfl cl_X4_9 (Or.inr rfl) (fun _ => rfl) (ix_nI (by omega)) (Nat.le_of_ble_eq_true rfl) ?_
  have x1 : hs h 47 (.inl (5, (6, .inr (.inr (.inr (.inr (fun _ => none))))))) 46 = .inr (4, [v, .int x, .int y]) := by rw [hs_ne (by omega), ha]
  have x2 := hs_eq h 47 (.inl (5, (6, .inr (.inr (.inr (.inr (fun _ => none)))))) : aE)
  have x3 : ∀ z, z < 46 → hs h 47 (.inl (5, (6, .inr (.inr (.inr (.inr (fun _ => none)))))) : aE) z = h z := fun z hz => hs_ne (by omega)
  generalize hs h 47 (.inl (5, (6, .inr (.inr (.inr (.inr (fun _ => none)))))) : aE) = h1 at x1 x2 x3 ⊢
  refine AW.putfieldF 13 dX4_init_10 rfl fl_X4_11 (by assumption) (Nat.le_of_ble_eq_true rfl) (fun _ => ⟨rfl, rfl⟩) rfl rfl ?_
  refine AW.heap (hs h1 46 (.inr (4, [.ref 47, .int x, .int y]))) rfl ?_
  refine AW.iconst 14 dX4_init_13 rfl (nI 0) rfl ?_
  refine AW.istore_n 15 dX4_init_14 rfl (Nat.le_of_ble_eq_true rfl) rfl ?_
  have L : ∀ k s, s + k = 6 → ∀ h1, h1 46 = .inr (4, [.ref 47, .int x, .int y]) → h1 47 = .inl (5, (6, .inr (.inr (.inr (.inr (fun i => if i < s then some (48 + 15 * i) else none)))))) → (∀ i, i < s → StateAt h1 (48 + 15 * i) st0) → (∀ z, z < 46 → h1 z = h z) → AW X4_init 15 [some (.ref 46), some (.int (nI s))] [] (48 + 15 * s) (15 * k, 77 * k) h1 P := by
    intro k
    induction k with
    | zero =>
      intro s hs6 h1 y1 y2 y3 y4
      obtain rfl : s = 6 := by omega
      refine AW.iload_n 16 dX4_init_15 rfl (by rfl) ?_
      refine AW.iconst 17 dX4_init_16 rfl (nI 5) rfl ?_
      refine AW.ngt 39 20 dX4_init_17 (by decide) rfl (by omega) (by omega) (fun c => ?_) (fun c => ?_)
      · refine AW.aload_n 40 dX4_init_39 rfl (by rfl) ?_
        refine AW.iconst 41 dX4_init_40 rfl (nI 0) rfl ?_
        refine AW.putfield 44 dX4_init_41 rfl fl_X4_18 (by assumption) (Nat.le_of_ble_eq_true rfl) (fun _ => ⟨rfl, rfl⟩) ?_
        refine AW.heap (hs h1 46 (.inr (4, [.ref 47, .int (nI 0), .int y]))) rfl ?_
        have z1 := hs_eq h1 46 (.inr (4, [.ref 47, .int (nI 0), .int y]) : aE)
        refine AW.aload_n 45 dX4_init_44 rfl (by rfl) ?_
        refine AW.iconst 46 dX4_init_45 rfl (nI 0) rfl ?_
        refine AW.putfield 49 dX4_init_46 rfl fl_X4_22 (by assumption) (Nat.le_of_ble_eq_true rfl) (fun _ => ⟨rfl, rfl⟩) ?_
        refine AW.heap (hs h1 46 (pastO 0 0)) (by rw [hs_hs]; rfl) ?_
        refine AW.vret dX4_init_49 rfl ?_
        refine hP _ ⟨hs_eq _ _ _, ?_, fun i hi => (y3 i hi).same (fun z z1 z2 => hs_ne (by omega)), by decide, by decide⟩ (fun z hz => by rw [hs_ne (by omega), y4 z hz])
        rw [hs_ne (by decide), y2]
        rfl
      · omega
    | succ k ih =>
      intro s hs6 h1 y1 y2 y3 y4
      refine AW.iload_n 16 dX4_init_15 rfl (by rfl) ?_
      refine AW.iconst 17 dX4_init_16 rfl (nI 5) rfl ?_
      refine AW.ngt 39 20 dX4_init_17 (by decide) rfl (by omega) (by omega) (fun c => ?_) (fun c => ?_)
      · omega
      · refine AW.aload_n 21 dX4_init_20 rfl (by rfl) ?_
        refine AW.getfield 24 dX4_init_21 rfl fl_X4_11 (by assumption) (by rfl) ?_
        refine AW.iload_n 25 dX4_init_24 rfl (by rfl) ?_
        refine AW.uc (15 * k + 14 + 1) (77 * k + 74 + 3) (by omega) (by omega) ?_
        refine AW.new (u := (15 * k + 14, 77 * k + 74)) tyX6 [.int 0, .null, .null] 28 dX4_init_25 rfl cl_X4_9 ginbX6 giniX6 (ci := 6) rfl tyX6_ok gX6 (fun j hj => match j, hj with | 0, _ => rfl | 1, _ => rfl | 2, _ => rfl | k + 3, h => absurd h (by omega)) (fun _ => rfl) ?_
        refine AW.dup 29 dX4_init_28 rfl rfl ?_
        refine AW.callI (u := (15 * k, 77 * k)) 32 dX4_init_29 rfl mi_X6_init rfl rfl mt_X6_init lk_X4_17 ⟨(Nat.le_of_ble_eq_true rfl), (Nat.le_of_ble_eq_true rfl)⟩ rfl (Nat.le_of_ble_eq_true rfl) _ rfl (c_newState (a := 48 + 15 * s) (hs_eq _ _ _) rfl (fun h2 p1 f2 => ?_))
        have f3 : ∀ z, z < 48 + 15 * s → h2 z = h1 z := fun z hz => by rw [f2 z hz, hs_ne (by omega)]
        have z2 := (f3 47 (by omega)).trans y2
        refine AW.aastore (r := (RX6, TX6, 3)) 33 s dX4_init_32 rfl z2 (by decide) (fun _ => rfl) p1.1 rfl (ix_nI (by omega)) (by omega) ?_
        refine AW.nn (48 + 15 * (s + 1)) (by omega) ?_
        refine AW.iinc1 36 dX4_init_33 rfl (by rfl) rfl ?_
        refine AW.goto 15 dX4_init_36 (by decide) ?_
        refine ih (s + 1) (by omega) _ (by rw [hs_ne (by omega), f3 _ (by omega), y1]) ?_ ?_ (fun z hz => by rw [hs_ne (by omega), f3 _ (by omega), y4 z hz])
        · rw [hs_eq, show va_up (fun i => if i < s then some (48 + 15 * i) else none) s (some (48 + 15 * s)) = (fun i => if i < s + 1 then some (48 + 15 * i) else none) from funext fun i => by
            unfold va_up
            by_cases e : i = s
            · subst e; simp
            · by_cases e2 : i < s
              · simp [e, e2, Nat.lt_succ_of_lt e2]
              · simp [e, e2, show ¬ i < s + 1 by omega]]
        · intro i hi
          by_cases e : i = s
          · subst e
            exact p1.same (fun z z1 z2 => hs_ne (by omega))
          · exact (y3 i (by omega)).same (fun z z1 z2 => by rw [hs_ne (by omega), f3 _ (by omega)])
  refine AW.uc (15 * 6) (77 * 6) (by decide) (by decide) ?_
  exact L 6 0 (by omega) _ (hs_eq _ _ _) (by rw [hs_ne (by omega), x2]; rfl) (fun i hi => by omega) (fun z hz => by rw [hs_ne (by omega), x3 z hz])
end CTOR
