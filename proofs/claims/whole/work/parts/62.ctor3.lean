/-! CONSTRUCTORS: orders, series, the class, the model -/
section CTOR3
variable {N : Nat} {h : aH} {P : aP}
def X00 : aX := (st0, (0, fun _ => st0), (0, 0, 0), (fun _ => 0, 0))
theorem c_newOrders {v0 v4 v5 : Value} (x138 : h 138 = .inr (2, [v0, .int 0, .int 0, .int 0, v4, v5])) (hP : ∀ h', OrdAt h' (fun _ => 0) 0 0 0 (fun _ => 0) (fun _ _ => 0) → (∀ z, z < 138 → h' z = h z) → P none 182 h') : AM X2_init [.ref 138] 139 h P := by
  refine AM.of rfl (Nat.le_of_ble_eq_true rfl) ?_
  show AW X2_init 0 [some (.ref 138)] [] _ (43, 320) _ _
  refine AW.aload_n 1 dX2_init_0 rfl (by rfl) ?_
  refine AW.objInit 4 dX2_init_1 rfl lk_X2_3 oi_inst oi_code (Nat.le_of_ble_eq_true rfl) (Nat.le_of_ble_eq_true rfl) ?_
  refine AW.aload_n 5 dX2_init_4 rfl (by rfl) ?_
  refine AW.bipush 7 dX2_init_5 rfl (nI 120) rfl ?_
  refine AW.newI (u := (42, 200)) 120 9 dX2_init_7 rfl ac_I (ix_nI (by omega)) (Nat.le_of_ble_eq_true rfl) ?_
  obtain ⟨g1, eg1⟩ : ∃ g, g = hs h 139 (.inl (0, (120, .inl (fun _ => 0)))) := ⟨_, rfl⟩
  refine AW.heap g1 eg1.symm ?_
  have x138 : g1 138 = .inr (2, [v0, .int 0, .int 0, .int 0, v4, v5]) := by rw [eg1, hs_ne (by decide)]; exact x138
  have x139 : g1 139 = .inl (0, (120, .inl (fun _ => 0))) := by rw [eg1, hs_eq]
  have fr : ∀ z, z < 138 → g1 z = h z := fun z hz => by rw [eg1, hs_ne (by omega)]
  refine AW.putfieldF 12 dX2_init_9 rfl fl_X2_9 (by assumption) (Nat.le_of_ble_eq_true rfl) (fun _ => ⟨rfl, rfl⟩) rfl rfl ?_
  obtain ⟨g2, eg2⟩ : ∃ g, g = hs g1 138 (.inr (2, [.ref 139, .int 0, .int 0, .int 0, v4, v5])) := ⟨_, rfl⟩
  refine AW.heap g2 eg2.symm ?_
  have x139 : g2 139 = .inl (0, (120, .inl (fun _ => 0))) := by rw [eg2, hs_ne (by decide)]; exact x139
  have x138 : g2 138 = .inr (2, [.ref 139, .int 0, .int 0, .int 0, v4, v5]) := by rw [eg2, hs_eq]
  have fr : ∀ z, z < 138 → g2 z = h z := fun z hz => by rw [eg2, hs_ne (by omega), fr z hz]
  refine AW.aload_n 13 dX2_init_12 rfl (by rfl) ?_
  refine AW.iconst 14 dX2_init_13 rfl (nI 0) rfl ?_
  refine AW.putfield 17 dX2_init_14 rfl fl_X2_15 (by assumption) (Nat.le_of_ble_eq_true rfl) (fun _ => ⟨rfl, rfl⟩) ?_
  obtain ⟨g3, eg3⟩ : ∃ g, g = hs g2 138 (.inr (2, [.ref 139, .int 0, .int 0, .int 0, v4, v5])) := ⟨_, rfl⟩
  refine AW.heap g3 eg3.symm ?_
  have x139 : g3 139 = .inl (0, (120, .inl (fun _ => 0))) := by rw [eg3, hs_ne (by decide)]; exact x139
  have x138 : g3 138 = .inr (2, [.ref 139, .int 0, .int 0, .int 0, v4, v5]) := by rw [eg3, hs_eq]
  have fr : ∀ z, z < 138 → g3 z = h z := fun z hz => by rw [eg3, hs_ne (by omega), fr z hz]
  refine AW.aload_n 18 dX2_init_17 rfl (by rfl) ?_
  refine AW.iconst 19 dX2_init_18 rfl (nI 0) rfl ?_
  refine AW.putfield 22 dX2_init_19 rfl fl_X2_19 (by assumption) (Nat.le_of_ble_eq_true rfl) (fun _ => ⟨rfl, rfl⟩) ?_
  obtain ⟨g4, eg4⟩ : ∃ g, g = hs g3 138 (.inr (2, [.ref 139, .int 0, .int 0, .int 0, v4, v5])) := ⟨_, rfl⟩
  refine AW.heap g4 eg4.symm ?_
  have x139 : g4 139 = .inl (0, (120, .inl (fun _ => 0))) := by rw [eg4, hs_ne (by decide)]; exact x139
  have x138 : g4 138 = .inr (2, [.ref 139, .int 0, .int 0, .int 0, v4, v5]) := by rw [eg4, hs_eq]
  have fr : ∀ z, z < 138 → g4 z = h z := fun z hz => by rw [eg4, hs_ne (by omega), fr z hz]
  refine AW.aload_n 23 dX2_init_22 rfl (by rfl) ?_
  refine AW.iconst 24 dX2_init_23 rfl (nI 0) rfl ?_
  refine AW.putfield 27 dX2_init_24 rfl fl_X2_22 (by assumption) (Nat.le_of_ble_eq_true rfl) (fun _ => ⟨rfl, rfl⟩) ?_
  obtain ⟨g5, eg5⟩ : ∃ g, g = hs g4 138 (.inr (2, [.ref 139, .int 0, .int 0, .int 0, v4, v5])) := ⟨_, rfl⟩
  refine AW.heap g5 eg5.symm ?_
  have x139 : g5 139 = .inl (0, (120, .inl (fun _ => 0))) := by rw [eg5, hs_ne (by decide)]; exact x139
  have x138 : g5 138 = .inr (2, [.ref 139, .int 0, .int 0, .int 0, v4, v5]) := by rw [eg5, hs_eq]
  have fr : ∀ z, z < 138 → g5 z = h z := fun z hz => by rw [eg5, hs_ne (by omega), fr z hz]
  refine AW.aload_n 28 dX2_init_27 rfl (by rfl) ?_
  refine AW.bipush 30 dX2_init_28 rfl (nI 40) rfl ?_
  refine AW.newI (u := (41, 160)) 40 32 dX2_init_30 rfl ac_I (ix_nI (by omega)) (Nat.le_of_ble_eq_true rfl) ?_
  obtain ⟨g6, eg6⟩ : ∃ g, g = hs g5 140 (.inl (0, (40, .inl (fun _ => 0)))) := ⟨_, rfl⟩
  refine AW.heap g6 eg6.symm ?_
  have x138 : g6 138 = .inr (2, [.ref 139, .int 0, .int 0, .int 0, v4, v5]) := by rw [eg6, hs_ne (by decide)]; exact x138
  have x139 : g6 139 = .inl (0, (120, .inl (fun _ => 0))) := by rw [eg6, hs_ne (by decide)]; exact x139
  have x140 : g6 140 = .inl (0, (40, .inl (fun _ => 0))) := by rw [eg6, hs_eq]
  have fr : ∀ z, z < 138 → g6 z = h z := fun z hz => by rw [eg6, hs_ne (by omega), fr z hz]
  refine AW.putfieldF 35 dX2_init_32 rfl fl_X2_25 (by assumption) (Nat.le_of_ble_eq_true rfl) (fun _ => ⟨rfl, rfl⟩) rfl rfl ?_
  obtain ⟨g7, eg7⟩ : ∃ g, g = hs g6 138 (.inr (2, [.ref 139, .int 0, .int 0, .int 0, .ref 140, v5])) := ⟨_, rfl⟩
  refine AW.heap g7 eg7.symm ?_
  have x139 : g7 139 = .inl (0, (120, .inl (fun _ => 0))) := by rw [eg7, hs_ne (by decide)]; exact x139
  have x140 : g7 140 = .inl (0, (40, .inl (fun _ => 0))) := by rw [eg7, hs_ne (by decide)]; exact x140
  have x138 : g7 138 = .inr (2, [.ref 139, .int 0, .int 0, .int 0, .ref 140, v5]) := by rw [eg7, hs_eq]
  have fr : ∀ z, z < 138 → g7 z = h z := fun z hz => by rw [eg7, hs_ne (by omega), fr z hz]
  refine AW.aload_n 36 dX2_init_35 rfl (by rfl) ?_
  refine AW.bipush 38 dX2_init_36 rfl (nI 40) rfl ?_
  refine AW.iconst 39 dX2_init_38 rfl (nI 3) rfl ?_
  refine AW.mnaI (u := (0, 0)) 40 3 43 dX2_init_39 rfl (by rw [show "[" ++ (FieldType.array .int).toString = "[[I" by decide +kernel]; exact cl_X2_28) ac_I (ix_nI (by omega)) (ix_nI (by omega)) (Nat.le_of_ble_eq_true rfl) (Nat.le_of_ble_eq_true rfl) ?_
  obtain ⟨hm, ehm⟩ : ∃ hm, hm = hm2 g7 141 40 (refs 40 141) (.inl (0, (3, .inl (fun _ => 0)))) := ⟨_, rfl⟩
  refine AW.heap hm ehm.symm ?_
  have lo : ∀ z, z < 141 → hm z = g7 z := fun z hz => by rw [ehm]; unfold hm2; rw [if_neg (by omega), if_neg (by omega)]
  have u141 : hm 141 = refs 40 141 := by rw [ehm]; unfold hm2; rw [if_pos rfl]
  have u142 : ∀ i, i < 40 → hm (141 + 1 + i) = (.inl (0, (3, .inl (fun _ => 0))) : aE) := fun i hi => by rw [ehm]; unfold hm2; rw [if_neg (by omega), if_pos (by omega)]
  have u138 := (lo 138 (by decide)).trans x138
  have u139 := (lo 139 (by decide)).trans x139
  have u140 := (lo 140 (by decide)).trans x140
  refine AW.putfieldF 46 dX2_init_43 rfl fl_X2_30 (by assumption) (Nat.le_of_ble_eq_true rfl) (fun _ => ⟨rfl, rfl⟩) rfl rfl ?_
  refine AW.heap (hs hm 138 (ordO 0 0 0)) rfl ?_
  refine AW.vret dX2_init_46 rfl ?_
  exact hP _ ⟨hs_eq _ _ _, by rw [hs_ne (by decide), u139]; rfl, by rw [hs_ne (by decide), u140], by rw [hs_ne (by decide), u141], fun i hi => by rw [hs_ne (by omega), u142 i hi], by decide, fun _ => (by decide : (0 : Nat) < 128)⟩ (fun z hz => by rw [hs_ne (by omega), lo z (by omega), fr z hz])
theorem c_newSeries {v0 v1 v2 v3 : Value} (x182 : h 182 = .inr (5, [v0, v1, v2, v3])) (hP : ∀ h', SerAt h' (fun _ => 0) (fun _ => 0) (upL (fun _ => 0) 0 1) 0 → (∀ z, z < 182 → h' z = h z) → P none 196 h') : AM X5_init [.ref 182] 183 h P := by
  refine AM.of rfl (Nat.le_of_ble_eq_true rfl) ?_
  show AW X5_init 0 [some (.ref 182)] [] _ (13, 117) _ _
  refine AW.aload_n 1 dX5_init_0 rfl (by rfl) ?_
  refine AW.objInit 4 dX5_init_1 rfl lk_X5_3 oi_inst oi_code (Nat.le_of_ble_eq_true rfl) (Nat.le_of_ble_eq_true rfl) ?_
  refine AW.aload_n 5 dX5_init_4 rfl (by rfl) ?_
  refine AW.bipush 7 dX5_init_5 rfl (nI 9) rfl ?_
  refine AW.newL (u := (12, 108)) 9 9 dX5_init_7 rfl ac_J (ix_nI (by omega)) (Nat.le_of_ble_eq_true rfl) ?_
  obtain ⟨g1, eg1⟩ : ∃ g, g = hs h 183 (.inl (1, (9, .inr (.inl (fun _ => 0))))) := ⟨_, rfl⟩
  refine AW.heap g1 eg1.symm ?_
  have x182 : g1 182 = .inr (5, [v0, v1, v2, v3]) := by rw [eg1, hs_ne (by decide)]; exact x182
  have x183 : g1 183 = .inl (1, (9, .inr (.inl (fun _ => 0)))) := by rw [eg1, hs_eq]
  have fr : ∀ z, z < 182 → g1 z = h z := fun z hz => by rw [eg1, hs_ne (by omega)]
  refine AW.putfieldF 12 dX5_init_9 rfl fl_X5_9 (by assumption) (Nat.le_of_ble_eq_true rfl) (fun _ => ⟨rfl, rfl⟩) rfl rfl ?_
  obtain ⟨g2, eg2⟩ : ∃ g, g = hs g1 182 (.inr (5, [.ref 183, v1, v2, v3])) := ⟨_, rfl⟩
  refine AW.heap g2 eg2.symm ?_
  have x183 : g2 183 = .inl (1, (9, .inr (.inl (fun _ => 0)))) := by rw [eg2, hs_ne (by decide)]; exact x183
  have x182 : g2 182 = .inr (5, [.ref 183, v1, v2, v3]) := by rw [eg2, hs_eq]
  have fr : ∀ z, z < 182 → g2 z = h z := fun z hz => by rw [eg2, hs_ne (by omega), fr z hz]
  refine AW.aload_n 13 dX5_init_12 rfl (by rfl) ?_
  refine AW.bipush 15 dX5_init_13 rfl (nI 9) rfl ?_
  refine AW.newL (u := (11, 99)) 9 17 dX5_init_15 rfl ac_J (ix_nI (by omega)) (Nat.le_of_ble_eq_true rfl) ?_
  obtain ⟨g3, eg3⟩ : ∃ g, g = hs g2 184 (.inl (1, (9, .inr (.inl (fun _ => 0))))) := ⟨_, rfl⟩
  refine AW.heap g3 eg3.symm ?_
  have x182 : g3 182 = .inr (5, [.ref 183, v1, v2, v3]) := by rw [eg3, hs_ne (by decide)]; exact x182
  have x183 : g3 183 = .inl (1, (9, .inr (.inl (fun _ => 0)))) := by rw [eg3, hs_ne (by decide)]; exact x183
  have x184 : g3 184 = .inl (1, (9, .inr (.inl (fun _ => 0)))) := by rw [eg3, hs_eq]
  have fr : ∀ z, z < 182 → g3 z = h z := fun z hz => by rw [eg3, hs_ne (by omega), fr z hz]
  refine AW.putfieldF 20 dX5_init_17 rfl fl_X5_15 (by assumption) (Nat.le_of_ble_eq_true rfl) (fun _ => ⟨rfl, rfl⟩) rfl rfl ?_
  obtain ⟨g4, eg4⟩ : ∃ g, g = hs g3 182 (.inr (5, [.ref 183, .ref 184, v2, v3])) := ⟨_, rfl⟩
  refine AW.heap g4 eg4.symm ?_
  have x183 : g4 183 = .inl (1, (9, .inr (.inl (fun _ => 0)))) := by rw [eg4, hs_ne (by decide)]; exact x183
  have x184 : g4 184 = .inl (1, (9, .inr (.inl (fun _ => 0)))) := by rw [eg4, hs_ne (by decide)]; exact x184
  have x182 : g4 182 = .inr (5, [.ref 183, .ref 184, v2, v3]) := by rw [eg4, hs_eq]
  have fr : ∀ z, z < 182 → g4 z = h z := fun z hz => by rw [eg4, hs_ne (by omega), fr z hz]
  refine AW.aload_n 21 dX5_init_20 rfl (by rfl) ?_
  refine AW.bipush 23 dX5_init_21 rfl (nI 9) rfl ?_
  refine AW.newL (u := (10, 90)) 9 25 dX5_init_23 rfl ac_J (ix_nI (by omega)) (Nat.le_of_ble_eq_true rfl) ?_
  obtain ⟨g5, eg5⟩ : ∃ g, g = hs g4 185 (.inl (1, (9, .inr (.inl (fun _ => 0))))) := ⟨_, rfl⟩
  refine AW.heap g5 eg5.symm ?_
  have x182 : g5 182 = .inr (5, [.ref 183, .ref 184, v2, v3]) := by rw [eg5, hs_ne (by decide)]; exact x182
  have x183 : g5 183 = .inl (1, (9, .inr (.inl (fun _ => 0)))) := by rw [eg5, hs_ne (by decide)]; exact x183
  have x184 : g5 184 = .inl (1, (9, .inr (.inl (fun _ => 0)))) := by rw [eg5, hs_ne (by decide)]; exact x184
  have x185 : g5 185 = .inl (1, (9, .inr (.inl (fun _ => 0)))) := by rw [eg5, hs_eq]
  have fr : ∀ z, z < 182 → g5 z = h z := fun z hz => by rw [eg5, hs_ne (by omega), fr z hz]
  refine AW.putfieldF 28 dX5_init_25 rfl fl_X5_18 (by assumption) (Nat.le_of_ble_eq_true rfl) (fun _ => ⟨rfl, rfl⟩) rfl rfl ?_
  obtain ⟨g6, eg6⟩ : ∃ g, g = hs g5 182 (.inr (5, [.ref 183, .ref 184, .ref 185, v3])) := ⟨_, rfl⟩
  refine AW.heap g6 eg6.symm ?_
  have x183 : g6 183 = .inl (1, (9, .inr (.inl (fun _ => 0)))) := by rw [eg6, hs_ne (by decide)]; exact x183
  have x184 : g6 184 = .inl (1, (9, .inr (.inl (fun _ => 0)))) := by rw [eg6, hs_ne (by decide)]; exact x184
  have x185 : g6 185 = .inl (1, (9, .inr (.inl (fun _ => 0)))) := by rw [eg6, hs_ne (by decide)]; exact x185
  have x182 : g6 182 = .inr (5, [.ref 183, .ref 184, .ref 185, v3]) := by rw [eg6, hs_eq]
  have fr : ∀ z, z < 182 → g6 z = h z := fun z hz => by rw [eg6, hs_ne (by omega), fr z hz]
  refine AW.aload_n 29 dX5_init_28 rfl (by rfl) ?_
  refine AW.bipush 31 dX5_init_29 rfl (nI 9) rfl ?_
  refine AW.bipush 33 dX5_init_31 rfl (nI 9) rfl ?_
  refine AW.mnaL (u := (0, 0)) 9 9 37 dX5_init_33 rfl (by rw [show "[" ++ (FieldType.array .long).toString = "[[J" by decide +kernel]; exact cl_X5_21) ac_J (ix_nI (by omega)) (ix_nI (by omega)) (Nat.le_of_ble_eq_true rfl) (Nat.le_of_ble_eq_true rfl) ?_
  obtain ⟨hm, ehm⟩ : ∃ hm, hm = hm2 g6 186 9 (refL 9 186) (lA 9 (fun _ => 0)) := ⟨_, rfl⟩
  refine AW.heap hm ehm.symm ?_
  have lo : ∀ z, z < 186 → hm z = g6 z := fun z hz => by rw [ehm]; unfold hm2; rw [if_neg (by omega), if_neg (by omega)]
  have u186 : hm 186 = refL 9 186 := by rw [ehm]; unfold hm2; rw [if_pos rfl]
  have u187 : ∀ i, i < 9 → hm (186 + 1 + i) = lA 9 (fun _ => 0) := fun i hi => by rw [ehm]; unfold hm2; rw [if_neg (by omega), if_pos (by omega)]
  have u182 := (lo 182 (by decide)).trans x182
  have u183 := (lo 183 (by decide)).trans x183
  have u184 := (lo 184 (by decide)).trans x184
  have u185 := (lo 185 (by decide)).trans x185
  refine AW.putfieldF 40 dX5_init_37 rfl fl_X5_23 (by assumption) (Nat.le_of_ble_eq_true rfl) (fun _ => ⟨rfl, rfl⟩) rfl rfl ?_
  refine AW.heap (hs hm 182 serO) rfl ?_
  have w182 := hs_eq hm 182 serO
  have w185 := at_ne (a := 182) (e := serO) u185 (by decide)
  refine AW.aload_n 41 dX5_init_40 rfl (by rfl) ?_
  refine AW.getfield 44 dX5_init_41 rfl fl_X5_18 (by assumption) (by rfl) ?_
  refine AW.iconst 45 dX5_init_44 rfl (nI 0) rfl ?_
  refine AW.lconst 46 dX5_init_45 rfl 1 rfl ?_
  refine AW.lastore 47 _ dX5_init_46 rfl (by assumption) (ix_nI (by omega)) (by omega) ?_
  refine AW.heap (hs (hs hm 182 serO) 185 (lA 9 (upL (fun _ => 0) 0 1))) rfl ?_
  have y182 := at_ne (a := 185) (e := lA 9 (upL (fun _ => 0) 0 1)) w182 (by decide)
  have y186 := at_ne (a := 185) (e := lA 9 (upL (fun _ => 0) 0 1)) (at_ne (a := 182) (e := serO) u186 (by decide)) (by decide)
  have y187 := at_ne (a := 185) (e := lA 9 (upL (fun _ => 0) 0 1)) (at_ne (a := 182) (e := serO) (u187 0 (by decide)) (by decide)) (by decide)
  refine AW.aload_n 48 dX5_init_47 rfl (by rfl) ?_
  refine AW.getfield 51 dX5_init_48 rfl fl_X5_23 (by assumption) (by rfl) ?_
  refine AW.iconst 52 dX5_init_51 rfl (nI 0) rfl ?_
  refine AW.aaload 53 _ dX5_init_52 rfl (by assumption) (fun _ => rfl) rfl (ix_nI (by omega)) (by omega) (if_pos (show 0 < 9 by omega)) ?_
  refine AW.iconst 54 dX5_init_53 rfl (nI 0) rfl ?_
  refine AW.lconst 55 dX5_init_54 rfl 1 rfl ?_
  refine AW.lastore 56 _ dX5_init_55 rfl y187 (ix_nI (by omega)) (by omega) ?_
  refine AW.heap (hs (hs (hs hm 182 serO) 185 (lA 9 (upL (fun _ => 0) 0 1))) (186 + 1 + 0) (lA 9 (upL (fun _ => 0) 0 1))) rfl ?_
  refine AW.vret dX5_init_56 rfl ?_
  refine hP _ ⟨by rw [hs_ne (by decide), y182], by rw [hs_ne (by decide), hs_ne (by decide), hs_ne (by decide), u183], by rw [hs_ne (by decide), hs_ne (by decide), hs_ne (by decide), u184], by rw [hs_ne (by decide), hs_eq], by rw [hs_ne (by decide), y186], rfl, fun i => if i = 0 then upL (fun _ => 0) 0 1 else (fun _ => 0), fun i hi => ?_, fun r hr => ?_, fun s r hr => absurd hr (Nat.not_lt_zero _)⟩ (fun z hz => by rw [hs_ne (by omega), hs_ne (by omega), hs_ne (by omega), lo z (by omega), fr z hz])
  · by_cases e : i = 0
    · subst e; rw [hs_eq]; rfl
    · rw [hs_ne (by omega), hs_ne (by omega), hs_ne (by omega), u187 i hi]; simp only [if_neg e]
  · show upL (fun _ => 0) 0 1 r = pwF _ 0 r
    rw [pwF, upL]
theorem SerAt.same2 {h' : aH} {w g m : Nat → Int64} {R : Nat} (S : SerAt h w g m R) (e : ∀ z, 182 ≤ z → z < 196 → h' z = h z) : SerAt h' w g m R := by
  obtain ⟨s1, s2, s3, s4, s5, s6, pw, p1, p2⟩ := S
  exact ⟨by rw [e _ (by decide) (by decide), s1], by rw [e _ (by decide) (by decide), s2], by rw [e _ (by decide) (by decide), s3], by rw [e _ (by decide) (by decide), s4], by rw [e _ (by decide) (by decide), s5], s6, pw, fun i hi => by rw [e _ (by omega) (by omega), p1 i hi], p2⟩
theorem BoardAt.same2 {h' : aH} {σ : aS} (B : BoardAt h σ) (e : ∀ z, 4 ≤ z → z < 46 → h' z = h z) : BoardAt h' σ := by
  obtain ⟨b1, b2, w, m, f, g1, g2, g3⟩ := B
  obtain ⟨w1, ⟨q2, w2⟩, ⟨q3, w3⟩, ⟨q4, w4⟩, w5, w6, w7, w8, w9, w10, w11⟩ := w
  have pa : ∀ {p q : Nat}, 4 ≤ p → p < 46 → 4 ≤ q → q < 46 → PartAt h p q → PartAt h' p q := fun hp hp2 hq hq2 ⟨m, f, g1, g2, g3⟩ => ⟨m, f, by rw [e _ (by omega) (by omega), g1], by rw [e _ (by omega) (by omega), g2], g3⟩
  exact ⟨by rw [e 4 (by decide) (by decide), b1], b2.same (fun z z1 z2 => e z (by omega) (by omega)), ⟨by rw [e _ (by omega) (by omega), w1], ⟨q2, by rw [e _ (by omega) (by omega), w2]⟩, ⟨q3, by rw [e _ (by omega) (by omega), w3]⟩, ⟨q4, by rw [e _ (by omega) (by omega), w4]⟩, by rw [e _ (by omega) (by omega), w5], fun i hi => by rw [e _ (by omega) (by omega), w6 i hi], pa (by omega) (by omega) (by omega) (by omega) w7, pa (by omega) (by omega) (by omega) (by omega) w8, pa (by omega) (by omega) (by omega) (by omega) w9, pa (by omega) (by omega) (by omega) (by omega) w10, pa (by omega) (by omega) (by omega) (by omega) w11⟩, pa (by omega) (by omega) (by omega) (by omega) ⟨m, f, g1, g2, g3⟩⟩
theorem c_newCls {v0 v1 v2 v3 : Value} (x0 : h 0 = sA catN) (x1 : h 1 = sA lngN) (ha : h 3 = .inr (7, [v0, v1, v2, v3, .int 0, .int 0, .int 0])) (hP : ∀ h', ClsAt h' X00 → (∀ z, z < 3 → h' z = h z) → P none 196 h') : AM X7_init [.ref 3] 4 h P := by
  refine AM.of rfl (Nat.le_of_ble_eq_true rfl) ?_
  show AW X7_init 0 [some (.ref 3)] [] _ (192, 1182) _ _
  refine AW.aload_n 1 dX7_init_0 rfl (by rfl) ?_
  refine AW.objInit 4 dX7_init_1 rfl lk_X7_1 oi_inst oi_code (Nat.le_of_ble_eq_true rfl) (Nat.le_of_ble_eq_true rfl) ?_
  refine AW.aload_n 5 dX7_init_4 rfl (by rfl) ?_
  refine AW.new (u := (191, 1179)) tyX0 [.null, .null, .null] 8 dX7_init_5 rfl cl_X7_7 ginbX0 giniX0 (ci := 0) rfl tyX0_ok gX0 (fun j hj => match j, hj with | 0, _ => rfl | 1, _ => rfl | 2, _ => rfl | k + 3, h => absurd h (by omega)) (fun _ => rfl) ?_
  refine AW.dup 9 dX7_init_8 rfl rfl ?_
  refine AW.callI (u := (150, 918)) 12 dX7_init_9 rfl mi_X0_init rfl rfl mt_X0_init lk_X7_9 ⟨(Nat.le_of_ble_eq_true rfl), (Nat.le_of_ble_eq_true rfl)⟩ rfl (Nat.le_of_ble_eq_true rfl) _ rfl (c_newBoard (hs_eq _ _ _) (fun h1 B1 f1 => ?_))
  have x3 : h1 3 = .inr (7, [v0, v1, v2, v3, .int 0, .int 0, .int 0]) := by rw [f1 3 (by decide), hs_ne (by decide), ha]
  have F1 : ∀ z, z < 3 → h1 z = h z := fun z hz => by rw [f1 z (by omega), hs_ne (by omega)]
  refine AW.putfieldF 15 dX7_init_12 rfl fl_X7_10 (by assumption) (Nat.le_of_ble_eq_true rfl) (fun _ => ⟨rfl, rfl⟩) rfl rfl ?_
  obtain ⟨g1, eg1⟩ : ∃ g, g = hs h1 3 (.inr (7, [.ref 4, v1, v2, v3, .int 0, .int 0, .int 0])) := ⟨_, rfl⟩
  refine AW.heap g1 eg1.symm ?_
  have y3 : g1 3 = .inr (7, [.ref 4, v1, v2, v3, .int 0, .int 0, .int 0]) := by rw [eg1, hs_eq]
  have E1 : ∀ z, z ≠ 3 → g1 z = h1 z := fun z hz => by rw [eg1, hs_ne hz]
  have B1 : BoardAt g1 st0 := B1.same2 (fun z z1 z2 => E1 z (by omega))
  refine AW.aload_n 16 dX7_init_15 rfl (by rfl) ?_
  refine AW.new (u := (149, 915)) tyX4 [.null, .int 0, .int 0] 19 dX7_init_16 rfl cl_X7_16 ginbX4 giniX4 (ci := 4) rfl tyX4_ok gX4 (fun j hj => match j, hj with | 0, _ => rfl | 1, _ => rfl | 2, _ => rfl | k + 3, h => absurd h (by omega)) (fun _ => rfl) ?_
  refine AW.dup 20 dX7_init_19 rfl rfl ?_
  refine AW.callI (u := (58, 447)) 23 dX7_init_20 rfl mi_X4_init rfl rfl mt_X4_init lk_X7_18 ⟨(Nat.le_of_ble_eq_true rfl), (Nat.le_of_ble_eq_true rfl)⟩ rfl (Nat.le_of_ble_eq_true rfl) _ rfl (c_newPast (hs_eq _ _ _) (fun h2 S2 f2 => ?_))
  have f2 : ∀ z, z < 46 → h2 z = g1 z := fun z hz => by rw [f2 z hz, hs_ne (by omega)]
  have x3 := (f2 3 (by decide)).trans y3
  refine AW.putfieldF 26 dX7_init_23 rfl fl_X7_19 (by assumption) (Nat.le_of_ble_eq_true rfl) (fun _ => ⟨rfl, rfl⟩) rfl rfl ?_
  obtain ⟨g2, eg2⟩ : ∃ g, g = hs h2 3 (.inr (7, [.ref 4, .ref 46, v2, v3, .int 0, .int 0, .int 0])) := ⟨_, rfl⟩
  refine AW.heap g2 eg2.symm ?_
  have y3 : g2 3 = .inr (7, [.ref 4, .ref 46, v2, v3, .int 0, .int 0, .int 0]) := by rw [eg2, hs_eq]
  have E2 : ∀ z, z ≠ 3 → g2 z = h2 z := fun z hz => by rw [eg2, hs_ne hz]
  have B2 : BoardAt g2 st0 := B1.same2 (fun z z1 z2 => by rw [E2 z (by omega), f2 z (by omega)])
  have S2 : PastAt g2 0 0 (fun _ => st0) := S2.same (fun z z1 z2 => E2 z (by omega))
  refine AW.aload_n 27 dX7_init_26 rfl (by rfl) ?_
  refine AW.new (u := (57, 441)) tyX2 [.null, .int 0, .int 0, .int 0, .null, .null] 30 dX7_init_27 rfl cl_X7_23 ginbX2 giniX2 (ci := 2) rfl tyX2_ok gX2 (fun j hj => match j, hj with | 0, _ => rfl | 1, _ => rfl | 2, _ => rfl | 3, _ => rfl | 4, _ => rfl | 5, _ => rfl | k + 6, h => absurd h (by omega)) (fun _ => rfl) ?_
  refine AW.dup 31 dX7_init_30 rfl rfl ?_
  refine AW.callI (u := (14, 121)) 34 dX7_init_31 rfl mi_X2_init rfl rfl mt_X2_init lk_X7_25 ⟨(Nat.le_of_ble_eq_true rfl), (Nat.le_of_ble_eq_true rfl)⟩ rfl (Nat.le_of_ble_eq_true rfl) _ rfl (c_newOrders (hs_eq _ _ _) (fun h3 O3 f3 => ?_))
  have f3 : ∀ z, z < 138 → h3 z = g2 z := fun z hz => by rw [f3 z hz, hs_ne (by omega)]
  have x3 := (f3 3 (by decide)).trans y3
  refine AW.putfieldF 37 dX7_init_34 rfl fl_X7_26 (by assumption) (Nat.le_of_ble_eq_true rfl) (fun _ => ⟨rfl, rfl⟩) rfl rfl ?_
  obtain ⟨g3, eg3⟩ : ∃ g, g = hs h3 3 (.inr (7, [.ref 4, .ref 46, .ref 138, v3, .int 0, .int 0, .int 0])) := ⟨_, rfl⟩
  refine AW.heap g3 eg3.symm ?_
  have y3 : g3 3 = .inr (7, [.ref 4, .ref 46, .ref 138, v3, .int 0, .int 0, .int 0]) := by rw [eg3, hs_eq]
  have E3 : ∀ z, z ≠ 3 → g3 z = h3 z := fun z hz => by rw [eg3, hs_ne hz]
  have B3 : BoardAt g3 st0 := B2.same2 (fun z z1 z2 => by rw [E3 z (by omega), f3 z (by omega)])
  have S3 : PastAt g3 0 0 (fun _ => st0) := S2.same (fun z z1 z2 => by rw [E3 z (by omega), f3 z (by omega)])
  have O3 := O3.same (h' := g3) (fun z z1 z2 => E3 z (by omega))
  refine AW.aload_n 38 dX7_init_37 rfl (by rfl) ?_
  refine AW.new (u := (13, 117)) tyX5 [.null, .null, .null, .null] 41 dX7_init_38 rfl cl_X7_30 ginbX5 giniX5 (ci := 5) rfl tyX5_ok gX5 (fun j hj => match j, hj with | 0, _ => rfl | 1, _ => rfl | 2, _ => rfl | 3, _ => rfl | k + 4, h => absurd h (by omega)) (fun _ => rfl) ?_
  refine AW.dup 42 dX7_init_41 rfl rfl ?_
  refine AW.callI (u := (0, 0)) 45 dX7_init_42 rfl mi_X5_init rfl rfl mt_X5_init lk_X7_32 ⟨(Nat.le_of_ble_eq_true rfl), (Nat.le_of_ble_eq_true rfl)⟩ rfl (Nat.le_of_ble_eq_true rfl) _ rfl (c_newSeries (hs_eq _ _ _) (fun h4 Q4 f4 => ?_))
  have f4 : ∀ z, z < 182 → h4 z = g3 z := fun z hz => by rw [f4 z hz, hs_ne (by omega)]
  have x3 := (f4 3 (by decide)).trans y3
  refine AW.putfieldF 48 dX7_init_45 rfl fl_X7_33 (by assumption) (Nat.le_of_ble_eq_true rfl) (fun _ => ⟨rfl, rfl⟩) rfl rfl ?_
  obtain ⟨g4, eg4⟩ : ∃ g, g = hs h4 3 (clsO 0 0 0) := ⟨_, rfl⟩
  refine AW.heap g4 eg4.symm ?_
  have y3 : g4 3 = clsO 0 0 0 := by rw [eg4, hs_eq]
  refine AW.aload_n 49 dX7_init_48 rfl (by rfl) ?_
  refine AW.iconst 50 dX7_init_49 rfl (nI 0) rfl ?_
  refine AW.putfield 53 dX7_init_50 rfl fl_X7_37 (by assumption) (Nat.le_of_ble_eq_true rfl) (fun _ => ⟨rfl, rfl⟩) ?_
  refine AW.heap g4 (by rw [eg4, hs_hs]; rfl) ?_
  refine AW.aload_n 54 dX7_init_53 rfl (by rfl) ?_
  refine AW.iconst 55 dX7_init_54 rfl (nI 0) rfl ?_
  refine AW.putfield 58 dX7_init_55 rfl fl_X7_41 (by assumption) (Nat.le_of_ble_eq_true rfl) (fun _ => ⟨rfl, rfl⟩) ?_
  refine AW.heap g4 (by rw [eg4, hs_hs]; rfl) ?_
  refine AW.aload_n 59 dX7_init_58 rfl (by rfl) ?_
  refine AW.iconst 60 dX7_init_59 rfl (nI 0) rfl ?_
  refine AW.putfield 63 dX7_init_60 rfl fl_X7_44 (by assumption) (Nat.le_of_ble_eq_true rfl) (fun _ => ⟨rfl, rfl⟩) ?_
  refine AW.heap g4 (by rw [eg4, hs_hs]; rfl) ?_
  have E4 : ∀ z, z ≠ 3 → g4 z = h4 z := fun z hz => by rw [eg4, hs_ne hz]
  have F : ∀ z, z < 3 → g4 z = h z := fun z hz => by rw [E4 z (by omega), f4 z (by omega), E3 z (by omega), f3 z (by omega), E2 z (by omega), f2 z (by omega), E1 z (by omega), F1 z hz]
  refine AW.vret dX7_init_63 rfl ?_
  refine hP g4 ⟨by rw [F 0 (by decide), x0], by rw [F 1 (by decide), x1], y3, B3.same2 (fun z z1 z2 => by rw [E4 z (by omega), f4 z (by omega)]), ⟨0, _, S3.same (fun z z1 z2 => by rw [E4 z (by omega), f4 z (by omega)]), fun j hj => absurd hj (Nat.not_lt_zero _)⟩, ⟨_, _, _, _, O3.same (fun z z1 z2 => by rw [E4 z (by omega), f4 z (by omega)])⟩, _, _, _, _, Q4.same2 (fun z z1 z2 => E4 z (by omega))⟩ F
theorem r_newModel {v0 v1 v2 v4 v5 v7 v10 v11 v12 v13 v14 v15 v16 v20 v21 : Value} (x196 : h 196 = .inr (8, [v0, v1, v2, .int 0, v4, v5, .int 0, v7, .int 0, .int 0, v10, v11, v12, v13, v14, v15, v16, .int 0, .int 0, .int 0, v20, v21, .long 0])) (hP : ∀ h', RfAt h' X00 → (∀ z, z < 196 → h' z = h z) → P none 212 h') : AM X8_init [.ref 196] 197 h P := by
  refine AM.of rfl (Nat.le_of_ble_eq_true rfl) ?_
  show AW X8_init 0 [some (.ref 196)] [] _ (15, 6295) _ _
  refine AW.aload_n 1 dX8_init_0 rfl (by rfl) ?_
  refine AW.objInit 4 dX8_init_1 rfl lk_X8_1 oi_inst oi_code (Nat.le_of_ble_eq_true rfl) (Nat.le_of_ble_eq_true rfl) ?_
  refine AW.aload_n 5 dX8_init_4 rfl (by rfl) ?_
  refine AW.bipush 7 dX8_init_5 rfl (nI 15) rfl ?_
  refine AW.newI (u := (14, 6280)) 15 9 dX8_init_7 rfl ac_I (ix_nI (by omega)) (Nat.le_of_ble_eq_true rfl) ?_
  obtain ⟨g1, eg1⟩ : ∃ g, g = hs h 197 (.inl (0, (15, .inl (fun _ => 0)))) := ⟨_, rfl⟩
  refine AW.heap g1 eg1.symm ?_
  have x196 : g1 196 = .inr (8, [v0, v1, v2, .int 0, v4, v5, .int 0, v7, .int 0, .int 0, v10, v11, v12, v13, v14, v15, v16, .int 0, .int 0, .int 0, v20, v21, .long 0]) := by rw [eg1, hs_ne (by decide)]; exact x196
  have x197 : g1 197 = .inl (0, (15, .inl (fun _ => 0))) := by rw [eg1, hs_eq]
  have fr : ∀ z, z < 196 → g1 z = h z := fun z hz => by rw [eg1, hs_ne (by omega)]
  refine AW.putfieldF 12 dX8_init_9 rfl fl_X8_7 (by assumption) (Nat.le_of_ble_eq_true rfl) (fun _ => ⟨rfl, rfl⟩) rfl rfl ?_
  obtain ⟨g2, eg2⟩ : ∃ g, g = hs g1 196 (.inr (8, [.ref 197, v1, v2, .int 0, v4, v5, .int 0, v7, .int 0, .int 0, v10, v11, v12, v13, v14, v15, v16, .int 0, .int 0, .int 0, v20, v21, .long 0])) := ⟨_, rfl⟩
  refine AW.heap g2 eg2.symm ?_
  have x197 : g2 197 = .inl (0, (15, .inl (fun _ => 0))) := by rw [eg2, hs_ne (by decide)]; exact x197
  have x196 : g2 196 = .inr (8, [.ref 197, v1, v2, .int 0, v4, v5, .int 0, v7, .int 0, .int 0, v10, v11, v12, v13, v14, v15, v16, .int 0, .int 0, .int 0, v20, v21, .long 0]) := by rw [eg2, hs_eq]
  have fr : ∀ z, z < 196 → g2 z = h z := fun z hz => by rw [eg2, hs_ne (by omega), fr z hz]
  refine AW.aload_n 13 dX8_init_12 rfl (by rfl) ?_
  refine AW.bipush 15 dX8_init_13 rfl (nI 15) rfl ?_
  refine AW.newI (u := (13, 6265)) 15 17 dX8_init_15 rfl ac_I (ix_nI (by omega)) (Nat.le_of_ble_eq_true rfl) ?_
  obtain ⟨g3, eg3⟩ : ∃ g, g = hs g2 198 (.inl (0, (15, .inl (fun _ => 0)))) := ⟨_, rfl⟩
  refine AW.heap g3 eg3.symm ?_
  have x196 : g3 196 = .inr (8, [.ref 197, v1, v2, .int 0, v4, v5, .int 0, v7, .int 0, .int 0, v10, v11, v12, v13, v14, v15, v16, .int 0, .int 0, .int 0, v20, v21, .long 0]) := by rw [eg3, hs_ne (by decide)]; exact x196
  have x197 : g3 197 = .inl (0, (15, .inl (fun _ => 0))) := by rw [eg3, hs_ne (by decide)]; exact x197
  have x198 : g3 198 = .inl (0, (15, .inl (fun _ => 0))) := by rw [eg3, hs_eq]
  have fr : ∀ z, z < 196 → g3 z = h z := fun z hz => by rw [eg3, hs_ne (by omega), fr z hz]
  refine AW.putfieldF 20 dX8_init_17 rfl fl_X8_13 (by assumption) (Nat.le_of_ble_eq_true rfl) (fun _ => ⟨rfl, rfl⟩) rfl rfl ?_
  obtain ⟨g4, eg4⟩ : ∃ g, g = hs g3 196 (.inr (8, [.ref 197, .ref 198, v2, .int 0, v4, v5, .int 0, v7, .int 0, .int 0, v10, v11, v12, v13, v14, v15, v16, .int 0, .int 0, .int 0, v20, v21, .long 0])) := ⟨_, rfl⟩
  refine AW.heap g4 eg4.symm ?_
  have x197 : g4 197 = .inl (0, (15, .inl (fun _ => 0))) := by rw [eg4, hs_ne (by decide)]; exact x197
  have x198 : g4 198 = .inl (0, (15, .inl (fun _ => 0))) := by rw [eg4, hs_ne (by decide)]; exact x198
  have x196 : g4 196 = .inr (8, [.ref 197, .ref 198, v2, .int 0, v4, v5, .int 0, v7, .int 0, .int 0, v10, v11, v12, v13, v14, v15, v16, .int 0, .int 0, .int 0, v20, v21, .long 0]) := by rw [eg4, hs_eq]
  have fr : ∀ z, z < 196 → g4 z = h z := fun z hz => by rw [eg4, hs_ne (by omega), fr z hz]
  refine AW.aload_n 21 dX8_init_20 rfl (by rfl) ?_
  refine AW.bipush 23 dX8_init_21 rfl (nI 75) rfl ?_
  refine AW.newI (u := (12, 6190)) 75 25 dX8_init_23 rfl ac_I (ix_nI (by omega)) (Nat.le_of_ble_eq_true rfl) ?_
  obtain ⟨g5, eg5⟩ : ∃ g, g = hs g4 199 (.inl (0, (75, .inl (fun _ => 0)))) := ⟨_, rfl⟩
  refine AW.heap g5 eg5.symm ?_
  have x196 : g5 196 = .inr (8, [.ref 197, .ref 198, v2, .int 0, v4, v5, .int 0, v7, .int 0, .int 0, v10, v11, v12, v13, v14, v15, v16, .int 0, .int 0, .int 0, v20, v21, .long 0]) := by rw [eg5, hs_ne (by decide)]; exact x196
  have x197 : g5 197 = .inl (0, (15, .inl (fun _ => 0))) := by rw [eg5, hs_ne (by decide)]; exact x197
  have x198 : g5 198 = .inl (0, (15, .inl (fun _ => 0))) := by rw [eg5, hs_ne (by decide)]; exact x198
  have x199 : g5 199 = .inl (0, (75, .inl (fun _ => 0))) := by rw [eg5, hs_eq]
  have fr : ∀ z, z < 196 → g5 z = h z := fun z hz => by rw [eg5, hs_ne (by omega), fr z hz]
  refine AW.putfieldF 28 dX8_init_25 rfl fl_X8_16 (by assumption) (Nat.le_of_ble_eq_true rfl) (fun _ => ⟨rfl, rfl⟩) rfl rfl ?_
  obtain ⟨g6, eg6⟩ : ∃ g, g = hs g5 196 (.inr (8, [.ref 197, .ref 198, .ref 199, .int 0, v4, v5, .int 0, v7, .int 0, .int 0, v10, v11, v12, v13, v14, v15, v16, .int 0, .int 0, .int 0, v20, v21, .long 0])) := ⟨_, rfl⟩
  refine AW.heap g6 eg6.symm ?_
  have x197 : g6 197 = .inl (0, (15, .inl (fun _ => 0))) := by rw [eg6, hs_ne (by decide)]; exact x197
  have x198 : g6 198 = .inl (0, (15, .inl (fun _ => 0))) := by rw [eg6, hs_ne (by decide)]; exact x198
  have x199 : g6 199 = .inl (0, (75, .inl (fun _ => 0))) := by rw [eg6, hs_ne (by decide)]; exact x199
  have x196 : g6 196 = .inr (8, [.ref 197, .ref 198, .ref 199, .int 0, v4, v5, .int 0, v7, .int 0, .int 0, v10, v11, v12, v13, v14, v15, v16, .int 0, .int 0, .int 0, v20, v21, .long 0]) := by rw [eg6, hs_eq]
  have fr : ∀ z, z < 196 → g6 z = h z := fun z hz => by rw [eg6, hs_ne (by omega), fr z hz]
  refine AW.aload_n 29 dX8_init_28 rfl (by rfl) ?_
  refine AW.iconst 30 dX8_init_29 rfl (nI 3) rfl ?_
  refine AW.newI (u := (11, 6187)) 3 32 dX8_init_30 rfl ac_I (ix_nI (by omega)) (Nat.le_of_ble_eq_true rfl) ?_
  obtain ⟨g7, eg7⟩ : ∃ g, g = hs g6 200 (.inl (0, (3, .inl (fun _ => 0)))) := ⟨_, rfl⟩
  refine AW.heap g7 eg7.symm ?_
  have x196 : g7 196 = .inr (8, [.ref 197, .ref 198, .ref 199, .int 0, v4, v5, .int 0, v7, .int 0, .int 0, v10, v11, v12, v13, v14, v15, v16, .int 0, .int 0, .int 0, v20, v21, .long 0]) := by rw [eg7, hs_ne (by decide)]; exact x196
  have x197 : g7 197 = .inl (0, (15, .inl (fun _ => 0))) := by rw [eg7, hs_ne (by decide)]; exact x197
  have x198 : g7 198 = .inl (0, (15, .inl (fun _ => 0))) := by rw [eg7, hs_ne (by decide)]; exact x198
  have x199 : g7 199 = .inl (0, (75, .inl (fun _ => 0))) := by rw [eg7, hs_ne (by decide)]; exact x199
  have x200 : g7 200 = .inl (0, (3, .inl (fun _ => 0))) := by rw [eg7, hs_eq]
  have fr : ∀ z, z < 196 → g7 z = h z := fun z hz => by rw [eg7, hs_ne (by omega), fr z hz]
  refine AW.putfieldF 35 dX8_init_32 rfl fl_X8_19 (by assumption) (Nat.le_of_ble_eq_true rfl) (fun _ => ⟨rfl, rfl⟩) rfl rfl ?_
  obtain ⟨g8, eg8⟩ : ∃ g, g = hs g7 196 (.inr (8, [.ref 197, .ref 198, .ref 199, .int 0, .ref 200, v5, .int 0, v7, .int 0, .int 0, v10, v11, v12, v13, v14, v15, v16, .int 0, .int 0, .int 0, v20, v21, .long 0])) := ⟨_, rfl⟩
  refine AW.heap g8 eg8.symm ?_
  have x197 : g8 197 = .inl (0, (15, .inl (fun _ => 0))) := by rw [eg8, hs_ne (by decide)]; exact x197
  have x198 : g8 198 = .inl (0, (15, .inl (fun _ => 0))) := by rw [eg8, hs_ne (by decide)]; exact x198
  have x199 : g8 199 = .inl (0, (75, .inl (fun _ => 0))) := by rw [eg8, hs_ne (by decide)]; exact x199
  have x200 : g8 200 = .inl (0, (3, .inl (fun _ => 0))) := by rw [eg8, hs_ne (by decide)]; exact x200
  have x196 : g8 196 = .inr (8, [.ref 197, .ref 198, .ref 199, .int 0, .ref 200, v5, .int 0, v7, .int 0, .int 0, v10, v11, v12, v13, v14, v15, v16, .int 0, .int 0, .int 0, v20, v21, .long 0]) := by rw [eg8, hs_eq]
  have fr : ∀ z, z < 196 → g8 z = h z := fun z hz => by rw [eg8, hs_ne (by omega), fr z hz]
  refine AW.aload_n 36 dX8_init_35 rfl (by rfl) ?_
  refine AW.bipush 38 dX8_init_36 rfl (nI 120) rfl ?_
  refine AW.newI (u := (10, 6067)) 120 40 dX8_init_38 rfl ac_I (ix_nI (by omega)) (Nat.le_of_ble_eq_true rfl) ?_
  obtain ⟨g9, eg9⟩ : ∃ g, g = hs g8 201 (.inl (0, (120, .inl (fun _ => 0)))) := ⟨_, rfl⟩
  refine AW.heap g9 eg9.symm ?_
  have x196 : g9 196 = .inr (8, [.ref 197, .ref 198, .ref 199, .int 0, .ref 200, v5, .int 0, v7, .int 0, .int 0, v10, v11, v12, v13, v14, v15, v16, .int 0, .int 0, .int 0, v20, v21, .long 0]) := by rw [eg9, hs_ne (by decide)]; exact x196
  have x197 : g9 197 = .inl (0, (15, .inl (fun _ => 0))) := by rw [eg9, hs_ne (by decide)]; exact x197
  have x198 : g9 198 = .inl (0, (15, .inl (fun _ => 0))) := by rw [eg9, hs_ne (by decide)]; exact x198
  have x199 : g9 199 = .inl (0, (75, .inl (fun _ => 0))) := by rw [eg9, hs_ne (by decide)]; exact x199
  have x200 : g9 200 = .inl (0, (3, .inl (fun _ => 0))) := by rw [eg9, hs_ne (by decide)]; exact x200
  have x201 : g9 201 = .inl (0, (120, .inl (fun _ => 0))) := by rw [eg9, hs_eq]
  have fr : ∀ z, z < 196 → g9 z = h z := fun z hz => by rw [eg9, hs_ne (by omega), fr z hz]
  refine AW.putfieldF 43 dX8_init_40 rfl fl_X8_22 (by assumption) (Nat.le_of_ble_eq_true rfl) (fun _ => ⟨rfl, rfl⟩) rfl rfl ?_
  obtain ⟨g10, eg10⟩ : ∃ g, g = hs g9 196 (.inr (8, [.ref 197, .ref 198, .ref 199, .int 0, .ref 200, .ref 201, .int 0, v7, .int 0, .int 0, v10, v11, v12, v13, v14, v15, v16, .int 0, .int 0, .int 0, v20, v21, .long 0])) := ⟨_, rfl⟩
  refine AW.heap g10 eg10.symm ?_
  have x197 : g10 197 = .inl (0, (15, .inl (fun _ => 0))) := by rw [eg10, hs_ne (by decide)]; exact x197
  have x198 : g10 198 = .inl (0, (15, .inl (fun _ => 0))) := by rw [eg10, hs_ne (by decide)]; exact x198
  have x199 : g10 199 = .inl (0, (75, .inl (fun _ => 0))) := by rw [eg10, hs_ne (by decide)]; exact x199
  have x200 : g10 200 = .inl (0, (3, .inl (fun _ => 0))) := by rw [eg10, hs_ne (by decide)]; exact x200
  have x201 : g10 201 = .inl (0, (120, .inl (fun _ => 0))) := by rw [eg10, hs_ne (by decide)]; exact x201
  have x196 : g10 196 = .inr (8, [.ref 197, .ref 198, .ref 199, .int 0, .ref 200, .ref 201, .int 0, v7, .int 0, .int 0, v10, v11, v12, v13, v14, v15, v16, .int 0, .int 0, .int 0, v20, v21, .long 0]) := by rw [eg10, hs_eq]
  have fr : ∀ z, z < 196 → g10 z = h z := fun z hz => by rw [eg10, hs_ne (by omega), fr z hz]
  refine AW.aload_n 44 dX8_init_43 rfl (by rfl) ?_
  refine AW.bipush 46 dX8_init_44 rfl (nI 8) rfl ?_
  refine AW.newI (u := (9, 6059)) 8 48 dX8_init_46 rfl ac_I (ix_nI (by omega)) (Nat.le_of_ble_eq_true rfl) ?_
  obtain ⟨g11, eg11⟩ : ∃ g, g = hs g10 202 (.inl (0, (8, .inl (fun _ => 0)))) := ⟨_, rfl⟩
  refine AW.heap g11 eg11.symm ?_
  have x196 : g11 196 = .inr (8, [.ref 197, .ref 198, .ref 199, .int 0, .ref 200, .ref 201, .int 0, v7, .int 0, .int 0, v10, v11, v12, v13, v14, v15, v16, .int 0, .int 0, .int 0, v20, v21, .long 0]) := by rw [eg11, hs_ne (by decide)]; exact x196
  have x197 : g11 197 = .inl (0, (15, .inl (fun _ => 0))) := by rw [eg11, hs_ne (by decide)]; exact x197
  have x198 : g11 198 = .inl (0, (15, .inl (fun _ => 0))) := by rw [eg11, hs_ne (by decide)]; exact x198
  have x199 : g11 199 = .inl (0, (75, .inl (fun _ => 0))) := by rw [eg11, hs_ne (by decide)]; exact x199
  have x200 : g11 200 = .inl (0, (3, .inl (fun _ => 0))) := by rw [eg11, hs_ne (by decide)]; exact x200
  have x201 : g11 201 = .inl (0, (120, .inl (fun _ => 0))) := by rw [eg11, hs_ne (by decide)]; exact x201
  have x202 : g11 202 = .inl (0, (8, .inl (fun _ => 0))) := by rw [eg11, hs_eq]
  have fr : ∀ z, z < 196 → g11 z = h z := fun z hz => by rw [eg11, hs_ne (by omega), fr z hz]
  refine AW.putfieldF 51 dX8_init_48 rfl fl_X8_25 (by assumption) (Nat.le_of_ble_eq_true rfl) (fun _ => ⟨rfl, rfl⟩) rfl rfl ?_
  obtain ⟨g12, eg12⟩ : ∃ g, g = hs g11 196 (.inr (8, [.ref 197, .ref 198, .ref 199, .int 0, .ref 200, .ref 201, .int 0, .ref 202, .int 0, .int 0, v10, v11, v12, v13, v14, v15, v16, .int 0, .int 0, .int 0, v20, v21, .long 0])) := ⟨_, rfl⟩
  refine AW.heap g12 eg12.symm ?_
  have x197 : g12 197 = .inl (0, (15, .inl (fun _ => 0))) := by rw [eg12, hs_ne (by decide)]; exact x197
  have x198 : g12 198 = .inl (0, (15, .inl (fun _ => 0))) := by rw [eg12, hs_ne (by decide)]; exact x198
  have x199 : g12 199 = .inl (0, (75, .inl (fun _ => 0))) := by rw [eg12, hs_ne (by decide)]; exact x199
  have x200 : g12 200 = .inl (0, (3, .inl (fun _ => 0))) := by rw [eg12, hs_ne (by decide)]; exact x200
  have x201 : g12 201 = .inl (0, (120, .inl (fun _ => 0))) := by rw [eg12, hs_ne (by decide)]; exact x201
  have x202 : g12 202 = .inl (0, (8, .inl (fun _ => 0))) := by rw [eg12, hs_ne (by decide)]; exact x202
  have x196 : g12 196 = .inr (8, [.ref 197, .ref 198, .ref 199, .int 0, .ref 200, .ref 201, .int 0, .ref 202, .int 0, .int 0, v10, v11, v12, v13, v14, v15, v16, .int 0, .int 0, .int 0, v20, v21, .long 0]) := by rw [eg12, hs_eq]
  have fr : ∀ z, z < 196 → g12 z = h z := fun z hz => by rw [eg12, hs_ne (by omega), fr z hz]
  refine AW.aload_n 52 dX8_init_51 rfl (by rfl) ?_
  refine AW.sipush 55 dX8_init_52 rfl (nI 1430) rfl ?_
  refine AW.newI (u := (8, 4629)) 1430 57 dX8_init_55 rfl ac_I (ix_nI (by omega)) (Nat.le_of_ble_eq_true rfl) ?_
  obtain ⟨g13, eg13⟩ : ∃ g, g = hs g12 203 (.inl (0, (1430, .inl (fun _ => 0)))) := ⟨_, rfl⟩
  refine AW.heap g13 eg13.symm ?_
  have x196 : g13 196 = .inr (8, [.ref 197, .ref 198, .ref 199, .int 0, .ref 200, .ref 201, .int 0, .ref 202, .int 0, .int 0, v10, v11, v12, v13, v14, v15, v16, .int 0, .int 0, .int 0, v20, v21, .long 0]) := by rw [eg13, hs_ne (by decide)]; exact x196
  have x197 : g13 197 = .inl (0, (15, .inl (fun _ => 0))) := by rw [eg13, hs_ne (by decide)]; exact x197
  have x198 : g13 198 = .inl (0, (15, .inl (fun _ => 0))) := by rw [eg13, hs_ne (by decide)]; exact x198
  have x199 : g13 199 = .inl (0, (75, .inl (fun _ => 0))) := by rw [eg13, hs_ne (by decide)]; exact x199
  have x200 : g13 200 = .inl (0, (3, .inl (fun _ => 0))) := by rw [eg13, hs_ne (by decide)]; exact x200
  have x201 : g13 201 = .inl (0, (120, .inl (fun _ => 0))) := by rw [eg13, hs_ne (by decide)]; exact x201
  have x202 : g13 202 = .inl (0, (8, .inl (fun _ => 0))) := by rw [eg13, hs_ne (by decide)]; exact x202
  have x203 : g13 203 = .inl (0, (1430, .inl (fun _ => 0))) := by rw [eg13, hs_eq]
  have fr : ∀ z, z < 196 → g13 z = h z := fun z hz => by rw [eg13, hs_ne (by omega), fr z hz]
  refine AW.putfieldF 60 dX8_init_57 rfl fl_X8_28 (by assumption) (Nat.le_of_ble_eq_true rfl) (fun _ => ⟨rfl, rfl⟩) rfl rfl ?_
  obtain ⟨g14, eg14⟩ : ∃ g, g = hs g13 196 (.inr (8, [.ref 197, .ref 198, .ref 199, .int 0, .ref 200, .ref 201, .int 0, .ref 202, .int 0, .int 0, .ref 203, v11, v12, v13, v14, v15, v16, .int 0, .int 0, .int 0, v20, v21, .long 0])) := ⟨_, rfl⟩
  refine AW.heap g14 eg14.symm ?_
  have x197 : g14 197 = .inl (0, (15, .inl (fun _ => 0))) := by rw [eg14, hs_ne (by decide)]; exact x197
  have x198 : g14 198 = .inl (0, (15, .inl (fun _ => 0))) := by rw [eg14, hs_ne (by decide)]; exact x198
  have x199 : g14 199 = .inl (0, (75, .inl (fun _ => 0))) := by rw [eg14, hs_ne (by decide)]; exact x199
  have x200 : g14 200 = .inl (0, (3, .inl (fun _ => 0))) := by rw [eg14, hs_ne (by decide)]; exact x200
  have x201 : g14 201 = .inl (0, (120, .inl (fun _ => 0))) := by rw [eg14, hs_ne (by decide)]; exact x201
  have x202 : g14 202 = .inl (0, (8, .inl (fun _ => 0))) := by rw [eg14, hs_ne (by decide)]; exact x202
  have x203 : g14 203 = .inl (0, (1430, .inl (fun _ => 0))) := by rw [eg14, hs_ne (by decide)]; exact x203
  have x196 : g14 196 = .inr (8, [.ref 197, .ref 198, .ref 199, .int 0, .ref 200, .ref 201, .int 0, .ref 202, .int 0, .int 0, .ref 203, v11, v12, v13, v14, v15, v16, .int 0, .int 0, .int 0, v20, v21, .long 0]) := by rw [eg14, hs_eq]
  have fr : ∀ z, z < 196 → g14 z = h z := fun z hz => by rw [eg14, hs_ne (by omega), fr z hz]
  refine AW.aload_n 61 dX8_init_60 rfl (by rfl) ?_
  refine AW.sipush 64 dX8_init_61 rfl (nI 1430) rfl ?_
  refine AW.newI (u := (7, 3199)) 1430 66 dX8_init_64 rfl ac_I (ix_nI (by omega)) (Nat.le_of_ble_eq_true rfl) ?_
  obtain ⟨g15, eg15⟩ : ∃ g, g = hs g14 204 (.inl (0, (1430, .inl (fun _ => 0)))) := ⟨_, rfl⟩
  refine AW.heap g15 eg15.symm ?_
  have x196 : g15 196 = .inr (8, [.ref 197, .ref 198, .ref 199, .int 0, .ref 200, .ref 201, .int 0, .ref 202, .int 0, .int 0, .ref 203, v11, v12, v13, v14, v15, v16, .int 0, .int 0, .int 0, v20, v21, .long 0]) := by rw [eg15, hs_ne (by decide)]; exact x196
  have x197 : g15 197 = .inl (0, (15, .inl (fun _ => 0))) := by rw [eg15, hs_ne (by decide)]; exact x197
  have x198 : g15 198 = .inl (0, (15, .inl (fun _ => 0))) := by rw [eg15, hs_ne (by decide)]; exact x198
  have x199 : g15 199 = .inl (0, (75, .inl (fun _ => 0))) := by rw [eg15, hs_ne (by decide)]; exact x199
  have x200 : g15 200 = .inl (0, (3, .inl (fun _ => 0))) := by rw [eg15, hs_ne (by decide)]; exact x200
  have x201 : g15 201 = .inl (0, (120, .inl (fun _ => 0))) := by rw [eg15, hs_ne (by decide)]; exact x201
  have x202 : g15 202 = .inl (0, (8, .inl (fun _ => 0))) := by rw [eg15, hs_ne (by decide)]; exact x202
  have x203 : g15 203 = .inl (0, (1430, .inl (fun _ => 0))) := by rw [eg15, hs_ne (by decide)]; exact x203
  have x204 : g15 204 = .inl (0, (1430, .inl (fun _ => 0))) := by rw [eg15, hs_eq]
  have fr : ∀ z, z < 196 → g15 z = h z := fun z hz => by rw [eg15, hs_ne (by omega), fr z hz]
  refine AW.putfieldF 69 dX8_init_66 rfl fl_X8_31 (by assumption) (Nat.le_of_ble_eq_true rfl) (fun _ => ⟨rfl, rfl⟩) rfl rfl ?_
  obtain ⟨g16, eg16⟩ : ∃ g, g = hs g15 196 (.inr (8, [.ref 197, .ref 198, .ref 199, .int 0, .ref 200, .ref 201, .int 0, .ref 202, .int 0, .int 0, .ref 203, .ref 204, v12, v13, v14, v15, v16, .int 0, .int 0, .int 0, v20, v21, .long 0])) := ⟨_, rfl⟩
  refine AW.heap g16 eg16.symm ?_
  have x197 : g16 197 = .inl (0, (15, .inl (fun _ => 0))) := by rw [eg16, hs_ne (by decide)]; exact x197
  have x198 : g16 198 = .inl (0, (15, .inl (fun _ => 0))) := by rw [eg16, hs_ne (by decide)]; exact x198
  have x199 : g16 199 = .inl (0, (75, .inl (fun _ => 0))) := by rw [eg16, hs_ne (by decide)]; exact x199
  have x200 : g16 200 = .inl (0, (3, .inl (fun _ => 0))) := by rw [eg16, hs_ne (by decide)]; exact x200
  have x201 : g16 201 = .inl (0, (120, .inl (fun _ => 0))) := by rw [eg16, hs_ne (by decide)]; exact x201
  have x202 : g16 202 = .inl (0, (8, .inl (fun _ => 0))) := by rw [eg16, hs_ne (by decide)]; exact x202
  have x203 : g16 203 = .inl (0, (1430, .inl (fun _ => 0))) := by rw [eg16, hs_ne (by decide)]; exact x203
  have x204 : g16 204 = .inl (0, (1430, .inl (fun _ => 0))) := by rw [eg16, hs_ne (by decide)]; exact x204
  have x196 : g16 196 = .inr (8, [.ref 197, .ref 198, .ref 199, .int 0, .ref 200, .ref 201, .int 0, .ref 202, .int 0, .int 0, .ref 203, .ref 204, v12, v13, v14, v15, v16, .int 0, .int 0, .int 0, v20, v21, .long 0]) := by rw [eg16, hs_eq]
  have fr : ∀ z, z < 196 → g16 z = h z := fun z hz => by rw [eg16, hs_ne (by omega), fr z hz]
  refine AW.aload_n 70 dX8_init_69 rfl (by rfl) ?_
  refine AW.sipush 73 dX8_init_70 rfl (nI 1430) rfl ?_
  refine AW.newI (u := (6, 1769)) 1430 75 dX8_init_73 rfl ac_I (ix_nI (by omega)) (Nat.le_of_ble_eq_true rfl) ?_
  obtain ⟨g17, eg17⟩ : ∃ g, g = hs g16 205 (.inl (0, (1430, .inl (fun _ => 0)))) := ⟨_, rfl⟩
  refine AW.heap g17 eg17.symm ?_
  have x196 : g17 196 = .inr (8, [.ref 197, .ref 198, .ref 199, .int 0, .ref 200, .ref 201, .int 0, .ref 202, .int 0, .int 0, .ref 203, .ref 204, v12, v13, v14, v15, v16, .int 0, .int 0, .int 0, v20, v21, .long 0]) := by rw [eg17, hs_ne (by decide)]; exact x196
  have x197 : g17 197 = .inl (0, (15, .inl (fun _ => 0))) := by rw [eg17, hs_ne (by decide)]; exact x197
  have x198 : g17 198 = .inl (0, (15, .inl (fun _ => 0))) := by rw [eg17, hs_ne (by decide)]; exact x198
  have x199 : g17 199 = .inl (0, (75, .inl (fun _ => 0))) := by rw [eg17, hs_ne (by decide)]; exact x199
  have x200 : g17 200 = .inl (0, (3, .inl (fun _ => 0))) := by rw [eg17, hs_ne (by decide)]; exact x200
  have x201 : g17 201 = .inl (0, (120, .inl (fun _ => 0))) := by rw [eg17, hs_ne (by decide)]; exact x201
  have x202 : g17 202 = .inl (0, (8, .inl (fun _ => 0))) := by rw [eg17, hs_ne (by decide)]; exact x202
  have x203 : g17 203 = .inl (0, (1430, .inl (fun _ => 0))) := by rw [eg17, hs_ne (by decide)]; exact x203
  have x204 : g17 204 = .inl (0, (1430, .inl (fun _ => 0))) := by rw [eg17, hs_ne (by decide)]; exact x204
  have x205 : g17 205 = .inl (0, (1430, .inl (fun _ => 0))) := by rw [eg17, hs_eq]
  have fr : ∀ z, z < 196 → g17 z = h z := fun z hz => by rw [eg17, hs_ne (by omega), fr z hz]
  refine AW.putfieldF 78 dX8_init_75 rfl fl_X8_34 (by assumption) (Nat.le_of_ble_eq_true rfl) (fun _ => ⟨rfl, rfl⟩) rfl rfl ?_
  obtain ⟨g18, eg18⟩ : ∃ g, g = hs g17 196 (.inr (8, [.ref 197, .ref 198, .ref 199, .int 0, .ref 200, .ref 201, .int 0, .ref 202, .int 0, .int 0, .ref 203, .ref 204, .ref 205, v13, v14, v15, v16, .int 0, .int 0, .int 0, v20, v21, .long 0])) := ⟨_, rfl⟩
  refine AW.heap g18 eg18.symm ?_
  have x197 : g18 197 = .inl (0, (15, .inl (fun _ => 0))) := by rw [eg18, hs_ne (by decide)]; exact x197
  have x198 : g18 198 = .inl (0, (15, .inl (fun _ => 0))) := by rw [eg18, hs_ne (by decide)]; exact x198
  have x199 : g18 199 = .inl (0, (75, .inl (fun _ => 0))) := by rw [eg18, hs_ne (by decide)]; exact x199
  have x200 : g18 200 = .inl (0, (3, .inl (fun _ => 0))) := by rw [eg18, hs_ne (by decide)]; exact x200
  have x201 : g18 201 = .inl (0, (120, .inl (fun _ => 0))) := by rw [eg18, hs_ne (by decide)]; exact x201
  have x202 : g18 202 = .inl (0, (8, .inl (fun _ => 0))) := by rw [eg18, hs_ne (by decide)]; exact x202
  have x203 : g18 203 = .inl (0, (1430, .inl (fun _ => 0))) := by rw [eg18, hs_ne (by decide)]; exact x203
  have x204 : g18 204 = .inl (0, (1430, .inl (fun _ => 0))) := by rw [eg18, hs_ne (by decide)]; exact x204
  have x205 : g18 205 = .inl (0, (1430, .inl (fun _ => 0))) := by rw [eg18, hs_ne (by decide)]; exact x205
  have x196 : g18 196 = .inr (8, [.ref 197, .ref 198, .ref 199, .int 0, .ref 200, .ref 201, .int 0, .ref 202, .int 0, .int 0, .ref 203, .ref 204, .ref 205, v13, v14, v15, v16, .int 0, .int 0, .int 0, v20, v21, .long 0]) := by rw [eg18, hs_eq]
  have fr : ∀ z, z < 196 → g18 z = h z := fun z hz => by rw [eg18, hs_ne (by omega), fr z hz]
  refine AW.aload_n 79 dX8_init_78 rfl (by rfl) ?_
  refine AW.sipush 82 dX8_init_79 rfl (nI 1430) rfl ?_
  refine AW.newI (u := (5, 339)) 1430 84 dX8_init_82 rfl ac_I (ix_nI (by omega)) (Nat.le_of_ble_eq_true rfl) ?_
  obtain ⟨g19, eg19⟩ : ∃ g, g = hs g18 206 (.inl (0, (1430, .inl (fun _ => 0)))) := ⟨_, rfl⟩
  refine AW.heap g19 eg19.symm ?_
  have x196 : g19 196 = .inr (8, [.ref 197, .ref 198, .ref 199, .int 0, .ref 200, .ref 201, .int 0, .ref 202, .int 0, .int 0, .ref 203, .ref 204, .ref 205, v13, v14, v15, v16, .int 0, .int 0, .int 0, v20, v21, .long 0]) := by rw [eg19, hs_ne (by decide)]; exact x196
  have x197 : g19 197 = .inl (0, (15, .inl (fun _ => 0))) := by rw [eg19, hs_ne (by decide)]; exact x197
  have x198 : g19 198 = .inl (0, (15, .inl (fun _ => 0))) := by rw [eg19, hs_ne (by decide)]; exact x198
  have x199 : g19 199 = .inl (0, (75, .inl (fun _ => 0))) := by rw [eg19, hs_ne (by decide)]; exact x199
  have x200 : g19 200 = .inl (0, (3, .inl (fun _ => 0))) := by rw [eg19, hs_ne (by decide)]; exact x200
  have x201 : g19 201 = .inl (0, (120, .inl (fun _ => 0))) := by rw [eg19, hs_ne (by decide)]; exact x201
  have x202 : g19 202 = .inl (0, (8, .inl (fun _ => 0))) := by rw [eg19, hs_ne (by decide)]; exact x202
  have x203 : g19 203 = .inl (0, (1430, .inl (fun _ => 0))) := by rw [eg19, hs_ne (by decide)]; exact x203
  have x204 : g19 204 = .inl (0, (1430, .inl (fun _ => 0))) := by rw [eg19, hs_ne (by decide)]; exact x204
  have x205 : g19 205 = .inl (0, (1430, .inl (fun _ => 0))) := by rw [eg19, hs_ne (by decide)]; exact x205
  have x206 : g19 206 = .inl (0, (1430, .inl (fun _ => 0))) := by rw [eg19, hs_eq]
  have fr : ∀ z, z < 196 → g19 z = h z := fun z hz => by rw [eg19, hs_ne (by omega), fr z hz]
  refine AW.putfieldF 87 dX8_init_84 rfl fl_X8_37 (by assumption) (Nat.le_of_ble_eq_true rfl) (fun _ => ⟨rfl, rfl⟩) rfl rfl ?_
  obtain ⟨g20, eg20⟩ : ∃ g, g = hs g19 196 (.inr (8, [.ref 197, .ref 198, .ref 199, .int 0, .ref 200, .ref 201, .int 0, .ref 202, .int 0, .int 0, .ref 203, .ref 204, .ref 205, .ref 206, v14, v15, v16, .int 0, .int 0, .int 0, v20, v21, .long 0])) := ⟨_, rfl⟩
  refine AW.heap g20 eg20.symm ?_
  have x197 : g20 197 = .inl (0, (15, .inl (fun _ => 0))) := by rw [eg20, hs_ne (by decide)]; exact x197
  have x198 : g20 198 = .inl (0, (15, .inl (fun _ => 0))) := by rw [eg20, hs_ne (by decide)]; exact x198
  have x199 : g20 199 = .inl (0, (75, .inl (fun _ => 0))) := by rw [eg20, hs_ne (by decide)]; exact x199
  have x200 : g20 200 = .inl (0, (3, .inl (fun _ => 0))) := by rw [eg20, hs_ne (by decide)]; exact x200
  have x201 : g20 201 = .inl (0, (120, .inl (fun _ => 0))) := by rw [eg20, hs_ne (by decide)]; exact x201
  have x202 : g20 202 = .inl (0, (8, .inl (fun _ => 0))) := by rw [eg20, hs_ne (by decide)]; exact x202
  have x203 : g20 203 = .inl (0, (1430, .inl (fun _ => 0))) := by rw [eg20, hs_ne (by decide)]; exact x203
  have x204 : g20 204 = .inl (0, (1430, .inl (fun _ => 0))) := by rw [eg20, hs_ne (by decide)]; exact x204
  have x205 : g20 205 = .inl (0, (1430, .inl (fun _ => 0))) := by rw [eg20, hs_ne (by decide)]; exact x205
  have x206 : g20 206 = .inl (0, (1430, .inl (fun _ => 0))) := by rw [eg20, hs_ne (by decide)]; exact x206
  have x196 : g20 196 = .inr (8, [.ref 197, .ref 198, .ref 199, .int 0, .ref 200, .ref 201, .int 0, .ref 202, .int 0, .int 0, .ref 203, .ref 204, .ref 205, .ref 206, v14, v15, v16, .int 0, .int 0, .int 0, v20, v21, .long 0]) := by rw [eg20, hs_eq]
  have fr : ∀ z, z < 196 → g20 z = h z := fun z hz => by rw [eg20, hs_ne (by omega), fr z hz]
  refine AW.aload_n 88 dX8_init_87 rfl (by rfl) ?_
  refine AW.bipush 90 dX8_init_88 rfl (nI 9) rfl ?_
  refine AW.newL (u := (4, 330)) 9 92 dX8_init_90 rfl ac_J (ix_nI (by omega)) (Nat.le_of_ble_eq_true rfl) ?_
  obtain ⟨g21, eg21⟩ : ∃ g, g = hs g20 207 (.inl (1, (9, .inr (.inl (fun _ => 0))))) := ⟨_, rfl⟩
  refine AW.heap g21 eg21.symm ?_
  have x196 : g21 196 = .inr (8, [.ref 197, .ref 198, .ref 199, .int 0, .ref 200, .ref 201, .int 0, .ref 202, .int 0, .int 0, .ref 203, .ref 204, .ref 205, .ref 206, v14, v15, v16, .int 0, .int 0, .int 0, v20, v21, .long 0]) := by rw [eg21, hs_ne (by decide)]; exact x196
  have x197 : g21 197 = .inl (0, (15, .inl (fun _ => 0))) := by rw [eg21, hs_ne (by decide)]; exact x197
  have x198 : g21 198 = .inl (0, (15, .inl (fun _ => 0))) := by rw [eg21, hs_ne (by decide)]; exact x198
  have x199 : g21 199 = .inl (0, (75, .inl (fun _ => 0))) := by rw [eg21, hs_ne (by decide)]; exact x199
  have x200 : g21 200 = .inl (0, (3, .inl (fun _ => 0))) := by rw [eg21, hs_ne (by decide)]; exact x200
  have x201 : g21 201 = .inl (0, (120, .inl (fun _ => 0))) := by rw [eg21, hs_ne (by decide)]; exact x201
  have x202 : g21 202 = .inl (0, (8, .inl (fun _ => 0))) := by rw [eg21, hs_ne (by decide)]; exact x202
  have x203 : g21 203 = .inl (0, (1430, .inl (fun _ => 0))) := by rw [eg21, hs_ne (by decide)]; exact x203
  have x204 : g21 204 = .inl (0, (1430, .inl (fun _ => 0))) := by rw [eg21, hs_ne (by decide)]; exact x204
  have x205 : g21 205 = .inl (0, (1430, .inl (fun _ => 0))) := by rw [eg21, hs_ne (by decide)]; exact x205
  have x206 : g21 206 = .inl (0, (1430, .inl (fun _ => 0))) := by rw [eg21, hs_ne (by decide)]; exact x206
  have x207 : g21 207 = .inl (1, (9, .inr (.inl (fun _ => 0)))) := by rw [eg21, hs_eq]
  have fr : ∀ z, z < 196 → g21 z = h z := fun z hz => by rw [eg21, hs_ne (by omega), fr z hz]
  refine AW.putfieldF 95 dX8_init_92 rfl fl_X8_40 (by assumption) (Nat.le_of_ble_eq_true rfl) (fun _ => ⟨rfl, rfl⟩) rfl rfl ?_
  obtain ⟨g22, eg22⟩ : ∃ g, g = hs g21 196 (.inr (8, [.ref 197, .ref 198, .ref 199, .int 0, .ref 200, .ref 201, .int 0, .ref 202, .int 0, .int 0, .ref 203, .ref 204, .ref 205, .ref 206, .ref 207, v15, v16, .int 0, .int 0, .int 0, v20, v21, .long 0])) := ⟨_, rfl⟩
  refine AW.heap g22 eg22.symm ?_
  have x197 : g22 197 = .inl (0, (15, .inl (fun _ => 0))) := by rw [eg22, hs_ne (by decide)]; exact x197
  have x198 : g22 198 = .inl (0, (15, .inl (fun _ => 0))) := by rw [eg22, hs_ne (by decide)]; exact x198
  have x199 : g22 199 = .inl (0, (75, .inl (fun _ => 0))) := by rw [eg22, hs_ne (by decide)]; exact x199
  have x200 : g22 200 = .inl (0, (3, .inl (fun _ => 0))) := by rw [eg22, hs_ne (by decide)]; exact x200
  have x201 : g22 201 = .inl (0, (120, .inl (fun _ => 0))) := by rw [eg22, hs_ne (by decide)]; exact x201
  have x202 : g22 202 = .inl (0, (8, .inl (fun _ => 0))) := by rw [eg22, hs_ne (by decide)]; exact x202
  have x203 : g22 203 = .inl (0, (1430, .inl (fun _ => 0))) := by rw [eg22, hs_ne (by decide)]; exact x203
  have x204 : g22 204 = .inl (0, (1430, .inl (fun _ => 0))) := by rw [eg22, hs_ne (by decide)]; exact x204
  have x205 : g22 205 = .inl (0, (1430, .inl (fun _ => 0))) := by rw [eg22, hs_ne (by decide)]; exact x205
  have x206 : g22 206 = .inl (0, (1430, .inl (fun _ => 0))) := by rw [eg22, hs_ne (by decide)]; exact x206
  have x207 : g22 207 = .inl (1, (9, .inr (.inl (fun _ => 0)))) := by rw [eg22, hs_ne (by decide)]; exact x207
  have x196 : g22 196 = .inr (8, [.ref 197, .ref 198, .ref 199, .int 0, .ref 200, .ref 201, .int 0, .ref 202, .int 0, .int 0, .ref 203, .ref 204, .ref 205, .ref 206, .ref 207, v15, v16, .int 0, .int 0, .int 0, v20, v21, .long 0]) := by rw [eg22, hs_eq]
  have fr : ∀ z, z < 196 → g22 z = h z := fun z hz => by rw [eg22, hs_ne (by omega), fr z hz]
  refine AW.aload_n 96 dX8_init_95 rfl (by rfl) ?_
  refine AW.bipush 98 dX8_init_96 rfl (nI 9) rfl ?_
  refine AW.newL (u := (3, 321)) 9 100 dX8_init_98 rfl ac_J (ix_nI (by omega)) (Nat.le_of_ble_eq_true rfl) ?_
  obtain ⟨g23, eg23⟩ : ∃ g, g = hs g22 208 (.inl (1, (9, .inr (.inl (fun _ => 0))))) := ⟨_, rfl⟩
  refine AW.heap g23 eg23.symm ?_
  have x196 : g23 196 = .inr (8, [.ref 197, .ref 198, .ref 199, .int 0, .ref 200, .ref 201, .int 0, .ref 202, .int 0, .int 0, .ref 203, .ref 204, .ref 205, .ref 206, .ref 207, v15, v16, .int 0, .int 0, .int 0, v20, v21, .long 0]) := by rw [eg23, hs_ne (by decide)]; exact x196
  have x197 : g23 197 = .inl (0, (15, .inl (fun _ => 0))) := by rw [eg23, hs_ne (by decide)]; exact x197
  have x198 : g23 198 = .inl (0, (15, .inl (fun _ => 0))) := by rw [eg23, hs_ne (by decide)]; exact x198
  have x199 : g23 199 = .inl (0, (75, .inl (fun _ => 0))) := by rw [eg23, hs_ne (by decide)]; exact x199
  have x200 : g23 200 = .inl (0, (3, .inl (fun _ => 0))) := by rw [eg23, hs_ne (by decide)]; exact x200
  have x201 : g23 201 = .inl (0, (120, .inl (fun _ => 0))) := by rw [eg23, hs_ne (by decide)]; exact x201
  have x202 : g23 202 = .inl (0, (8, .inl (fun _ => 0))) := by rw [eg23, hs_ne (by decide)]; exact x202
  have x203 : g23 203 = .inl (0, (1430, .inl (fun _ => 0))) := by rw [eg23, hs_ne (by decide)]; exact x203
  have x204 : g23 204 = .inl (0, (1430, .inl (fun _ => 0))) := by rw [eg23, hs_ne (by decide)]; exact x204
  have x205 : g23 205 = .inl (0, (1430, .inl (fun _ => 0))) := by rw [eg23, hs_ne (by decide)]; exact x205
  have x206 : g23 206 = .inl (0, (1430, .inl (fun _ => 0))) := by rw [eg23, hs_ne (by decide)]; exact x206
  have x207 : g23 207 = .inl (1, (9, .inr (.inl (fun _ => 0)))) := by rw [eg23, hs_ne (by decide)]; exact x207
  have x208 : g23 208 = .inl (1, (9, .inr (.inl (fun _ => 0)))) := by rw [eg23, hs_eq]
  have fr : ∀ z, z < 196 → g23 z = h z := fun z hz => by rw [eg23, hs_ne (by omega), fr z hz]
  refine AW.putfieldF 103 dX8_init_100 rfl fl_X8_44 (by assumption) (Nat.le_of_ble_eq_true rfl) (fun _ => ⟨rfl, rfl⟩) rfl rfl ?_
  obtain ⟨g24, eg24⟩ : ∃ g, g = hs g23 196 (.inr (8, [.ref 197, .ref 198, .ref 199, .int 0, .ref 200, .ref 201, .int 0, .ref 202, .int 0, .int 0, .ref 203, .ref 204, .ref 205, .ref 206, .ref 207, .ref 208, v16, .int 0, .int 0, .int 0, v20, v21, .long 0])) := ⟨_, rfl⟩
  refine AW.heap g24 eg24.symm ?_
  have x197 : g24 197 = .inl (0, (15, .inl (fun _ => 0))) := by rw [eg24, hs_ne (by decide)]; exact x197
  have x198 : g24 198 = .inl (0, (15, .inl (fun _ => 0))) := by rw [eg24, hs_ne (by decide)]; exact x198
  have x199 : g24 199 = .inl (0, (75, .inl (fun _ => 0))) := by rw [eg24, hs_ne (by decide)]; exact x199
  have x200 : g24 200 = .inl (0, (3, .inl (fun _ => 0))) := by rw [eg24, hs_ne (by decide)]; exact x200
  have x201 : g24 201 = .inl (0, (120, .inl (fun _ => 0))) := by rw [eg24, hs_ne (by decide)]; exact x201
  have x202 : g24 202 = .inl (0, (8, .inl (fun _ => 0))) := by rw [eg24, hs_ne (by decide)]; exact x202
  have x203 : g24 203 = .inl (0, (1430, .inl (fun _ => 0))) := by rw [eg24, hs_ne (by decide)]; exact x203
  have x204 : g24 204 = .inl (0, (1430, .inl (fun _ => 0))) := by rw [eg24, hs_ne (by decide)]; exact x204
  have x205 : g24 205 = .inl (0, (1430, .inl (fun _ => 0))) := by rw [eg24, hs_ne (by decide)]; exact x205
  have x206 : g24 206 = .inl (0, (1430, .inl (fun _ => 0))) := by rw [eg24, hs_ne (by decide)]; exact x206
  have x207 : g24 207 = .inl (1, (9, .inr (.inl (fun _ => 0)))) := by rw [eg24, hs_ne (by decide)]; exact x207
  have x208 : g24 208 = .inl (1, (9, .inr (.inl (fun _ => 0)))) := by rw [eg24, hs_ne (by decide)]; exact x208
  have x196 : g24 196 = .inr (8, [.ref 197, .ref 198, .ref 199, .int 0, .ref 200, .ref 201, .int 0, .ref 202, .int 0, .int 0, .ref 203, .ref 204, .ref 205, .ref 206, .ref 207, .ref 208, v16, .int 0, .int 0, .int 0, v20, v21, .long 0]) := by rw [eg24, hs_eq]
  have fr : ∀ z, z < 196 → g24 z = h z := fun z hz => by rw [eg24, hs_ne (by omega), fr z hz]
  refine AW.aload_n 104 dX8_init_103 rfl (by rfl) ?_
  refine AW.bipush 106 dX8_init_104 rfl (nI 81) rfl ?_
  refine AW.newL (u := (2, 240)) 81 108 dX8_init_106 rfl ac_J (ix_nI (by omega)) (Nat.le_of_ble_eq_true rfl) ?_
  obtain ⟨g25, eg25⟩ : ∃ g, g = hs g24 209 (.inl (1, (81, .inr (.inl (fun _ => 0))))) := ⟨_, rfl⟩
  refine AW.heap g25 eg25.symm ?_
  have x196 : g25 196 = .inr (8, [.ref 197, .ref 198, .ref 199, .int 0, .ref 200, .ref 201, .int 0, .ref 202, .int 0, .int 0, .ref 203, .ref 204, .ref 205, .ref 206, .ref 207, .ref 208, v16, .int 0, .int 0, .int 0, v20, v21, .long 0]) := by rw [eg25, hs_ne (by decide)]; exact x196
  have x197 : g25 197 = .inl (0, (15, .inl (fun _ => 0))) := by rw [eg25, hs_ne (by decide)]; exact x197
  have x198 : g25 198 = .inl (0, (15, .inl (fun _ => 0))) := by rw [eg25, hs_ne (by decide)]; exact x198
  have x199 : g25 199 = .inl (0, (75, .inl (fun _ => 0))) := by rw [eg25, hs_ne (by decide)]; exact x199
  have x200 : g25 200 = .inl (0, (3, .inl (fun _ => 0))) := by rw [eg25, hs_ne (by decide)]; exact x200
  have x201 : g25 201 = .inl (0, (120, .inl (fun _ => 0))) := by rw [eg25, hs_ne (by decide)]; exact x201
  have x202 : g25 202 = .inl (0, (8, .inl (fun _ => 0))) := by rw [eg25, hs_ne (by decide)]; exact x202
  have x203 : g25 203 = .inl (0, (1430, .inl (fun _ => 0))) := by rw [eg25, hs_ne (by decide)]; exact x203
  have x204 : g25 204 = .inl (0, (1430, .inl (fun _ => 0))) := by rw [eg25, hs_ne (by decide)]; exact x204
  have x205 : g25 205 = .inl (0, (1430, .inl (fun _ => 0))) := by rw [eg25, hs_ne (by decide)]; exact x205
  have x206 : g25 206 = .inl (0, (1430, .inl (fun _ => 0))) := by rw [eg25, hs_ne (by decide)]; exact x206
  have x207 : g25 207 = .inl (1, (9, .inr (.inl (fun _ => 0)))) := by rw [eg25, hs_ne (by decide)]; exact x207
  have x208 : g25 208 = .inl (1, (9, .inr (.inl (fun _ => 0)))) := by rw [eg25, hs_ne (by decide)]; exact x208
  have x209 : g25 209 = .inl (1, (81, .inr (.inl (fun _ => 0)))) := by rw [eg25, hs_eq]
  have fr : ∀ z, z < 196 → g25 z = h z := fun z hz => by rw [eg25, hs_ne (by omega), fr z hz]
  refine AW.putfieldF 111 dX8_init_108 rfl fl_X8_47 (by assumption) (Nat.le_of_ble_eq_true rfl) (fun _ => ⟨rfl, rfl⟩) rfl rfl ?_
  obtain ⟨g26, eg26⟩ : ∃ g, g = hs g25 196 (.inr (8, [.ref 197, .ref 198, .ref 199, .int 0, .ref 200, .ref 201, .int 0, .ref 202, .int 0, .int 0, .ref 203, .ref 204, .ref 205, .ref 206, .ref 207, .ref 208, .ref 209, .int 0, .int 0, .int 0, v20, v21, .long 0])) := ⟨_, rfl⟩
  refine AW.heap g26 eg26.symm ?_
  have x197 : g26 197 = .inl (0, (15, .inl (fun _ => 0))) := by rw [eg26, hs_ne (by decide)]; exact x197
  have x198 : g26 198 = .inl (0, (15, .inl (fun _ => 0))) := by rw [eg26, hs_ne (by decide)]; exact x198
  have x199 : g26 199 = .inl (0, (75, .inl (fun _ => 0))) := by rw [eg26, hs_ne (by decide)]; exact x199
  have x200 : g26 200 = .inl (0, (3, .inl (fun _ => 0))) := by rw [eg26, hs_ne (by decide)]; exact x200
  have x201 : g26 201 = .inl (0, (120, .inl (fun _ => 0))) := by rw [eg26, hs_ne (by decide)]; exact x201
  have x202 : g26 202 = .inl (0, (8, .inl (fun _ => 0))) := by rw [eg26, hs_ne (by decide)]; exact x202
  have x203 : g26 203 = .inl (0, (1430, .inl (fun _ => 0))) := by rw [eg26, hs_ne (by decide)]; exact x203
  have x204 : g26 204 = .inl (0, (1430, .inl (fun _ => 0))) := by rw [eg26, hs_ne (by decide)]; exact x204
  have x205 : g26 205 = .inl (0, (1430, .inl (fun _ => 0))) := by rw [eg26, hs_ne (by decide)]; exact x205
  have x206 : g26 206 = .inl (0, (1430, .inl (fun _ => 0))) := by rw [eg26, hs_ne (by decide)]; exact x206
  have x207 : g26 207 = .inl (1, (9, .inr (.inl (fun _ => 0)))) := by rw [eg26, hs_ne (by decide)]; exact x207
  have x208 : g26 208 = .inl (1, (9, .inr (.inl (fun _ => 0)))) := by rw [eg26, hs_ne (by decide)]; exact x208
  have x209 : g26 209 = .inl (1, (81, .inr (.inl (fun _ => 0)))) := by rw [eg26, hs_ne (by decide)]; exact x209
  have x196 : g26 196 = .inr (8, [.ref 197, .ref 198, .ref 199, .int 0, .ref 200, .ref 201, .int 0, .ref 202, .int 0, .int 0, .ref 203, .ref 204, .ref 205, .ref 206, .ref 207, .ref 208, .ref 209, .int 0, .int 0, .int 0, v20, v21, .long 0]) := by rw [eg26, hs_eq]
  have fr : ∀ z, z < 196 → g26 z = h z := fun z hz => by rw [eg26, hs_ne (by omega), fr z hz]
  refine AW.aload_n 112 dX8_init_111 rfl (by rfl) ?_
  refine AW.bipush 114 dX8_init_112 rfl (nI 60) rfl ?_
  refine AW.newI (u := (1, 180)) 60 116 dX8_init_114 rfl ac_I (ix_nI (by omega)) (Nat.le_of_ble_eq_true rfl) ?_
  obtain ⟨g27, eg27⟩ : ∃ g, g = hs g26 210 (.inl (0, (60, .inl (fun _ => 0)))) := ⟨_, rfl⟩
  refine AW.heap g27 eg27.symm ?_
  have x196 : g27 196 = .inr (8, [.ref 197, .ref 198, .ref 199, .int 0, .ref 200, .ref 201, .int 0, .ref 202, .int 0, .int 0, .ref 203, .ref 204, .ref 205, .ref 206, .ref 207, .ref 208, .ref 209, .int 0, .int 0, .int 0, v20, v21, .long 0]) := by rw [eg27, hs_ne (by decide)]; exact x196
  have x197 : g27 197 = .inl (0, (15, .inl (fun _ => 0))) := by rw [eg27, hs_ne (by decide)]; exact x197
  have x198 : g27 198 = .inl (0, (15, .inl (fun _ => 0))) := by rw [eg27, hs_ne (by decide)]; exact x198
  have x199 : g27 199 = .inl (0, (75, .inl (fun _ => 0))) := by rw [eg27, hs_ne (by decide)]; exact x199
  have x200 : g27 200 = .inl (0, (3, .inl (fun _ => 0))) := by rw [eg27, hs_ne (by decide)]; exact x200
  have x201 : g27 201 = .inl (0, (120, .inl (fun _ => 0))) := by rw [eg27, hs_ne (by decide)]; exact x201
  have x202 : g27 202 = .inl (0, (8, .inl (fun _ => 0))) := by rw [eg27, hs_ne (by decide)]; exact x202
  have x203 : g27 203 = .inl (0, (1430, .inl (fun _ => 0))) := by rw [eg27, hs_ne (by decide)]; exact x203
  have x204 : g27 204 = .inl (0, (1430, .inl (fun _ => 0))) := by rw [eg27, hs_ne (by decide)]; exact x204
  have x205 : g27 205 = .inl (0, (1430, .inl (fun _ => 0))) := by rw [eg27, hs_ne (by decide)]; exact x205
  have x206 : g27 206 = .inl (0, (1430, .inl (fun _ => 0))) := by rw [eg27, hs_ne (by decide)]; exact x206
  have x207 : g27 207 = .inl (1, (9, .inr (.inl (fun _ => 0)))) := by rw [eg27, hs_ne (by decide)]; exact x207
  have x208 : g27 208 = .inl (1, (9, .inr (.inl (fun _ => 0)))) := by rw [eg27, hs_ne (by decide)]; exact x208
  have x209 : g27 209 = .inl (1, (81, .inr (.inl (fun _ => 0)))) := by rw [eg27, hs_ne (by decide)]; exact x209
  have x210 : g27 210 = .inl (0, (60, .inl (fun _ => 0))) := by rw [eg27, hs_eq]
  have fr : ∀ z, z < 196 → g27 z = h z := fun z hz => by rw [eg27, hs_ne (by omega), fr z hz]
  refine AW.putfieldF 119 dX8_init_116 rfl fl_X8_50 (by assumption) (Nat.le_of_ble_eq_true rfl) (fun _ => ⟨rfl, rfl⟩) rfl rfl ?_
  obtain ⟨g28, eg28⟩ : ∃ g, g = hs g27 196 (.inr (8, [.ref 197, .ref 198, .ref 199, .int 0, .ref 200, .ref 201, .int 0, .ref 202, .int 0, .int 0, .ref 203, .ref 204, .ref 205, .ref 206, .ref 207, .ref 208, .ref 209, .int 0, .int 0, .int 0, .ref 210, v21, .long 0])) := ⟨_, rfl⟩
  refine AW.heap g28 eg28.symm ?_
  have x197 : g28 197 = .inl (0, (15, .inl (fun _ => 0))) := by rw [eg28, hs_ne (by decide)]; exact x197
  have x198 : g28 198 = .inl (0, (15, .inl (fun _ => 0))) := by rw [eg28, hs_ne (by decide)]; exact x198
  have x199 : g28 199 = .inl (0, (75, .inl (fun _ => 0))) := by rw [eg28, hs_ne (by decide)]; exact x199
  have x200 : g28 200 = .inl (0, (3, .inl (fun _ => 0))) := by rw [eg28, hs_ne (by decide)]; exact x200
  have x201 : g28 201 = .inl (0, (120, .inl (fun _ => 0))) := by rw [eg28, hs_ne (by decide)]; exact x201
  have x202 : g28 202 = .inl (0, (8, .inl (fun _ => 0))) := by rw [eg28, hs_ne (by decide)]; exact x202
  have x203 : g28 203 = .inl (0, (1430, .inl (fun _ => 0))) := by rw [eg28, hs_ne (by decide)]; exact x203
  have x204 : g28 204 = .inl (0, (1430, .inl (fun _ => 0))) := by rw [eg28, hs_ne (by decide)]; exact x204
  have x205 : g28 205 = .inl (0, (1430, .inl (fun _ => 0))) := by rw [eg28, hs_ne (by decide)]; exact x205
  have x206 : g28 206 = .inl (0, (1430, .inl (fun _ => 0))) := by rw [eg28, hs_ne (by decide)]; exact x206
  have x207 : g28 207 = .inl (1, (9, .inr (.inl (fun _ => 0)))) := by rw [eg28, hs_ne (by decide)]; exact x207
  have x208 : g28 208 = .inl (1, (9, .inr (.inl (fun _ => 0)))) := by rw [eg28, hs_ne (by decide)]; exact x208
  have x209 : g28 209 = .inl (1, (81, .inr (.inl (fun _ => 0)))) := by rw [eg28, hs_ne (by decide)]; exact x209
  have x210 : g28 210 = .inl (0, (60, .inl (fun _ => 0))) := by rw [eg28, hs_ne (by decide)]; exact x210
  have x196 : g28 196 = .inr (8, [.ref 197, .ref 198, .ref 199, .int 0, .ref 200, .ref 201, .int 0, .ref 202, .int 0, .int 0, .ref 203, .ref 204, .ref 205, .ref 206, .ref 207, .ref 208, .ref 209, .int 0, .int 0, .int 0, .ref 210, v21, .long 0]) := by rw [eg28, hs_eq]
  have fr : ∀ z, z < 196 → g28 z = h z := fun z hz => by rw [eg28, hs_ne (by omega), fr z hz]
  refine AW.aload_n 120 dX8_init_119 rfl (by rfl) ?_
  refine AW.sipush 123 dX8_init_120 rfl (nI 180) rfl ?_
  refine AW.newI (u := (0, 0)) 180 125 dX8_init_123 rfl ac_I (ix_nI (by omega)) (Nat.le_of_ble_eq_true rfl) ?_
  obtain ⟨g29, eg29⟩ : ∃ g, g = hs g28 211 (.inl (0, (180, .inl (fun _ => 0)))) := ⟨_, rfl⟩
  refine AW.heap g29 eg29.symm ?_
  have x196 : g29 196 = .inr (8, [.ref 197, .ref 198, .ref 199, .int 0, .ref 200, .ref 201, .int 0, .ref 202, .int 0, .int 0, .ref 203, .ref 204, .ref 205, .ref 206, .ref 207, .ref 208, .ref 209, .int 0, .int 0, .int 0, .ref 210, v21, .long 0]) := by rw [eg29, hs_ne (by decide)]; exact x196
  have x197 : g29 197 = .inl (0, (15, .inl (fun _ => 0))) := by rw [eg29, hs_ne (by decide)]; exact x197
  have x198 : g29 198 = .inl (0, (15, .inl (fun _ => 0))) := by rw [eg29, hs_ne (by decide)]; exact x198
  have x199 : g29 199 = .inl (0, (75, .inl (fun _ => 0))) := by rw [eg29, hs_ne (by decide)]; exact x199
  have x200 : g29 200 = .inl (0, (3, .inl (fun _ => 0))) := by rw [eg29, hs_ne (by decide)]; exact x200
  have x201 : g29 201 = .inl (0, (120, .inl (fun _ => 0))) := by rw [eg29, hs_ne (by decide)]; exact x201
  have x202 : g29 202 = .inl (0, (8, .inl (fun _ => 0))) := by rw [eg29, hs_ne (by decide)]; exact x202
  have x203 : g29 203 = .inl (0, (1430, .inl (fun _ => 0))) := by rw [eg29, hs_ne (by decide)]; exact x203
  have x204 : g29 204 = .inl (0, (1430, .inl (fun _ => 0))) := by rw [eg29, hs_ne (by decide)]; exact x204
  have x205 : g29 205 = .inl (0, (1430, .inl (fun _ => 0))) := by rw [eg29, hs_ne (by decide)]; exact x205
  have x206 : g29 206 = .inl (0, (1430, .inl (fun _ => 0))) := by rw [eg29, hs_ne (by decide)]; exact x206
  have x207 : g29 207 = .inl (1, (9, .inr (.inl (fun _ => 0)))) := by rw [eg29, hs_ne (by decide)]; exact x207
  have x208 : g29 208 = .inl (1, (9, .inr (.inl (fun _ => 0)))) := by rw [eg29, hs_ne (by decide)]; exact x208
  have x209 : g29 209 = .inl (1, (81, .inr (.inl (fun _ => 0)))) := by rw [eg29, hs_ne (by decide)]; exact x209
  have x210 : g29 210 = .inl (0, (60, .inl (fun _ => 0))) := by rw [eg29, hs_ne (by decide)]; exact x210
  have x211 : g29 211 = .inl (0, (180, .inl (fun _ => 0))) := by rw [eg29, hs_eq]
  have fr : ∀ z, z < 196 → g29 z = h z := fun z hz => by rw [eg29, hs_ne (by omega), fr z hz]
  refine AW.putfieldF 128 dX8_init_125 rfl fl_X8_53 (by assumption) (Nat.le_of_ble_eq_true rfl) (fun _ => ⟨rfl, rfl⟩) rfl rfl ?_
  obtain ⟨g30, eg30⟩ : ∃ g, g = hs g29 196 (.inr (8, [.ref 197, .ref 198, .ref 199, .int 0, .ref 200, .ref 201, .int 0, .ref 202, .int 0, .int 0, .ref 203, .ref 204, .ref 205, .ref 206, .ref 207, .ref 208, .ref 209, .int 0, .int 0, .int 0, .ref 210, .ref 211, .long 0])) := ⟨_, rfl⟩
  refine AW.heap g30 eg30.symm ?_
  have x197 : g30 197 = .inl (0, (15, .inl (fun _ => 0))) := by rw [eg30, hs_ne (by decide)]; exact x197
  have x198 : g30 198 = .inl (0, (15, .inl (fun _ => 0))) := by rw [eg30, hs_ne (by decide)]; exact x198
  have x199 : g30 199 = .inl (0, (75, .inl (fun _ => 0))) := by rw [eg30, hs_ne (by decide)]; exact x199
  have x200 : g30 200 = .inl (0, (3, .inl (fun _ => 0))) := by rw [eg30, hs_ne (by decide)]; exact x200
  have x201 : g30 201 = .inl (0, (120, .inl (fun _ => 0))) := by rw [eg30, hs_ne (by decide)]; exact x201
  have x202 : g30 202 = .inl (0, (8, .inl (fun _ => 0))) := by rw [eg30, hs_ne (by decide)]; exact x202
  have x203 : g30 203 = .inl (0, (1430, .inl (fun _ => 0))) := by rw [eg30, hs_ne (by decide)]; exact x203
  have x204 : g30 204 = .inl (0, (1430, .inl (fun _ => 0))) := by rw [eg30, hs_ne (by decide)]; exact x204
  have x205 : g30 205 = .inl (0, (1430, .inl (fun _ => 0))) := by rw [eg30, hs_ne (by decide)]; exact x205
  have x206 : g30 206 = .inl (0, (1430, .inl (fun _ => 0))) := by rw [eg30, hs_ne (by decide)]; exact x206
  have x207 : g30 207 = .inl (1, (9, .inr (.inl (fun _ => 0)))) := by rw [eg30, hs_ne (by decide)]; exact x207
  have x208 : g30 208 = .inl (1, (9, .inr (.inl (fun _ => 0)))) := by rw [eg30, hs_ne (by decide)]; exact x208
  have x209 : g30 209 = .inl (1, (81, .inr (.inl (fun _ => 0)))) := by rw [eg30, hs_ne (by decide)]; exact x209
  have x210 : g30 210 = .inl (0, (60, .inl (fun _ => 0))) := by rw [eg30, hs_ne (by decide)]; exact x210
  have x211 : g30 211 = .inl (0, (180, .inl (fun _ => 0))) := by rw [eg30, hs_ne (by decide)]; exact x211
  have x196 : g30 196 = .inr (8, [.ref 197, .ref 198, .ref 199, .int 0, .ref 200, .ref 201, .int 0, .ref 202, .int 0, .int 0, .ref 203, .ref 204, .ref 205, .ref 206, .ref 207, .ref 208, .ref 209, .int 0, .int 0, .int 0, .ref 210, .ref 211, .long 0]) := by rw [eg30, hs_eq]
  have fr : ∀ z, z < 196 → g30 z = h z := fun z hz => by rw [eg30, hs_ne (by omega), fr z hz]
  have K196 : g30 196 = modO (nI 0) (nI 0) (nI 0) 0 0 0 0 0 := x196
  refine AW.aload_n 129 dX8_init_128 rfl (by rfl) ?_
  refine AW.iconst 130 dX8_init_129 rfl (nI 4) rfl ?_
  refine AW.cV1 133 dX8_init_130 rfl mi_X8_begin mv_X8_begin lk_X8_56 ⟨(Nat.le_of_ble_eq_true rfl), (Nat.le_of_ble_eq_true rfl)⟩ rfl K196 rfl (Nat.le_of_ble_eq_true rfl) (r_begin K196 x197 (by decide) ?_)
  refine AW.vret dX8_init_133 rfl ?_
  have en : bgF 4 (fun _ => 0) = nowF st0 := by
    funext i
    unfold bgF nowF
    by_cases e0 : i = 0
    · rw [if_pos e0, if_pos e0]; rfl
    · rw [if_neg e0, if_neg e0]
      by_cases e7 : i < 7
      · rw [if_pos e7, if_pos e7]; rfl
      · rw [if_neg e7, if_neg e7]
        by_cases e15 : i < 15
        · rw [if_pos e15]; rfl
        · rw [if_neg e15]; rfl
  rw [en]
  have er : (fun i => nI (refA (0, 0, 0) i)) = (fun _ => 0) := by
    funext i
    unfold refA
    by_cases e0 : i = 0
    · rw [if_pos e0]; rfl
    · rw [if_neg e0]
      by_cases e1 : i = 1
      · rw [if_pos e1]; rfl
      · rw [if_neg e1]
        by_cases e2 : i = 2
        · rw [if_pos e2]; rfl
        · rw [if_neg e2]; rfl
  refine hP _ ⟨⟨nI 0, 0, 0, 0, 0, 0, by rw [hs_ne (by decide), K196]; rfl, Or.inl ⟨rfl, ⟨_, by rw [hs_ne (by decide), x203]⟩, ⟨_, by rw [hs_ne (by decide), x204]⟩⟩⟩, hs_eq _ _ _, ⟨by decide, fun j hj => absurd hj (Nat.not_lt_zero _), _, by rw [hs_ne (by decide), x199], fun j hj => absurd hj (Nat.not_lt_zero _)⟩, ?_, by rw [hs_ne (by decide), x201]; rfl, ⟨by decide, fun _ => (by decide : (0 : Nat) < 128)⟩, ⟨fun _ => 0, by rw [hs_ne (by decide), x202]; rfl, fun i _ => (by decide : (0 : Nat) < 64)⟩, ⟨⟨_, by rw [hs_ne (by decide), x198]⟩, ⟨_, by rw [hs_ne (by decide), x205]⟩, ⟨_, by rw [hs_ne (by decide), x206]⟩, ⟨_, by rw [hs_ne (by decide), x207]⟩, ⟨_, by rw [hs_ne (by decide), x208]⟩, ⟨_, by rw [hs_ne (by decide), x209]⟩, ⟨_, by rw [hs_ne (by decide), x210]⟩, ⟨_, by rw [hs_ne (by decide), x211]⟩⟩, ⟨by decide, by decide, fun s _ => ?_⟩⟩ (fun z hz => by rw [hs_ne (by omega), fr z hz])
  · show _ = (.inl (0, (3, .inl (fun i => nI (refA (0, 0, 0) i)))) : aE)
    rw [er, hs_ne (by decide), x200]
  · show WfC 4 (idC 4)
    exact ⟨by decide, by decide⟩
end CTOR3
