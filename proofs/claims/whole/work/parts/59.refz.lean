/-! THE MODEL, thirty-sixth part: digest -/
def dgSM (σ : aS) (s : Nat) (h : Int64) : Int64 := fldL (fun x => (nI (rw8 (σ.2.1 s) x)).toInt64) σ.1 (fldL (fun w => (nI (propM σ.1 (σ.2.1 s) w)).toInt64) 6 h)
def dgTM (σ : aS) : Nat → Int64 → Int64
  | 0, h => h
  | s + 1, h => dgSM σ s (dgTM σ s h)
def digMD (X : aX) (d : Int64) : Int64 := dgK X.1.2.2 2 0 (dgK X.1.2.2 1 0 (dgK X.1.2.2 0 2 (dgK X.1.2.2 0 1 (fldL (fun i => (X.1.2.2 i).toInt64) 8 (dgTM X.1 6 (fldL (fun w => (nI (amtM X.1.1 w)).toInt64) 10 (fldL (fun w => (tldF X w).toInt64) 5 d)))))))
def DgAt (h : aH) (X : aX) (d : Int64) : Prop := RfAt h X ∧ ∃ ps ty la ma at_ fa od, h 196 = modO ps ty la ma at_ fa od d
section REFZ
variable {N n : Nat} {h : aH} {P : aP} {X : aX} {d : Int64}
theorem DgAt.m {h' : aH} (K : DgAt h X d) (K' : RfAt h' X) (F : FrM h h') : DgAt h' X d := by
  obtain ⟨-, _, _, _, _, _, _, _, x196⟩ := K
  obtain ⟨_, _, _, _, y⟩ := F.2 _ _ _ _ ⟨_, _, _, _, x196⟩
  exact ⟨K', _, _, _, _, _, _, _, y⟩
theorem DgAt.set {ps ty la ma at_ fa od : Int32} {d0 : Int64} (K : RfAt h X) (x196 : h 196 = modO ps ty la ma at_ fa od d0) : DgAt (hs h 196 (modO ps ty la ma at_ fa od d)) X d := by
  obtain ⟨-, -, -, -, -, -, ⟨f1, x210⟩, ⟨f2, x211⟩⟩ := K.2.2.2.2.2.2.2.1
  exact ⟨K.prs x196 (hs_eq _ _ _) (fun z a b c => hs_ne a) ⟨f1, by rw [hs_ne (by decide), x210]⟩ ⟨f2, by rw [hs_ne (by decide), x211]⟩, _, _, _, _, _, _, _, hs_eq _ _ _⟩
theorem r_mix {v : Int64} (K : DgAt h X d) (hP : ∀ h', DgAt h' X (31 * d + v) → FrR h h' → P none N h') : AM X8_mix [.ref 196, .long v] N h P := by
  obtain ⟨K0, ps, ty, la, ma, at_, fa, od, x196⟩ := K
  refine AM.of0 rfl (Nat.le_of_ble_eq_true rfl) rfl [some (.ref 196), some (.long v), none] rfl ?_
  refine AW.aload_n 1 dX8_mix_0 rfl (by rfl) ?_
  refine AW.ldc2 4 dX8_mix_1 rfl kl_X8_260 ?_
  refine AW.aload_n 5 dX8_mix_4 rfl (by rfl) ?_
  refine AW.getfield 8 dX8_mix_5 rfl fl_X8_262 (by assumption) (by rfl) ?_
  refine AW.lmul 9 dX8_mix_8 rfl ?_
  refine AW.lload_n 10 dX8_mix_9 rfl (by rfl) ?_
  refine AW.ladd 11 dX8_mix_10 rfl ?_
  refine AW.putfield 14 dX8_mix_11 rfl fl_X8_262 (by assumption) (Nat.le_of_ble_eq_true rfl) (fun _ => ⟨rfl, rfl⟩) ?_
  refine AW.heap (hs h 196 (modO ps ty la ma at_ fa od (31 * d + v))) rfl ?_
  refine AW.vret dX8_mix_14 rfl ?_
  exact hP _ (DgAt.set K0 x196) (fun z hz => hs_ne (by omega))
theorem dg_1 {d0 : Int64} (next : ∀ h1 v1, DgAt h1 X (fldL (fun w => (tldF X w).toInt64) 5 d0) → FrR h h1 → AW X8_digest 30 [some (.ref 196), v1, none] [] N (0, 0) h1 P) : ∀ l w, w + l = 5 → ∀ h1, DgAt h1 X (fldL (fun w => (tldF X w).toInt64) w d0) → FrR h h1 → AW X8_digest 9 [some (.ref 196), some (.int (nI w)), none] [] N (0, 0) h1 P := by
  intro l
  induction l with
  | zero =>
    intro w hw h1 K F
    refine AW.iload_n 10 dX8_digest_9 rfl (by rfl) ?_
    refine AW.iconst 11 dX8_digest_10 rfl (nI 5) rfl ?_
    refine AW.nge 30 14 dX8_digest_11 (by decide) rfl (by omega) (by omega) (fun c => ?_) (fun c => ?_)
    · obtain rfl : w = 5 := by omega
      exact next h1 _ K F
    · omega
  | succ l ih =>
    intro w hw h1 K F
    obtain ⟨_, _, _, _, _, _, _, x196⟩ := id K.2
    refine AW.iload_n 10 dX8_digest_9 rfl (by rfl) ?_
    refine AW.iconst 11 dX8_digest_10 rfl (nI 5) rfl ?_
    refine AW.nge 30 14 dX8_digest_11 (by decide) rfl (by omega) (by omega) (fun c => ?_) (fun c => ?_)
    · omega
    · refine AW.aload_n 15 dX8_digest_14 rfl (by rfl) ?_
      refine AW.aload_n 16 dX8_digest_15 rfl (by rfl) ?_
      refine AW.iload_n 17 dX8_digest_16 rfl (by rfl) ?_
      refine AW.cV1 20 dX8_digest_17 rfl mi_X8_toldOf mv_X8_toldOf lk_X8_257 ⟨(Nat.le_of_ble_eq_true rfl), (Nat.le_of_ble_eq_true rfl)⟩ rfl (by assumption) rfl (Nat.le_of_ble_eq_true rfl) (r_toldOf K.1 c ?_)
      refine AW.i2l 21 dX8_digest_20 rfl ?_
      refine AW.cV1 24 dX8_digest_21 rfl mi_X8_mix mv_X8_mix lk_X8_268 ⟨(Nat.le_of_ble_eq_true rfl), (Nat.le_of_ble_eq_true rfl)⟩ rfl (by assumption) rfl (Nat.le_of_ble_eq_true rfl) (r_mix K ?_)
      intro h2 K2 F2
      refine AW.iinc1 27 dX8_digest_24 rfl (by rfl) rfl ?_
      refine AW.goto 9 dX8_digest_27 (by decide) ?_
      exact ih (w + 1) (by omega) h2 K2 (FrR.trans F F2)
theorem dg_2 {d0 : Int64} (next : ∀ h1 v1, DgAt h1 X (fldL (fun w => (nI (amtM X.1.1 w)).toInt64) 10 d0) → FrR h h1 → AW X8_digest 54 [some (.ref 196), v1, none] [] N (0, 0) h1 P) : ∀ l w, w + l = 10 → ∀ h1, DgAt h1 X (fldL (fun w => (nI (amtM X.1.1 w)).toInt64) w d0) → FrR h h1 → AW X8_digest 32 [some (.ref 196), some (.int (nI w)), none] [] N (0, 0) h1 P := by
  intro l
  induction l with
  | zero =>
    intro w hw h1 K F
    refine AW.iload_n 33 dX8_digest_32 rfl (by rfl) ?_
    refine AW.bipush 35 dX8_digest_33 rfl (nI 10) rfl ?_
    refine AW.nge 54 38 dX8_digest_35 (by decide) rfl (by omega) (by omega) (fun c => ?_) (fun c => ?_)
    · obtain rfl : w = 10 := by omega
      exact next h1 _ K F
    · omega
  | succ l ih =>
    intro w hw h1 K F
    obtain ⟨_, _, _, _, _, _, _, x196⟩ := id K.2
    refine AW.iload_n 33 dX8_digest_32 rfl (by rfl) ?_
    refine AW.bipush 35 dX8_digest_33 rfl (nI 10) rfl ?_
    refine AW.nge 54 38 dX8_digest_35 (by decide) rfl (by omega) (by omega) (fun c => ?_) (fun c => ?_)
    · omega
    · refine AW.aload_n 39 dX8_digest_38 rfl (by rfl) ?_
      refine AW.aload_n 40 dX8_digest_39 rfl (by rfl) ?_
      refine AW.iload_n 41 dX8_digest_40 rfl (by rfl) ?_
      refine AW.cV1 44 dX8_digest_41 rfl mi_X8_counted mv_X8_counted lk_X8_185 ⟨(Nat.le_of_ble_eq_true rfl), (Nat.le_of_ble_eq_true rfl)⟩ rfl (by assumption) rfl (Nat.le_of_ble_eq_true rfl) (r_counted K.1 c ?_)
      intro h2 K2 F2
      have K2 := K.m K2 F2
      obtain ⟨_, _, _, _, _, _, _, x196⟩ := id K2.2
      refine AW.i2l 45 dX8_digest_44 rfl ?_
      refine AW.cV1 48 dX8_digest_45 rfl mi_X8_mix mv_X8_mix lk_X8_268 ⟨(Nat.le_of_ble_eq_true rfl), (Nat.le_of_ble_eq_true rfl)⟩ rfl (by assumption) rfl (Nat.le_of_ble_eq_true rfl) (r_mix K2 ?_)
      intro h3 K3 F3
      refine AW.iinc1 51 dX8_digest_48 rfl (by rfl) rfl ?_
      refine AW.goto 32 dX8_digest_51 (by decide) ?_
      exact ih (w + 1) (by omega) h3 K3 (FrR.trans (FrR.trans F F2.c) F3)
theorem dg_3a {s : Nat} {d0 : Int64} (hs6 : s < 6) (next : ∀ h1 v2, DgAt h1 X (fldL (fun w => (nI (propM X.1.1 (X.1.2.1 s) w)).toInt64) 6 d0) → FrR h h1 → AW X8_digest 94 [some (.ref 196), some (.int (nI s)), v2] [] N (0, 0) h1 P) : ∀ l w, w + l = 6 → ∀ h1, DgAt h1 X (fldL (fun w => (nI (propM X.1.1 (X.1.2.1 s) w)).toInt64) w d0) → FrR h h1 → AW X8_digest 64 [some (.ref 196), some (.int (nI s)), some (.int (nI w))] [] N (0, 0) h1 P := by
  intro l
  induction l with
  | zero =>
    intro w hw h1 K F
    refine AW.iload_n 65 dX8_digest_64 rfl (by rfl) ?_
    refine AW.bipush 67 dX8_digest_65 rfl (nI 6) rfl ?_
    refine AW.nge 94 70 dX8_digest_67 (by decide) rfl (by omega) (by omega) (fun c => ?_) (fun c => ?_)
    · obtain rfl : w = 6 := by omega
      exact next h1 _ K F
    · omega
  | succ l ih =>
    intro w hw h1 K F
    obtain ⟨_, _, _, _, _, _, _, x196⟩ := id K.2
    have x197 : h1 197 = .inl (0, (15, .inl (nowF X.1))) := K.1.2.1
    have wf := (K.1.2.2.2.2.2.2.2.2.2.2 s hs6).1
    refine AW.iload_n 65 dX8_digest_64 rfl (by rfl) ?_
    refine AW.bipush 67 dX8_digest_65 rfl (nI 6) rfl ?_
    refine AW.nge 94 70 dX8_digest_67 (by decide) rfl (by omega) (by omega) (fun c => ?_) (fun c => ?_)
    · omega
    · refine AW.aload_n 71 dX8_digest_70 rfl (by rfl) ?_
      refine AW.aload_n 72 dX8_digest_71 rfl (by rfl) ?_
      refine AW.aload_n 73 dX8_digest_72 rfl (by rfl) ?_
      refine AW.getfield 76 dX8_digest_73 rfl fl_X8_7 (by assumption) (by rfl) ?_
      refine AW.iconst 77 dX8_digest_76 rfl (nI 1) rfl ?_
      refine AW.iload_n 78 dX8_digest_77 rfl (by rfl) ?_
      first | refine AW.iaddN 79 dX8_digest_78 rfl ?_ | refine AW.iadd 79 dX8_digest_78 rfl ?_
      refine AW.iaload 80 _ dX8_digest_79 rfl (by assumption) (by first | exact Or.inl rfl | exact Or.inr rfl) (ix_nI (by omega)) (by omega) ?_
      rw [nowF_c hs6]
      refine AW.iload_n 81 dX8_digest_80 rfl (by rfl) ?_
      refine AW.cV2 84 dX8_digest_81 rfl mi_X8_ofPart mv_X8_ofPart lk_X8_182 ⟨(Nat.le_of_ble_eq_true rfl), (Nat.le_of_ble_eq_true rfl)⟩ rfl (by assumption) rfl (Nat.le_of_ble_eq_true rfl) (r_ofPart K.1 wf c ?_)
      intro h2 K2 F2
      have K2 := K.m K2 F2
      obtain ⟨_, _, _, _, _, _, _, x196⟩ := id K2.2
      refine AW.i2l 85 dX8_digest_84 rfl ?_
      refine AW.cV1 88 dX8_digest_85 rfl mi_X8_mix mv_X8_mix lk_X8_268 ⟨(Nat.le_of_ble_eq_true rfl), (Nat.le_of_ble_eq_true rfl)⟩ rfl (by assumption) rfl (Nat.le_of_ble_eq_true rfl) (r_mix K2 ?_)
      intro h3 K3 F3
      refine AW.iinc1 91 dX8_digest_88 rfl (by rfl) rfl ?_
      refine AW.goto 64 dX8_digest_91 (by decide) ?_
      exact ih (w + 1) (by omega) h3 K3 (FrR.trans (FrR.trans F F2.c) F3)
theorem dg_3b {s : Nat} {d0 : Int64} (hs6 : s < 6) (next : ∀ h1 v2, DgAt h1 X (fldL (fun x => (nI (rw8 (X.1.2.1 s) x)).toInt64) X.1.1 d0) → FrR h h1 → AW X8_digest 129 [some (.ref 196), some (.int (nI s)), v2] [] N (0, 0) h1 P) : ∀ l w, w + l = X.1.1 → ∀ h1, DgAt h1 X (fldL (fun x => (nI (rw8 (X.1.2.1 s) x)).toInt64) w d0) → FrR h h1 → AW X8_digest 96 [some (.ref 196), some (.int (nI s)), some (.int (nI w))] [] N (0, 0) h1 P := by
  intro l
  induction l with
  | zero =>
    intro w hw h1 K F
    obtain ⟨_, _, _, _, _, _, _, x196⟩ := id K.2
    have x197 : h1 197 = .inl (0, (15, .inl (nowF X.1))) := K.1.2.1
    have n8 := K.1.2.2.2.2.2.2.2.2.2.1
    refine AW.iload_n 97 dX8_digest_96 rfl (by rfl) ?_
    refine AW.aload_n 98 dX8_digest_97 rfl (by rfl) ?_
    refine AW.getfield 101 dX8_digest_98 rfl fl_X8_7 (by assumption) (by rfl) ?_
    refine AW.iconst 102 dX8_digest_101 rfl (nI 0) rfl ?_
    refine AW.iaload 103 _ dX8_digest_102 rfl (by assumption) (by first | exact Or.inl rfl | exact Or.inr rfl) (ix_nI (by omega)) (by omega) ?_
    rw [show nowF X.1 0 = nI X.1.1 from rfl]
    refine AW.nge 129 106 dX8_digest_103 (by decide) rfl (by omega) (by omega) (fun c => ?_) (fun c => ?_)
    · obtain rfl : w = X.1.1 := by omega
      exact next h1 _ K F
    · omega
  | succ l ih =>
    intro w hw h1 K F
    obtain ⟨_, _, _, _, _, _, _, x196⟩ := id K.2
    have x197 : h1 197 = .inl (0, (15, .inl (nowF X.1))) := K.1.2.1
    have n8 := K.1.2.2.2.2.2.2.2.2.2.1
    have wf := (K.1.2.2.2.2.2.2.2.2.2.2 s hs6).1
    refine AW.iload_n 97 dX8_digest_96 rfl (by rfl) ?_
    refine AW.aload_n 98 dX8_digest_97 rfl (by rfl) ?_
    refine AW.getfield 101 dX8_digest_98 rfl fl_X8_7 (by assumption) (by rfl) ?_
    refine AW.iconst 102 dX8_digest_101 rfl (nI 0) rfl ?_
    refine AW.iaload 103 _ dX8_digest_102 rfl (by assumption) (by first | exact Or.inl rfl | exact Or.inr rfl) (ix_nI (by omega)) (by omega) ?_
    rw [show nowF X.1 0 = nI X.1.1 from rfl]
    refine AW.nge 129 106 dX8_digest_103 (by decide) rfl (by omega) (by omega) (fun c => ?_) (fun c => ?_)
    · omega
    · refine AW.aload_n 107 dX8_digest_106 rfl (by rfl) ?_
      refine AW.aload_n 108 dX8_digest_107 rfl (by rfl) ?_
      refine AW.getfield 111 dX8_digest_108 rfl fl_X8_7 (by assumption) (by rfl) ?_
      refine AW.iconst 112 dX8_digest_111 rfl (nI 1) rfl ?_
      refine AW.iload_n 113 dX8_digest_112 rfl (by rfl) ?_
      first | refine AW.iaddN 114 dX8_digest_113 rfl ?_ | refine AW.iadd 114 dX8_digest_113 rfl ?_
      refine AW.iaload 115 _ dX8_digest_114 rfl (by assumption) (by first | exact Or.inl rfl | exact Or.inr rfl) (ix_nI (by omega)) (by omega) ?_
      rw [nowF_c hs6]
      refine AW.iload_n 116 dX8_digest_115 rfl (by rfl) ?_
      refine AW.cS2 119 dX8_digest_116 rfl mi_X8_rowOf ms_X8_rowOf lk_X8_64 ⟨(Nat.le_of_ble_eq_true rfl), (Nat.le_of_ble_eq_true rfl)⟩ rfl (Nat.le_of_ble_eq_true rfl) (c_rowOf (by omega) (by omega) ?_)
      refine AW.i2l 120 dX8_digest_119 rfl ?_
      refine AW.cV1 123 dX8_digest_120 rfl mi_X8_mix mv_X8_mix lk_X8_268 ⟨(Nat.le_of_ble_eq_true rfl), (Nat.le_of_ble_eq_true rfl)⟩ rfl (by assumption) rfl (Nat.le_of_ble_eq_true rfl) (r_mix K ?_)
      intro h3 K3 F3
      refine AW.iinc1 126 dX8_digest_123 rfl (by rfl) rfl ?_
      refine AW.goto 96 dX8_digest_126 (by decide) ?_
      exact ih (w + 1) (by omega) h3 K3 (FrR.trans F F3)
theorem dg_3 {d0 : Int64} (next : ∀ h1 v1 v2, DgAt h1 X (dgTM X.1 6 d0) → FrR h h1 → AW X8_digest 135 [some (.ref 196), v1, v2] [] N (0, 0) h1 P) : ∀ l s, s + l = 6 → ∀ h1 v2, DgAt h1 X (dgTM X.1 s d0) → FrR h h1 → AW X8_digest 56 [some (.ref 196), some (.int (nI s)), v2] [] N (0, 0) h1 P := by
  intro l
  induction l with
  | zero =>
    intro s hw h1 v2 K F
    refine AW.iload_n 57 dX8_digest_56 rfl (by rfl) ?_
    refine AW.bipush 59 dX8_digest_57 rfl (nI 6) rfl ?_
    refine AW.nge 135 62 dX8_digest_59 (by decide) rfl (by omega) (by omega) (fun c => ?_) (fun c => ?_)
    · obtain rfl : s = 6 := by omega
      exact next h1 _ _ K F
    · omega
  | succ l ih =>
    intro s hw h1 v2 K F
    refine AW.iload_n 57 dX8_digest_56 rfl (by rfl) ?_
    refine AW.bipush 59 dX8_digest_57 rfl (nI 6) rfl ?_
    refine AW.nge 135 62 dX8_digest_59 (by decide) rfl (by omega) (by omega) (fun c => ?_) (fun c => ?_)
    · omega
    · refine AW.iconst 63 dX8_digest_62 rfl (nI 0) rfl ?_
      refine AW.istore_n 64 dX8_digest_63 rfl (Nat.le_of_ble_eq_true rfl) rfl ?_
      refine dg_3a (h := h) c (fun h2 v2 K2 F2 => ?_) 6 0 (by omega) h1 K F
      refine AW.iconst 95 dX8_digest_94 rfl (nI 0) rfl ?_
      refine AW.istore_n 96 dX8_digest_95 rfl (Nat.le_of_ble_eq_true rfl) rfl ?_
      refine dg_3b (h := h) c (fun h3 v2 K3 F3 => ?_) X.1.1 0 (by omega) h2 K2 F2
      refine AW.iinc1 132 dX8_digest_129 rfl (by rfl) rfl ?_
      refine AW.goto 56 dX8_digest_132 (by decide) ?_
      exact ih (s + 1) (by omega) h3 _ K3 F3
theorem dg_4 {d0 : Int64} (next : ∀ h1 v1 v2, DgAt h1 X (fldL (fun i => (X.1.2.2 i).toInt64) 8 d0) → FrR h h1 → AW X8_digest 163 [some (.ref 196), v1, v2] [] N (0, 0) h1 P) : ∀ l w, w + l = 8 → ∀ h1 v2, DgAt h1 X (fldL (fun i => (X.1.2.2 i).toInt64) w d0) → FrR h h1 → AW X8_digest 137 [some (.ref 196), some (.int (nI w)), v2] [] N (0, 0) h1 P := by
  intro l
  induction l with
  | zero =>
    intro w hw h1 v2 K F
    refine AW.iload_n 138 dX8_digest_137 rfl (by rfl) ?_
    refine AW.bipush 140 dX8_digest_138 rfl (nI 8) rfl ?_
    refine AW.nge 163 143 dX8_digest_140 (by decide) rfl (by omega) (by omega) (fun c => ?_) (fun c => ?_)
    · obtain rfl : w = 8 := by omega
      exact next h1 _ _ K F
    · omega
  | succ l ih =>
    intro w hw h1 v2 K F
    obtain ⟨_, _, _, _, _, _, _, x196⟩ := id K.2
    have x197 : h1 197 = .inl (0, (15, .inl (nowF X.1))) := K.1.2.1
    refine AW.iload_n 138 dX8_digest_137 rfl (by rfl) ?_
    refine AW.bipush 140 dX8_digest_138 rfl (nI 8) rfl ?_
    refine AW.nge 163 143 dX8_digest_140 (by decide) rfl (by omega) (by omega) (fun c => ?_) (fun c => ?_)
    · omega
    · refine AW.aload_n 144 dX8_digest_143 rfl (by rfl) ?_
      refine AW.aload_n 145 dX8_digest_144 rfl (by rfl) ?_
      refine AW.getfield 148 dX8_digest_145 rfl fl_X8_7 (by assumption) (by rfl) ?_
      refine AW.bipush 150 dX8_digest_148 rfl (nI 7) rfl ?_
      refine AW.iload_n 151 dX8_digest_150 rfl (by rfl) ?_
      first | refine AW.iaddN 152 dX8_digest_151 rfl ?_ | refine AW.iadd 152 dX8_digest_151 rfl ?_
      refine AW.iaload 153 _ dX8_digest_152 rfl (by assumption) (by first | exact Or.inl rfl | exact Or.inr rfl) (ix_nI (by omega)) (by omega) ?_
      rw [nowF_v c]
      refine AW.i2l 154 dX8_digest_153 rfl ?_
      refine AW.cV1 157 dX8_digest_154 rfl mi_X8_mix mv_X8_mix lk_X8_268 ⟨(Nat.le_of_ble_eq_true rfl), (Nat.le_of_ble_eq_true rfl)⟩ rfl (by assumption) rfl (Nat.le_of_ble_eq_true rfl) (r_mix K ?_)
      intro h3 K3 F3
      refine AW.iinc1 160 dX8_digest_157 rfl (by rfl) rfl ?_
      refine AW.goto 137 dX8_digest_160 (by decide) ?_
      exact ih (w + 1) (by omega) h3 _ K3 (FrR.trans F F3)
theorem dg_5a {p j k : Nat} {d0 : Int64} (hp : p < 4) (hj : j = if p < 2 then 0 else p - 1) (hk : k = if p < 2 then p + 1 else 0) (next : ∀ h1 v2, DgAt h1 X (dgK X.1.2.2 j k d0) → FrR h h1 → AW X8_digest 214 [some (.ref 196), some (.int (nI p)), v2] [] N (0, 0) h1 P) : ∀ l w, w + l = 8 → ∀ h1, DgAt h1 X (fldL (fun i => asF j k X.1.2.2 (i + 1)) w d0) → FrR h h1 → AW X8_digest 172 [some (.ref 196), some (.int (nI p)), some (.int (nI (w + 1)))] [] N (0, 0) h1 P := by
  intro l
  induction l with
  | zero =>
    intro w hw h1 K F
    refine AW.iload_n 173 dX8_digest_172 rfl (by rfl) ?_
    refine AW.bipush 175 dX8_digest_173 rfl (nI 8) rfl ?_
    refine AW.ngt 214 178 dX8_digest_175 (by decide) rfl (by omega) (by omega) (fun c => ?_) (fun c => ?_)
    · obtain rfl : w = 8 := by omega
      exact next h1 _ K F
    · omega
  | succ l ih =>
    intro w hw h1 K F
    obtain ⟨_, _, _, _, _, _, _, x196⟩ := id K.2
    have J : ∀ h2, DgAt h2 X (fldL (fun i => asF j k X.1.2.2 (i + 1)) w d0) → FrR h h2 → AW X8_digest 205 [some (.ref 196), some (.int (nI p)), some (.int (nI (w + 1)))] [.long (asF j k X.1.2.2 (w + 1)), .ref 196] N (0, 0) h2 P := by
      intro h2 K2 F2
      obtain ⟨_, _, _, _, _, _, _, x196⟩ := id K2.2
      refine AW.cV1 208 dX8_digest_205 rfl mi_X8_mix mv_X8_mix lk_X8_268 ⟨(Nat.le_of_ble_eq_true rfl), (Nat.le_of_ble_eq_true rfl)⟩ rfl (by assumption) rfl (Nat.le_of_ble_eq_true rfl) (r_mix K2 ?_)
      intro h3 K3 F3
      refine AW.iinc1 211 dX8_digest_208 rfl (by rfl) rfl ?_
      refine AW.goto 172 dX8_digest_211 (by decide) ?_
      exact ih (w + 1) (by omega) h3 K3 (FrR.trans F2 F3)
    refine AW.iload_n 173 dX8_digest_172 rfl (by rfl) ?_
    refine AW.bipush 175 dX8_digest_173 rfl (nI 8) rfl ?_
    refine AW.ngt 214 178 dX8_digest_175 (by decide) rfl (by omega) (by omega) (fun c => ?_) (fun c => ?_)
    · omega
    · refine AW.aload_n 179 dX8_digest_178 rfl (by rfl) ?_
      refine AW.iload_n 180 dX8_digest_179 rfl (by rfl) ?_
      refine AW.iconst 181 dX8_digest_180 rfl (nI 2) rfl ?_
      refine AW.nge 196 184 dX8_digest_181 (by decide) rfl (by omega) (by omega) (fun c2 => ?_) (fun c2 => ?_)
      · rw [if_neg (by omega)] at hj hk
        subst hj
        subst hk
        refine AW.aload_n 197 dX8_digest_196 rfl (by rfl) ?_
        refine AW.iload_n 198 dX8_digest_197 rfl (by rfl) ?_
        refine AW.iconst 199 dX8_digest_198 rfl (nI 1) rfl ?_
        first | refine AW.isubN 200 dX8_digest_199 rfl (by omega) ?_ | refine AW.isub 200 dX8_digest_199 rfl ?_
        refine AW.iconst 201 dX8_digest_200 rfl (nI 0) rfl ?_
        refine AW.iload_n 202 dX8_digest_201 rfl (by rfl) ?_
        refine AW.cV3 205 dX8_digest_202 rfl mi_X8_asOf mv_X8_asOf lk_X8_216 ⟨(Nat.le_of_ble_eq_true rfl), (Nat.le_of_ble_eq_true rfl)⟩ rfl (by assumption) rfl (Nat.le_of_ble_eq_true rfl) (r_asOf K.1 (by omega) (by omega) (by omega) (by omega) ?_)
        intro h2 K2 F2
        exact J h2 (K.m K2 F2) (FrR.trans F F2.c)
      · rw [if_pos c2] at hj hk
        subst hj
        subst hk
        refine AW.aload_n 185 dX8_digest_184 rfl (by rfl) ?_
        refine AW.iconst 186 dX8_digest_185 rfl (nI 0) rfl ?_
        refine AW.iload_n 187 dX8_digest_186 rfl (by rfl) ?_
        refine AW.iconst 188 dX8_digest_187 rfl (nI 1) rfl ?_
        first | refine AW.iaddN 189 dX8_digest_188 rfl ?_ | refine AW.iadd 189 dX8_digest_188 rfl ?_
        refine AW.iload_n 190 dX8_digest_189 rfl (by rfl) ?_
        refine AW.cV3 193 dX8_digest_190 rfl mi_X8_asOf mv_X8_asOf lk_X8_216 ⟨(Nat.le_of_ble_eq_true rfl), (Nat.le_of_ble_eq_true rfl)⟩ rfl (by assumption) rfl (Nat.le_of_ble_eq_true rfl) (r_asOf K.1 (by omega) (by omega) (by omega) (by omega) ?_)
        intro h2 K2 F2
        refine AW.goto 205 dX8_digest_193 (by decide) ?_
        exact J h2 (K.m K2 F2) (FrR.trans F F2.c)
theorem dg_5 {p j k : Nat} {d0 : Int64} (hp : p < 4) (hj : j = if p < 2 then 0 else p - 1) (hk : k = if p < 2 then p + 1 else 0) (next : ∀ h1 v2, DgAt h1 X (dgK X.1.2.2 j k d0) → FrR h h1 → AW X8_digest 165 [some (.ref 196), some (.int (nI (p + 1))), v2] [] N (0, 0) h1 P) : ∀ h1 v2, DgAt h1 X d0 → FrR h h1 → AW X8_digest 165 [some (.ref 196), some (.int (nI p)), v2] [] N (0, 0) h1 P := by
  intro h1 v2 K F
  refine AW.iload_n 166 dX8_digest_165 rfl (by rfl) ?_
  refine AW.iconst 167 dX8_digest_166 rfl (nI 4) rfl ?_
  refine AW.nge 220 170 dX8_digest_167 (by decide) rfl (by omega) (by omega) (fun c => ?_) (fun c => ?_)
  · omega
  · refine AW.iconst 171 dX8_digest_170 rfl (nI 1) rfl ?_
    refine AW.istore_n 172 dX8_digest_171 rfl (Nat.le_of_ble_eq_true rfl) rfl ?_
    refine dg_5a (h := h) hp hj hk (fun h2 v2 K2 F2 => ?_) 8 0 (by omega) h1 K F
    refine AW.iinc1 217 dX8_digest_214 rfl (by rfl) rfl ?_
    refine AW.goto 165 dX8_digest_217 (by decide) ?_
    exact next h2 _ K2 F2
theorem dg_C {d4 : Int64} (hP : ∀ h', RfAt h' X → FrR h h' → P (some (.long (dgK X.1.2.2 2 0 (dgK X.1.2.2 1 0 (dgK X.1.2.2 0 2 (dgK X.1.2.2 0 1 d4)))))) N h') : ∀ h1 v2, DgAt h1 X d4 → FrR h h1 → AW X8_digest 165 [some (.ref 196), some (.int (nI 0)), v2] [] N (0, 0) h1 P := by
  refine dg_5 (h := h) (j := 0) (k := 1) (by omega) rfl rfl ?_
  generalize dgK X.1.2.2 0 1 d4 = d5 at hP ⊢
  intro h1 v2 K1 F1
  refine dg_5 (h := h) (p := 1) (j := 0) (k := 2) (by omega) rfl rfl ?_ h1 v2 K1 F1
  generalize dgK X.1.2.2 0 2 d5 = d6 at hP ⊢
  intro h1 v2 K1 F1
  refine dg_5 (h := h) (p := 2) (j := 1) (k := 0) (by omega) rfl rfl ?_ h1 v2 K1 F1
  generalize dgK X.1.2.2 1 0 d6 = d7 at hP ⊢
  intro h1 v2 K1 F1
  refine dg_5 (h := h) (p := 3) (j := 2) (k := 0) (by omega) rfl rfl ?_ h1 v2 K1 F1
  generalize dgK X.1.2.2 2 0 d7 = d8 at hP ⊢
  intro h1 v2 K1 F1
  obtain ⟨_, _, _, _, _, _, _, y196⟩ := id K1.2
  refine AW.iload_n 166 dX8_digest_165 rfl (by rfl) ?_
  refine AW.iconst 167 dX8_digest_166 rfl (nI 4) rfl ?_
  refine AW.nge 220 170 dX8_digest_167 (by decide) rfl (by omega) (by omega) (fun c => ?_) (fun c => ?_)
  · refine AW.aload_n 221 dX8_digest_220 rfl (by rfl) ?_
    refine AW.getfield 224 dX8_digest_221 rfl fl_X8_262 (by assumption) (by rfl) ?_
    refine AW.lret dX8_digest_224 rfl ?_
    exact hP h1 K1.1 F1
  · omega
theorem dg_B {d0 d1 d2 d3 d4 : Int64} (e1 : fldL (fun w => (tldF X w).toInt64) 5 d0 = d1) (e2 : fldL (fun w => (nI (amtM X.1.1 w)).toInt64) 10 d1 = d2) (e3 : dgTM X.1 6 d2 = d3) (e4 : fldL (fun i => (X.1.2.2 i).toInt64) 8 d3 = d4) (hP : ∀ h', RfAt h' X → FrR h h' → P (some (.long (dgK X.1.2.2 2 0 (dgK X.1.2.2 1 0 (dgK X.1.2.2 0 2 (dgK X.1.2.2 0 1 d4)))))) N h') : ∀ h1, DgAt h1 X d0 → FrR h h1 → AW X8_digest 7 [some (.ref 196), none, none] [] N (0, 0) h1 P := by
  intro h1 K F
  refine AW.iconst 8 dX8_digest_7 rfl (nI 0) rfl ?_
  refine AW.istore_n 9 dX8_digest_8 rfl (Nat.le_of_ble_eq_true rfl) rfl ?_
  refine dg_1 (h := h) ?_ 5 0 (by omega) h1 K F
  rw [e1]
  intro h1 v1 K1 F1
  refine AW.iconst 31 dX8_digest_30 rfl (nI 0) rfl ?_
  refine AW.istore_n 32 dX8_digest_31 rfl (Nat.le_of_ble_eq_true rfl) rfl ?_
  refine dg_2 (h := h) ?_ 10 0 (by omega) _ K1 F1
  rw [e2]
  intro h1 v1 K1 F1
  refine AW.iconst 55 dX8_digest_54 rfl (nI 0) rfl ?_
  refine AW.istore_n 56 dX8_digest_55 rfl (Nat.le_of_ble_eq_true rfl) rfl ?_
  refine dg_3 (h := h) ?_ 6 0 (by omega) _ _ K1 F1
  rw [e3]
  intro h1 v1 v2 K1 F1
  refine AW.iconst 136 dX8_digest_135 rfl (nI 0) rfl ?_
  refine AW.istore_n 137 dX8_digest_136 rfl (Nat.le_of_ble_eq_true rfl) rfl ?_
  refine dg_4 (h := h) ?_ 8 0 (by omega) _ _ K1 F1
  rw [e4]
  intro h1 v1 v2 K1 F1
  refine AW.iconst 164 dX8_digest_163 rfl (nI 0) rfl ?_
  refine AW.istore_n 165 dX8_digest_164 rfl (Nat.le_of_ble_eq_true rfl) rfl ?_
  exact dg_C (h := h) hP _ _ K1 F1
theorem dg_A {d0 : Int64} (hP : ∀ h', RfAt h' X → FrR h h' → P (some (.long (digMD X d0))) N h') : ∀ h1, DgAt h1 X d0 → FrR h h1 → AW X8_digest 7 [some (.ref 196), none, none] [] N (0, 0) h1 P := dg_B rfl rfl rfl rfl hP
theorem r_digest (K : RfAt h X) (hP : ∀ h', RfAt h' X → FrR h h' → P (some (.long (digMD X 2413))) N h') : AM X8_digest [.ref 196] N h P := by
  obtain ⟨la, ma, at_, fa, od, d, x196, -⟩ := id K.1
  refine AM.of0 rfl (Nat.le_of_ble_eq_true rfl) rfl [some (.ref 196), none, none] rfl ?_
  refine AW.aload_n 1 dX8_digest_0 rfl (by rfl) ?_
  refine AW.ldc2 4 dX8_digest_1 rfl kl_X8_266 ?_
  refine AW.putfield 7 dX8_digest_4 rfl fl_X8_262 (by assumption) (Nat.le_of_ble_eq_true rfl) (fun _ => ⟨rfl, rfl⟩) ?_
  refine AW.heap (hs h 196 (modO (nI X.2.1.1) (nI X.2.2.2.2) la ma at_ fa od 2413)) rfl ?_
  exact dg_A (h := h) hP _ (DgAt.set K x196) (fun z hz => hs_ne (by omega))
end REFZ
