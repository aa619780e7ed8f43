/-! THE MODEL, thirty-third part: readOrder -/
section REFW
variable {N n : Nat} {h : aH} {P : aP} {tx : Nat → Nat} {len : Nat} {ps la ma : Int32} {d : Int64} {a : Nat}
theorem flt_ne {e : Nat} (he : e < 1000) : ¬ fltI (some e) = -1 := by
  intro c
  have := congrArg Int32.toInt c
  rw [show fltI (some e) = nI e from rfl, nI_toInt (by omega), show (-1 : Int32).toInt = -1 from rfl] at this
  omega
/-- behind an order: its letter and values written, or its fault -/
def RoQ (h' : aH) (ps la ma : Int32) (d : Int64) (len o : Nat) (lt vl : Nat → Int32) (O : Nat × Bool × Nat × (Nat → Int32)) : Prop :=
  (O.2.1 = true → h' 196 = modO ps (nI len) la ma (nI O.1) (fltI none) (nI (o + 1)) d ∧ h' 210 = .inl (0, (60, .inl (upd lt o (nI O.2.2.1)))) ∧ ∃ V, h' 211 = .inl (0, (180, .inl V)) ∧ (∀ i, i < 3 * o → V i = vl i) ∧ ∀ k, k < argF O.2.2.1 → V (3 * o + k) = O.2.2.2 k) ∧
  (O.2.1 = false → ∃ b od lt' vl', h' 196 = modO ps (nI len) la ma b (fltI (some O.1)) od d ∧ h' 210 = .inl (0, (60, .inl lt')) ∧ h' 211 = .inl (0, (180, .inl vl')))
theorem ro_T {o : Nat} {lt vl f : Nat → Int32} (ho : o < 41) (hP : ∀ h', RoQ h' ps la ma d len o lt vl (rdO tx len a f) → (∀ z, z ≠ 196 → z ≠ 210 → z ≠ 211 → h' z = h z) → P none N h') : ∀ t b fl V v2 v3 h1, b < 900 → (∀ e, fl = some e → e < 1000) → h1 196 = modO ps (nI len) la ma (nI b) (fltI fl) (nI o) d → h1 210 = .inl (0, (60, .inl lt)) → h1 211 = .inl (0, (180, .inl V)) → (∀ z, z ≠ 196 → z ≠ 210 → z ≠ 211 → h1 z = h z) → (∀ h', h' 196 = modO ps (nI len) la ma (nI (b + 1)) (fltI (mstF fl t b)) (nI (o + 1)) d → h' 210 = .inl (0, (60, .inl (upd lt o (nI (tx a))))) → h' 211 = .inl (0, (180, .inl V)) → RoQ h' ps la ma d len o lt vl (rdO tx len a f)) → AW X8_readOrder 118 [some (.ref 196), some (.int (nI (tx a))), v2, v3] [.int (nI (b01 t)), .ref 196] N (0, 0) h1 P := by
  intro t b fl V v2 v3 h1 hb hf y196 y210 y211 fr hq
  refine AW.cV1 121 dX8_readOrder_118 rfl mi_X8_must mv_X8_must lk_X8_231 ⟨(Nat.le_of_ble_eq_true rfl), (Nat.le_of_ble_eq_true rfl)⟩ rfl (by assumption) rfl (Nat.le_of_ble_eq_true rfl) (r_mustK y196 (by omega) hf ?_)
  have z196 := hs_eq h1 196 (modO ps (nI len) la ma (nI b) (fltI (mstF fl t b)) (nI o) d)
  have z210 := at_ne (a := 196) (e := modO ps (nI len) la ma (nI b) (fltI (mstF fl t b)) (nI o) d) y210 (by decide)
  have z211 := at_ne (a := 196) (e := modO ps (nI len) la ma (nI b) (fltI (mstF fl t b)) (nI o) d) y211 (by decide)
  have fr2 : ∀ z, z ≠ 196 → z ≠ 210 → z ≠ 211 → hs h1 196 (modO ps (nI len) la ma (nI b) (fltI (mstF fl t b)) (nI o) d) z = h z := fun z a b c => by rw [hs_ne a, fr z a b c]
  generalize hs h1 196 (modO ps (nI len) la ma (nI b) (fltI (mstF fl t b)) (nI o) d) = h2 at z196 z210 z211 fr2 ⊢
  refine AW.aload_n 122 dX8_readOrder_121 rfl (by rfl) ?_
  refine AW.getfield 125 dX8_readOrder_122 rfl fl_X8_50 (by assumption) (by rfl) ?_
  refine AW.aload_n 126 dX8_readOrder_125 rfl (by rfl) ?_
  refine AW.getfield 129 dX8_readOrder_126 rfl fl_X8_244 (by assumption) (by rfl) ?_
  refine AW.iload_n 130 dX8_readOrder_129 rfl (by rfl) ?_
  refine AW.iastore 131 _ dX8_readOrder_130 rfl (by assumption) (ix_nI (by omega)) (by omega) ?_
  have w196 := at_ne (a := 210) (e := (.inl (0, (60, .inl (upd lt o (nI (tx a))))) : aE)) z196 (by decide)
  have w210 := hs_eq h2 210 (.inl (0, (60, .inl (upd lt o (nI (tx a))))) : aE)
  have w211 := at_ne (a := 210) (e := (.inl (0, (60, .inl (upd lt o (nI (tx a))))) : aE)) z211 (by decide)
  have fr3 : ∀ z, z ≠ 196 → z ≠ 210 → z ≠ 211 → hs h2 210 (.inl (0, (60, .inl (upd lt o (nI (tx a))))) : aE) z = h z := fun z a b c => by rw [hs_ne b, fr2 z a b c]
  generalize hs h2 210 (.inl (0, (60, .inl (upd lt o (nI (tx a))))) : aE) = h3 at w196 w210 w211 fr3 ⊢
  refine AW.aload_n 132 dX8_readOrder_131 rfl (by rfl) ?_
  refine AW.dup 133 dX8_readOrder_132 rfl rfl ?_
  refine AW.getfield 136 dX8_readOrder_133 rfl fl_X8_222 (by assumption) (by rfl) ?_
  refine AW.iconst 137 dX8_readOrder_136 rfl (nI 1) rfl ?_
  first | refine AW.iaddN 138 dX8_readOrder_137 rfl ?_ | refine AW.iadd 138 dX8_readOrder_137 rfl ?_
  refine AW.putfield 141 dX8_readOrder_138 rfl fl_X8_222 (by assumption) (Nat.le_of_ble_eq_true rfl) (fun _ => ⟨rfl, rfl⟩) ?_
  refine AW.heap (hs h3 196 (modO ps (nI len) la ma (nI (b + 1)) (fltI (mstF fl t b)) (nI o) d)) rfl ?_
  have u196 := hs_eq h3 196 (modO ps (nI len) la ma (nI (b + 1)) (fltI (mstF fl t b)) (nI o) d)
  refine AW.aload_n 142 dX8_readOrder_141 rfl (by rfl) ?_
  refine AW.dup 143 dX8_readOrder_142 rfl rfl ?_
  refine AW.getfield 146 dX8_readOrder_143 rfl fl_X8_244 (by assumption) (by rfl) ?_
  refine AW.iconst 147 dX8_readOrder_146 rfl (nI 1) rfl ?_
  first | refine AW.iaddN 148 dX8_readOrder_147 rfl ?_ | refine AW.iadd 148 dX8_readOrder_147 rfl ?_
  refine AW.putfield 151 dX8_readOrder_148 rfl fl_X8_244 (by assumption) (Nat.le_of_ble_eq_true rfl) (fun _ => ⟨rfl, rfl⟩) ?_
  refine AW.heap (hs h3 196 (modO ps (nI len) la ma (nI (b + 1)) (fltI (mstF fl t b)) (nI (o + 1)) d)) (by rw [hs_hs]; rfl) ?_
  refine AW.vret dX8_readOrder_151 rfl ?_
  exact hP _ (hq _ (hs_eq _ _ _) (by rw [hs_ne (by decide), w210]) (by rw [hs_ne (by decide), w211])) (fun z a b c => by rw [hs_ne a, fr3 z a b c])
theorem ro_D {o : Nat} {lt vl f : Nat → Int32} (ho : o < 41) (hP : ∀ h', RoQ h' ps la ma d len o lt vl (rdO tx len a f) → (∀ z, z ≠ 196 → z ≠ 210 → z ≠ 211 → h' z = h z) → P none N h') (c1 : (rdO tx len a f).2.1 = false) : ∀ e b V (w2 : Int32) v3 h1, b < 900 → e < 900 → (rdO tx len a f).1 = e → h1 196 = modO ps (nI len) la ma (nI b) (fltI (some e)) (nI o) d → h1 210 = .inl (0, (60, .inl lt)) → h1 211 = .inl (0, (180, .inl V)) → (∀ z, z ≠ 196 → z ≠ 210 → z ≠ 211 → h1 z = h z) → AW X8_readOrder 88 [some (.ref 196), some (.int (nI (tx a))), some (.int w2), v3] [] N (0, 0) h1 P := by
  intro e b V w2 v3 h1 hb he c2 y196 y210 y211 fr
  refine AW.aload_n 89 dX8_readOrder_88 rfl (by rfl) ?_
  refine AW.getfield 92 dX8_readOrder_89 rfl fl_X8_225 (by assumption) (by rfl) ?_
  refine AW.iconst 93 dX8_readOrder_92 rfl (-1) rfl ?_
  refine AW.icmp_ne 103 96 dX8_readOrder_93 (by decide) rfl (fun c => ?_) (fun c => ?_)
  · refine AW.bipush 105 dX8_readOrder_103 rfl (nI 59) rfl ?_
    refine AW.istore_n 106 dX8_readOrder_105 rfl (Nat.le_of_ble_eq_true rfl) rfl ?_
    refine AW.aload_n 107 dX8_readOrder_106 rfl (by rfl) ?_
    refine AW.iload_n 108 dX8_readOrder_107 rfl (by rfl) ?_
    refine AW.bipush 110 dX8_readOrder_108 rfl (nI 59) rfl ?_
    refine AW.icmp_ne 117 113 dX8_readOrder_110 (by decide) rfl (fun c3 => ?_) (fun c3 => ?_)
    · exact absurd rfl c3
    · refine AW.iconst 114 dX8_readOrder_113 rfl (nI 1) rfl ?_
      refine AW.goto 118 dX8_readOrder_114 (by decide) ?_
      refine ro_T ho hP true b (some e) V _ _ h1 hb (fun e' q => by cases q; omega) y196 y210 y211 fr ?_
      intro h' q1 q2 q3
      refine ⟨fun q => (by rw [c1] at q; cases q), fun _ => ⟨nI (b + 1), nI (o + 1), upd lt o (nI (tx a)), V, ?_, q2, q3⟩⟩
      rw [c2]
      exact q1
  · exact absurd c (flt_ne (by omega))
theorem ro_L {o : Nat} {lt vl f : Nat → Int32} (x201 : h 201 = iA 120 tx) (hl : len ≤ 120) (ht : ∀ i, tx i < 128) (ha : a < len) (c0 : argF (tx a) ≠ 0) (ho : o < 41) (hP : ∀ h', RoQ h' ps la ma d len o lt vl (rdO tx len a f) → (∀ z, z ≠ 196 → z ≠ 210 → z ≠ 211 → h' z = h z) → P none N h') : ∀ k i b f' V h1, i + k = argF (tx a) → b ≤ len → h1 196 = modO ps (nI len) la ma (nI b) (fltI none) (nI o) d → h1 210 = .inl (0, (60, .inl lt)) → h1 211 = .inl (0, (180, .inl V)) → (∀ z, z ≠ 196 → z ≠ 210 → z ≠ 211 → h1 z = h z) → (∀ j, j < 3 * o → V j = vl j) → (∀ j, j < i → V (3 * o + j) = f' j) → rdA tx len (tx a) k i b f' = rdA tx len (tx a) (argF (tx a)) 0 (a + 1) f → AW X8_readOrder 36 [some (.ref 196), some (.int (nI (tx a))), some (.int (nI (argF (tx a)))), some (.int (nI i))] [] N (0, 0) h1 P := by
  have hta := ht a
  have hal := argF_le (tx a)
  intro k
  induction k with
  | zero =>
    intro i b f' V h1 hi hb y196 y210 y211 fr hV1 hV2 he
    have he : (b, true, f') = rdA tx len (tx a) (argF (tx a)) 0 (a + 1) f := he
    have y201 := (fr 201 (by decide) (by decide) (by decide)).trans x201
    have hb2 := skF_le (tx := tx) hb
    have eO : rdO tx len a f = if isB tx len (skF tx len b) 59 then (skF tx len b + 1, true, tx a, f') else (skF tx len b, false, 0, f') := by
      rw [rdO, if_pos ha, if_neg c0, ← he]
      rfl
    refine AW.iload_n 37 dX8_readOrder_36 rfl (by rfl) ?_
    refine AW.iload_n 38 dX8_readOrder_37 rfl (by rfl) ?_
    refine AW.nge 88 41 dX8_readOrder_38 (by decide) rfl (by omega) (by omega) (fun c => ?_) (fun c => ?_)
    · refine AW.aload_n 89 dX8_readOrder_88 rfl (by rfl) ?_
      refine AW.getfield 92 dX8_readOrder_89 rfl fl_X8_225 (by assumption) (by rfl) ?_
      refine AW.iconst 93 dX8_readOrder_92 rfl (-1) rfl ?_
      refine AW.icmp_ne 103 96 dX8_readOrder_93 (by decide) rfl (fun c1 => ?_) (fun c1 => ?_)
      · exact absurd rfl c1
      · refine AW.aload_n 97 dX8_readOrder_96 rfl (by rfl) ?_
        refine AW.cV0 100 dX8_readOrder_97 rfl mi_X8_here mv_X8_here lk_X8_235 ⟨(Nat.le_of_ble_eq_true rfl), (Nat.le_of_ble_eq_true rfl)⟩ rfl (by assumption) rfl (Nat.le_of_ble_eq_true rfl) (r_hereK y196 y201 hl ht hb ?_)
        have z196 := hs_eq h1 196 (modO ps (nI len) la ma (nI (skF tx len b)) (fltI none) (nI o) d)
        have z210 := at_ne (a := 196) (e := modO ps (nI len) la ma (nI (skF tx len b)) (fltI none) (nI o) d) y210 (by decide)
        have z211 := at_ne (a := 196) (e := modO ps (nI len) la ma (nI (skF tx len b)) (fltI none) (nI o) d) y211 (by decide)
        have fr2 : ∀ z, z ≠ 196 → z ≠ 210 → z ≠ 211 → hs h1 196 (modO ps (nI len) la ma (nI (skF tx len b)) (fltI none) (nI o) d) z = h z := fun z a b c => by rw [hs_ne a, fr z a b c]
        generalize hs h1 196 (modO ps (nI len) la ma (nI (skF tx len b)) (fltI none) (nI o) d) = h2 at z196 z210 z211 fr2 ⊢
        refine AW.goto 105 dX8_readOrder_100 (by decide) ?_
        refine AW.istore_n 106 dX8_readOrder_105 rfl (Nat.le_of_ble_eq_true rfl) rfl ?_
        refine AW.aload_n 107 dX8_readOrder_106 rfl (by rfl) ?_
        refine AW.iload_n 108 dX8_readOrder_107 rfl (by rfl) ?_
        refine AW.bipush 110 dX8_readOrder_108 rfl (nI 59) rfl ?_
        refine AW.icmp_ne 117 113 dX8_readOrder_110 (by decide) rfl (fun c4 => ?_) (fun c4 => ?_)
        · have q : isB tx len (skF tx len b) 59 = false := Bool.eq_false_iff.mpr (fun q => c4 ((prI_eq (by omega) (ht _)).mpr q))
          rw [q] at eO
          refine AW.iconst 118 dX8_readOrder_117 rfl (nI 0) rfl ?_
          refine ro_T ho hP false (skF tx len b) none V _ _ h2 (by omega) (fun e q => by cases q) z196 z210 z211 fr2 ?_
          intro h' q1 q2 q3
          rw [eO]
          exact ⟨fun q => (by cases q), fun _ => ⟨_, _, _, _, q1, q2, q3⟩⟩
        · have q : isB tx len (skF tx len b) 59 = true := (prI_eq (by omega) (ht _)).mp c4
          rw [q] at eO
          refine AW.iconst 114 dX8_readOrder_113 rfl (nI 1) rfl ?_
          refine AW.goto 118 dX8_readOrder_114 (by decide) ?_
          refine ro_T ho hP true (skF tx len b) none V _ _ h2 (by omega) (fun e q => by cases q) z196 z210 z211 fr2 ?_
          intro h' q1 q2 q3
          rw [eO]
          refine ⟨fun _ => ⟨q1, q2, V, q3, hV1, fun k hk => ?_⟩, fun q => by cases q⟩
          have hk : k < argF (tx a) := hk
          exact hV2 k (by omega)
    · omega
  | succ k ih =>
    intro i b f' V h1 hi hb y196 y210 y211 fr hV1 hV2 he
    have y201 := (fr 201 (by decide) (by decide) (by decide)).trans x201
    refine AW.iload_n 37 dX8_readOrder_36 rfl (by rfl) ?_
    refine AW.iload_n 38 dX8_readOrder_37 rfl (by rfl) ?_
    refine AW.nge 88 41 dX8_readOrder_38 (by decide) rfl (by omega) (by omega) (fun c => ?_) (fun c => ?_)
    · omega
    · refine AW.aload_n 42 dX8_readOrder_41 rfl (by rfl) ?_
      refine AW.getfield 45 dX8_readOrder_42 rfl fl_X8_225 (by assumption) (by rfl) ?_
      refine AW.iconst 46 dX8_readOrder_45 rfl (-1) rfl ?_
      refine AW.icmp_ne 88 49 dX8_readOrder_46 (by decide) rfl (fun c1 => ?_) (fun c1 => ?_)
      · exact absurd rfl c1
      · refine AW.aload_n 50 dX8_readOrder_49 rfl (by rfl) ?_
        refine AW.getfield 53 dX8_readOrder_50 rfl fl_X8_53 (by assumption) (by rfl) ?_
        refine AW.iconst 54 dX8_readOrder_53 rfl (nI 3) rfl ?_
        refine AW.aload_n 55 dX8_readOrder_54 rfl (by rfl) ?_
        refine AW.getfield 58 dX8_readOrder_55 rfl fl_X8_244 (by assumption) (by rfl) ?_
        first | refine AW.imulN 59 dX8_readOrder_58 rfl ?_ | refine AW.imul 59 dX8_readOrder_58 rfl ?_
        refine AW.iload_n 60 dX8_readOrder_59 rfl (by rfl) ?_
        first | refine AW.iaddN 61 dX8_readOrder_60 rfl ?_ | refine AW.iadd 61 dX8_readOrder_60 rfl ?_
        refine AW.aload_n 62 dX8_readOrder_61 rfl (by rfl) ?_
        refine AW.iload_n 63 dX8_readOrder_62 rfl (by rfl) ?_
        refine AW.bipush 65 dX8_readOrder_63 rfl (nI 120) rfl ?_
        have J : ∀ neg : Bool, neg = (decide (tx a = 120) && decide (i = 1)) → AW X8_readOrder 78 [some (.ref 196), some (.int (nI (tx a))), some (.int (nI (argF (tx a)))), some (.int (nI i))] [.int (nI (b01 neg)), .ref 196, .int (nI (3 * o + i)), .ref 211] N (0, 0) h1 P := by
          intro neg hneg
          rw [rdA, ← hneg] at he
          refine AW.cV1 81 dX8_readOrder_78 rfl mi_X8_read mv_X8_read lk_X8_247 ⟨(Nat.le_of_ble_eq_true rfl), (Nat.le_of_ble_eq_true rfl)⟩ rfl (by assumption) rfl (Nat.le_of_ble_eq_true rfl) (r_readK y196 y201 hl ht hb ?_)
          have hle := rdN_le (tx := tx) neg hb
          generalize rdN tx len neg b = R at he hle ⊢
          obtain ⟨e, ok, v⟩ := R
          dsimp only at he hle ⊢
          have z196 := hs_eq h1 196 (modO ps (nI len) la ma (nI e) (fltI (if ok then none else some e)) (nI o) d)
          have z210 := at_ne (a := 196) (e := modO ps (nI len) la ma (nI e) (fltI (if ok then none else some e)) (nI o) d) y210 (by decide)
          have z211 := at_ne (a := 196) (e := modO ps (nI len) la ma (nI e) (fltI (if ok then none else some e)) (nI o) d) y211 (by decide)
          have fr2 : ∀ z, z ≠ 196 → z ≠ 210 → z ≠ 211 → hs h1 196 (modO ps (nI len) la ma (nI e) (fltI (if ok then none else some e)) (nI o) d) z = h z := fun z a b c => by rw [hs_ne a, fr z a b c]
          generalize hs h1 196 (modO ps (nI len) la ma (nI e) (fltI (if ok then none else some e)) (nI o) d) = h2 at z196 z210 z211 fr2 ⊢
          refine AW.iastore 82 _ dX8_readOrder_81 rfl (by assumption) (ix_nI (by omega)) (by omega) ?_
          have w196 := at_ne (a := 211) (e := (.inl (0, (180, .inl (upd V (3 * o + i) v))) : aE)) z196 (by decide)
          have w210 := at_ne (a := 211) (e := (.inl (0, (180, .inl (upd V (3 * o + i) v))) : aE)) z210 (by decide)
          have w211 := hs_eq h2 211 (.inl (0, (180, .inl (upd V (3 * o + i) v))) : aE)
          have fr3 : ∀ z, z ≠ 196 → z ≠ 210 → z ≠ 211 → hs h2 211 (.inl (0, (180, .inl (upd V (3 * o + i) v))) : aE) z = h z := fun z a b c => by rw [hs_ne c, fr2 z a b c]
          generalize hs h2 211 (.inl (0, (180, .inl (upd V (3 * o + i) v))) : aE) = h3 at w196 w210 w211 fr3 ⊢
          cases ok with
          | true =>
            have he : rdA tx len (tx a) k (i + 1) e (upd f' i v) = rdA tx len (tx a) (argF (tx a)) 0 (a + 1) f := he
            refine AW.iinc1 85 dX8_readOrder_82 rfl (by rfl) rfl ?_
            refine AW.goto 36 dX8_readOrder_85 (by decide) ?_
            refine ih (i + 1) e _ _ h3 (by omega) hle.2 w196 w210 w211 fr3 (fun j hj => ?_) (fun j hj => ?_) he
            · unfold upd
              rw [if_neg (by omega)]
              exact hV1 j hj
            · unfold upd
              by_cases q : j = i
              · rw [if_pos q, if_pos (by omega)]
              · rw [if_neg q, if_neg (by omega)]
                exact hV2 j (by omega)
          | false =>
            have he : (e, false, upd f' i v) = rdA tx len (tx a) (argF (tx a)) 0 (a + 1) f := he
            have eO : rdO tx len a f = (e, false, 0, upd f' i v) := by
              rw [rdO, if_pos ha, if_neg c0, ← he]
              rfl
            have D := fun v2 v3 => ro_D ho hP (by rw [eO]) e e _ v2 v3 h3 (by omega) (by omega) (by rw [eO]) w196 w210 w211 fr3
            refine AW.iinc1 85 dX8_readOrder_82 rfl (by rfl) rfl ?_
            refine AW.goto 36 dX8_readOrder_85 (by decide) ?_
            refine AW.iload_n 37 dX8_readOrder_36 rfl (by rfl) ?_
            refine AW.iload_n 38 dX8_readOrder_37 rfl (by rfl) ?_
            refine AW.nge 88 41 dX8_readOrder_38 (by decide) rfl (by omega) (by omega) (fun c6 => ?_) (fun c6 => ?_)
            · exact D _ _
            · refine AW.aload_n 42 dX8_readOrder_41 rfl (by rfl) ?_
              refine AW.getfield 45 dX8_readOrder_42 rfl fl_X8_225 (by assumption) (by rfl) ?_
              refine AW.iconst 46 dX8_readOrder_45 rfl (-1) rfl ?_
              refine AW.icmp_ne 88 49 dX8_readOrder_46 (by decide) rfl (fun c7 => ?_) (fun c7 => ?_)
              · exact D _ _
              · exact absurd c7 (flt_ne (by omega))
        refine AW.nne 77 68 dX8_readOrder_65 (by decide) rfl (by omega) (by omega) (fun c4 => ?_) (fun c4 => ?_)
        · refine AW.iconst 78 dX8_readOrder_77 rfl (nI 0) rfl ?_
          exact J false (by rw [decide_eq_false c4]; rfl)
        · refine AW.iload_n 69 dX8_readOrder_68 rfl (by rfl) ?_
          refine AW.iconst 70 dX8_readOrder_69 rfl (nI 1) rfl ?_
          refine AW.nne 77 73 dX8_readOrder_70 (by decide) rfl (by omega) (by omega) (fun c5 => ?_) (fun c5 => ?_)
          · refine AW.iconst 78 dX8_readOrder_77 rfl (nI 0) rfl ?_
            exact J false (by rw [decide_eq_false c5, Bool.and_false])
          · refine AW.iconst 74 dX8_readOrder_73 rfl (nI 1) rfl ?_
            refine AW.goto 78 dX8_readOrder_74 (by decide) ?_
            exact J true (by rw [decide_eq_true c4, decide_eq_true c5]; rfl)
theorem r_readOrder {o : Nat} {lt vl f : Nat → Int32} (x196 : h 196 = modO ps (nI len) la ma (nI a) (fltI none) (nI o) d) (x201 : h 201 = iA 120 tx) (x210 : h 210 = .inl (0, (60, .inl lt))) (x211 : h 211 = .inl (0, (180, .inl vl))) (hl : len ≤ 120) (ht : ∀ i, tx i < 128) (ha : a < len) (hsk : skF tx len a = a) (ho : o < 41) (hP : ∀ h', RoQ h' ps la ma d len o lt vl (rdO tx len a f) → (∀ z, z ≠ 196 → z ≠ 210 → z ≠ 211 → h' z = h z) → P none N h') : AM X8_readOrder [.ref 196] N h P := by
  have hta := ht a
  refine AM.of0 rfl (Nat.le_of_ble_eq_true rfl) rfl [some (.ref 196), none, none, none] rfl ?_
  refine AW.aload_n 1 dX8_readOrder_0 rfl (by rfl) ?_
  refine AW.cV0 4 dX8_readOrder_1 rfl mi_X8_here mv_X8_here lk_X8_235 ⟨(Nat.le_of_ble_eq_true rfl), (Nat.le_of_ble_eq_true rfl)⟩ rfl (by assumption) rfl (Nat.le_of_ble_eq_true rfl) (r_hereK x196 x201 hl ht (by omega) ?_)
  rw [hsk, prI, if_pos ha, hs_self x196]
  refine AW.istore_n 5 dX8_readOrder_4 rfl (Nat.le_of_ble_eq_true rfl) rfl ?_
  refine AW.iload_n 6 dX8_readOrder_5 rfl (by rfl) ?_
  refine AW.cS1 9 dX8_readOrder_6 rfl mi_X8_numbersOf ms_X8_numbersOf lk_X8_241 ⟨(Nat.le_of_ble_eq_true rfl), (Nat.le_of_ble_eq_true rfl)⟩ rfl (Nat.le_of_ble_eq_true rfl) (r_numbersOf hta ?_)
  by_cases c0 : argF (tx a) = 0
  · rw [if_pos c0]
    have eO : rdO tx len a f = (a, false, 0, f) := by rw [rdO, if_pos ha, if_pos c0]
    refine AW.istore_n 10 dX8_readOrder_9 rfl (Nat.le_of_ble_eq_true rfl) rfl ?_
    refine AW.aload_n 11 dX8_readOrder_10 rfl (by rfl) ?_
    refine AW.iload_n 12 dX8_readOrder_11 rfl (by rfl) ?_
    refine AW.iconst 13 dX8_readOrder_12 rfl (-1) rfl ?_
    refine AW.icmp_eq 20 16 dX8_readOrder_13 (by decide) rfl (fun c => ?_) (fun c => ?_)
    · refine AW.iconst 21 dX8_readOrder_20 rfl (nI 0) rfl ?_
      refine AW.cV1 24 dX8_readOrder_21 rfl mi_X8_must mv_X8_must lk_X8_231 ⟨(Nat.le_of_ble_eq_true rfl), (Nat.le_of_ble_eq_true rfl)⟩ rfl (by assumption) rfl (Nat.le_of_ble_eq_true rfl) (r_mustK (b := false) (f := none) x196 (by omega) (fun e q => by cases q) ?_)
      refine AW.heap (hs h 196 (modO ps (nI len) la ma (nI a) (fltI (some a)) (nI o) d)) rfl ?_
      have y196 := hs_eq h 196 (modO ps (nI len) la ma (nI a) (fltI (some a)) (nI o) d)
      refine AW.aload_n 25 dX8_readOrder_24 rfl (by rfl) ?_
      refine AW.dup 26 dX8_readOrder_25 rfl rfl ?_
      refine AW.getfield 29 dX8_readOrder_26 rfl fl_X8_222 (by assumption) (by rfl) ?_
      refine AW.iconst 30 dX8_readOrder_29 rfl (nI 1) rfl ?_
      first | refine AW.iaddN 31 dX8_readOrder_30 rfl ?_ | refine AW.iadd 31 dX8_readOrder_30 rfl ?_
      refine AW.putfield 34 dX8_readOrder_31 rfl fl_X8_222 (by assumption) (Nat.le_of_ble_eq_true rfl) (fun _ => ⟨rfl, rfl⟩) ?_
      refine AW.heap (hs h 196 (modO ps (nI len) la ma (nI (a + 1)) (fltI (some a)) (nI o) d)) (by rw [hs_hs]; rfl) ?_
      refine AW.iconst 35 dX8_readOrder_34 rfl (nI 0) rfl ?_
      refine AW.istore_n 36 dX8_readOrder_35 rfl (Nat.le_of_ble_eq_true rfl) rfl ?_
      refine AW.iload_n 37 dX8_readOrder_36 rfl (by rfl) ?_
      refine AW.iload_n 38 dX8_readOrder_37 rfl (by rfl) ?_
      refine AW.icmp_ge 88 41 dX8_readOrder_38 (by decide) rfl (fun c2 => ?_) (fun c2 => ?_)
      · exact ro_D ho hP (by rw [eO]) a (a + 1) vl _ _ _ (by omega) (by omega) (by rw [eO]) (hs_eq _ _ _) (by rw [hs_ne (by decide), x210]) (by rw [hs_ne (by decide), x211]) (fun z a b c => hs_ne a)
      · exact absurd (by decide) c2
    · exact absurd rfl c
  · rw [if_neg c0]
    have hal := argF_le (tx a)
    refine AW.istore_n 10 dX8_readOrder_9 rfl (Nat.le_of_ble_eq_true rfl) rfl ?_
    refine AW.aload_n 11 dX8_readOrder_10 rfl (by rfl) ?_
    refine AW.iload_n 12 dX8_readOrder_11 rfl (by rfl) ?_
    refine AW.iconst 13 dX8_readOrder_12 rfl (-1) rfl ?_
    refine AW.icmp_eq 20 16 dX8_readOrder_13 (by decide) rfl (fun c => ?_) (fun c => ?_)
    · exfalso
      have := congrArg Int32.toInt c
      rw [nI_toInt (by omega), show (-1 : Int32).toInt = -1 from rfl] at this
      omega
    · refine AW.iconst 17 dX8_readOrder_16 rfl (nI 1) rfl ?_
      refine AW.goto 21 dX8_readOrder_17 (by decide) ?_
      refine AW.cV1 24 dX8_readOrder_21 rfl mi_X8_must mv_X8_must lk_X8_231 ⟨(Nat.le_of_ble_eq_true rfl), (Nat.le_of_ble_eq_true rfl)⟩ rfl (by assumption) rfl (Nat.le_of_ble_eq_true rfl) (r_mustK (b := true) (f := none) x196 (by omega) (fun e q => by cases q) ?_)
      refine AW.heap h (hs_self x196) ?_
      refine AW.aload_n 25 dX8_readOrder_24 rfl (by rfl) ?_
      refine AW.dup 26 dX8_readOrder_25 rfl rfl ?_
      refine AW.getfield 29 dX8_readOrder_26 rfl fl_X8_222 (by assumption) (by rfl) ?_
      refine AW.iconst 30 dX8_readOrder_29 rfl (nI 1) rfl ?_
      first | refine AW.iaddN 31 dX8_readOrder_30 rfl ?_ | refine AW.iadd 31 dX8_readOrder_30 rfl ?_
      refine AW.putfield 34 dX8_readOrder_31 rfl fl_X8_222 (by assumption) (Nat.le_of_ble_eq_true rfl) (fun _ => ⟨rfl, rfl⟩) ?_
      refine AW.heap (hs h 196 (modO ps (nI len) la ma (nI (a + 1)) (fltI none) (nI o) d)) rfl ?_
      refine AW.iconst 35 dX8_readOrder_34 rfl (nI 0) rfl ?_
      refine AW.istore_n 36 dX8_readOrder_35 rfl (Nat.le_of_ble_eq_true rfl) rfl ?_
      exact ro_L x201 hl ht ha c0 ho hP (argF (tx a)) 0 (a + 1) f vl _ (by omega) (by omega) (hs_eq _ _ _) (by rw [hs_ne (by decide), x210]) (by rw [hs_ne (by decide), x211]) (fun z a b c => hs_ne a) (fun _ _ => rfl) (fun j hj => by omega) rfl
end REFW
