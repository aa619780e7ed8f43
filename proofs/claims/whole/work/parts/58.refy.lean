/-! THE MODEL, thirty-fifth part: does() -/
def rnM (lt : Nat → Int32) (vl : Nat → Nat → Int32) : Nat → Nat → aS → Option Nat × aS
  | 0, _, σ => (none, σ)
  | k + 1, i, σ => if (carM σ (cl (lt i)) (vl i)).1 < 0 then (some i, σ) else rnM lt vl k (i + 1) (carM σ (cl (lt i)) (vl i)).2
def doM (X : aX) (t : Option Nat × Nat × (Nat → Int32) × (Nat → Nat → Int32)) : Int32 × aX := match t.1 with
  | some e => (-10 - nI e, X)
  | none => match (rnM t.2.2.1 t.2.2.2 t.2.1 0 X.1).1 with
    | some i => (-1000 - nI i, X)
    | none => (nI t.2.1, ((rnM t.2.2.1 t.2.2.2 t.2.1 0 X.1).2, psU X.2.1 X.1, X.2.2))
section REFY
variable {N n : Nat} {h : aH} {P : aP} {X : aX}
theorem skF_idem {tx : Nat → Nat} {len a : Nat} (ha : a ≤ len) : skF tx len (skF tx len a) = skF tx len a := by
  have : ∀ k a, a + k = len → skF tx len (skF tx len a) = skF tx len a := by
    intro k
    induction k with
    | zero =>
      intro a hk
      rcases @skF_stop tx len a (by omega) with e | e
      · rw [e, e]
      · omega
    | succ k ih =>
      intro a hk
      rcases @skF_stop tx len a (by omega) with e | ⟨e1, e2, e3⟩
      · rw [e, e]
      · rw [e3]; exact ih (a + 1) (by omega)
  exact this (len - a) a (by omega)
theorem prI_m1 {tx : Nat → Nat} {len a : Nat} (ht : ∀ i, tx i < 128) (ha : a ≤ len) : prI tx len a = -1 ↔ a = len := by
  unfold prI
  have := ht a
  by_cases c : a < len
  · rw [if_pos c]
    constructor
    · intro q
      have := congrArg Int32.toInt q
      rw [nI_toInt (by omega), show (-1 : Int32).toInt = -1 from rfl] at this
      omega
    · intro q; omega
  · rw [if_neg c]
    exact ⟨fun _ => by omega, fun _ => rfl⟩
/-- the orders carried out, from the i-th one on -/
theorem do_E {fd : Nat} {lt : Nat → Int32} {vl : Nat → Nat → Int32} {Lm V : Nat → Int32} (w : WfS X.1) (hfd : fd ≤ 40) (hL : ∀ i, i < fd → ltG (lt i)) (eL : ∀ i, i < fd → Lm i = lt i) (eV : ∀ i, i < fd → ∀ k, k < argF (cl (lt i)) → V (3 * i + k) = vl i k) (hP : ∀ h', RfAt h' (doM X (none, fd, lt, vl)).2 → FrR h h' → P (some (.int (doM X (none, fd, lt, vl)).1)) N h') : ∀ k i τ, i + k = fd → ∀ h3, RfAt h3 (τ, X.2) → HldAt h3 X.1 → (∃ ps ty la ma at_ fa d, h3 196 = modO ps ty la ma at_ fa (nI fd) d) → h3 210 = .inl (0, (60, .inl Lm)) → h3 211 = .inl (0, (180, .inl V)) → FrR h h3 → rnM lt vl k i τ = rnM lt vl fd 0 X.1 → ∀ v2, AW X8_does 77 [some (.ref 196), some (.int (nI i)), v2] [] N (0, 0) h3 P := by
  intro k
  induction k with
  | zero =>
    intro i τ hi h3 K3 H3 ⟨ps, ty, la, ma, at_, fa, d, y196⟩ y210 y211 F3 he v2
    have he : (none, τ) = rnM lt vl fd 0 X.1 := he
    have eR : doM X (none, fd, lt, vl) = (nI fd, (τ, psU X.2.1 X.1, X.2.2)) := by
      unfold doM
      dsimp only
      rw [← he]
    rw [eR] at hP
    refine AW.iload_n 78 dX8_does_77 rfl (by rfl) ?_
    refine AW.aload_n 79 dX8_does_78 rfl (by rfl) ?_
    refine AW.getfield 82 dX8_does_79 rfl fl_X8_244 (by assumption) (by rfl) ?_
    refine AW.nge 131 85 dX8_does_82 (by decide) rfl (by omega) (by omega) (fun c => ?_) (fun c => ?_)
    · refine AW.aload_n 132 dX8_does_131 rfl (by rfl) ?_
      refine AW.cV0 135 dX8_does_132 rfl mi_X8_push mv_X8_push lk_X8_134 ⟨(Nat.le_of_ble_eq_true rfl), (Nat.le_of_ble_eq_true rfl)⟩ rfl (by assumption) rfl (Nat.le_of_ble_eq_true rfl) (r_pushO K3 H3 w ?_)
      intro h4 K4 F4 o4
      obtain ⟨_, _, _, _, z196⟩ := o4 _ _ _ _ ⟨_, _, _, _, y196⟩
      refine AW.aload_n 136 dX8_does_135 rfl (by rfl) ?_
      refine AW.getfield 139 dX8_does_136 rfl fl_X8_244 (by assumption) (by rfl) ?_
      refine AW.iret dX8_does_139 rfl ?_
      exact hP h4 K4 (FrR.trans F3 F4)
    · omega
  | succ k ih =>
    intro i τ hi h3 K3 H3 ⟨ps, ty, la, ma, at_, fa, d, y196⟩ y210 y211 F3 he v2
    obtain ⟨L, eLL, hLL⟩ := hL i (by omega)
    rw [rnM, eLL, cl_nI (by omega)] at he
    have eVi := eV i (by omega)
    rw [eLL, cl_nI (by omega)] at eVi
    refine AW.iload_n 78 dX8_does_77 rfl (by rfl) ?_
    refine AW.aload_n 79 dX8_does_78 rfl (by rfl) ?_
    refine AW.getfield 82 dX8_does_79 rfl fl_X8_244 (by assumption) (by rfl) ?_
    refine AW.nge 131 85 dX8_does_82 (by decide) rfl (by omega) (by omega) (fun c => ?_) (fun c => ?_)
    · omega
    · refine AW.aload_n 86 dX8_does_85 rfl (by rfl) ?_
      refine AW.iload_n 87 dX8_does_86 rfl (by rfl) ?_
      refine AW.cV1 90 dX8_does_87 rfl mi_X8_doOrder mv_X8_doOrder lk_X8_254 ⟨(Nat.le_of_ble_eq_true rfl), (Nat.le_of_ble_eq_true rfl)⟩ rfl (by assumption) rfl (Nat.le_of_ble_eq_true rfl) (r_doOrder K3 y210 y211 (by omega) ((eL i (by omega)).trans eLL) hLL eVi ?_)
      intro h4 K4 F4
      refine AW.if_ge 125 93 dX8_does_90 (by decide) rfl (fun c2 => ?_) (fun c2 => ?_)
      · rw [if_neg (Int32.not_lt.mpr c2)] at he
        obtain ⟨_, _, _, _, z196⟩ := F4.2 _ _ _ _ ⟨_, _, _, _, y196⟩
        refine AW.iinc1 128 dX8_does_125 rfl (by rfl) rfl ?_
        refine AW.goto 77 dX8_does_128 (by decide) ?_
        exact ih (i + 1) _ (by omega) h4 K4 (H3.m F4) ⟨_, _, _, _, _, _, _, z196⟩ (by rw [F4.1 _ (by omega), y210]) (by rw [F4.1 _ (by omega), y211]) (FrR.trans F3 F4.c) he _
      · rw [if_pos (Int32.not_le.mp c2)] at he
        have eR : doM X (none, fd, lt, vl) = (-1000 - nI i, X) := by
          unfold doM
          dsimp only
          rw [← he]
        rw [eR] at hP
        have K4' : RfAt h4 ((carM τ L (vl i)).2, X.2) := K4
        obtain ⟨_, _, _, _, _, _, z196, -⟩ := id K4'.1
        have z197 : h4 197 = .inl (0, (15, .inl (nowF (carM τ L (vl i)).2))) := K4'.2.1
        obtain ⟨q, z198, hq⟩ := H3.m F4
        refine AW.iconst 94 dX8_does_93 rfl (nI 0) rfl ?_
        refine AW.istore_n 95 dX8_does_94 rfl (Nat.le_of_ble_eq_true rfl) rfl ?_
        have M : ∀ k x, x + k = 15 → AW X8_does 95 [some (.ref 196), some (.int (nI i)), some (.int (nI x))] [] N (0, 0) (hs h4 197 (.inl (0, (15, .inl (fun j => if j < x then nowF X.1 j else nowF (carM τ L (vl i)).2 j))))) P := by
          intro k
          induction k with
          | zero =>
            intro x hx
            refine AW.iload_n 96 dX8_does_95 rfl (by rfl) ?_
            refine AW.bipush 98 dX8_does_96 rfl (nI 15) rfl ?_
            refine AW.nge 119 101 dX8_does_98 (by decide) rfl (by omega) (by omega) (fun c3 => ?_) (fun c3 => ?_)
            · refine AW.sipush 122 dX8_does_119 rfl (-1000) rfl ?_
              refine AW.iload_n 123 dX8_does_122 rfl (by rfl) ?_
              refine AW.isub 124 dX8_does_123 rfl ?_
              refine AW.iret dX8_does_124 rfl ?_
              rw [show (fun j => if j < x then nowF X.1 j else nowF (carM τ L (vl i)).2 j) = nowF X.1 from funext fun j => by
                by_cases e : j < x
                · rw [if_pos e]
                · rw [if_neg e]
                  have a1 : ¬ j = 0 := by omega
                  have a2 : ¬ j < 7 := by omega
                  have a3 : ¬ j < 15 := by omega
                  simp [nowF, a1, a2, a3]]
              exact hP _ (K4'.n197 w) (FrR.hs (FrR.trans F3 F4.c) (by decide))
            · omega
          | succ k ih =>
            intro x hx
            have u196 := at_ne (a := 197) (e := (.inl (0, (15, .inl (fun j => if j < x then nowF X.1 j else nowF (carM τ L (vl i)).2 j))) : aE)) z196 (by decide)
            have u198 := at_ne (a := 197) (e := (.inl (0, (15, .inl (fun j => if j < x then nowF X.1 j else nowF (carM τ L (vl i)).2 j))) : aE)) z198 (by decide)
            have u197 := hs_eq h4 197 (.inl (0, (15, .inl (fun j => if j < x then nowF X.1 j else nowF (carM τ L (vl i)).2 j))) : aE)
            refine AW.iload_n 96 dX8_does_95 rfl (by rfl) ?_
            refine AW.bipush 98 dX8_does_96 rfl (nI 15) rfl ?_
            refine AW.nge 119 101 dX8_does_98 (by decide) rfl (by omega) (by omega) (fun c3 => ?_) (fun c3 => ?_)
            · omega
            · refine AW.aload_n 102 dX8_does_101 rfl (by rfl) ?_
              refine AW.getfield 105 dX8_does_102 rfl fl_X8_7 (by assumption) (by rfl) ?_
              refine AW.iload_n 106 dX8_does_105 rfl (by rfl) ?_
              refine AW.aload_n 107 dX8_does_106 rfl (by rfl) ?_
              refine AW.getfield 110 dX8_does_107 rfl fl_X8_13 (by assumption) (by rfl) ?_
              refine AW.iload_n 111 dX8_does_110 rfl (by rfl) ?_
              refine AW.iaload 112 _ dX8_does_111 rfl (by assumption) (by first | exact Or.inl rfl | exact Or.inr rfl) (ix_nI (by omega)) (by omega) ?_
              rw [hq x (by omega)]
              refine AW.iastore 113 _ dX8_does_112 rfl (by assumption) (ix_nI (by omega)) (by omega) ?_
              refine AW.iinc1 116 dX8_does_113 rfl (by rfl) rfl ?_
              refine AW.goto 95 dX8_does_116 (by decide) ?_
              rw [hs_hs, show upd (fun j => if j < x then nowF X.1 j else nowF (carM τ L (vl i)).2 j) x (nowF X.1 x) = (fun j => if j < x + 1 then nowF X.1 j else nowF (carM τ L (vl i)).2 j) from funext fun j => by
                show (if j = x then nowF X.1 x else if j < x then nowF X.1 j else nowF (carM τ L (vl i)).2 j) = if j < x + 1 then nowF X.1 j else nowF (carM τ L (vl i)).2 j
                by_cases e : j = x
                · rw [if_pos e, if_pos (by omega), e]
                · rw [if_neg e]
                  by_cases e2 : j < x
                  · rw [if_pos e2, if_pos (by omega)]
                  · rw [if_neg e2, if_neg (by omega)]]
              exact ih (x + 1) (by omega)
        have := M 15 0 (by omega)
        rw [show (fun j => if j < 0 then nowF X.1 j else nowF (carM τ L (vl i)).2 j) = nowF (carM τ L (vl i)).2 from funext fun j => by simp, hs_self z197] at this
        exact this
theorem do_F {e : Nat} {t : Option Nat × Nat × (Nat → Int32) × (Nat → Nat → Int32)} (et : t.1 = some e) (hP : ∀ h', RfAt h' (doM X t).2 → FrR h h' → P (some (.int (doM X t).1)) N h') (he : e < 900) : ∀ h1 ps ty la ma at_ od d v1 v2, h1 196 = modO ps ty la ma at_ (fltI (some e)) od d → RfAt h1 X → FrR h h1 → AW X8_does 55 [some (.ref 196), v1, v2] [] N (0, 0) h1 P := by
  intro h1 ps ty la ma at_ od d v1 v2 y196 K1 F1
  have eR : doM X t = (-10 - nI e, X) := by
    unfold doM
    rw [et]
  rw [eR] at hP
  refine AW.aload_n 56 dX8_does_55 rfl (by rfl) ?_
  refine AW.getfield 59 dX8_does_56 rfl fl_X8_225 (by assumption) (by rfl) ?_
  refine AW.iconst 60 dX8_does_59 rfl (-1) rfl ?_
  refine AW.icmp_eq 71 63 dX8_does_60 (by decide) rfl (fun c => ?_) (fun c => ?_)
  · exact absurd c (flt_ne (by omega))
  · refine AW.bipush 65 dX8_does_63 rfl (-10) rfl ?_
    refine AW.aload_n 66 dX8_does_65 rfl (by rfl) ?_
    refine AW.getfield 69 dX8_does_66 rfl fl_X8_225 (by assumption) (by rfl) ?_
    refine AW.isub 70 dX8_does_69 rfl ?_
    refine AW.iret dX8_does_70 rfl ?_
    exact hP h1 K1 F1
/-- the orders read, from the i-th one on -/
theorem do_L {lt0 : Nat → Int32} {vl0 : Nat → Nat → Int32} (K : RfAt h X) {ps la ma at0 fa0 od0 : Int32} {d0 d : Int64} (x196 : h 196 = modO ps (nI X.2.2.2.2) la ma at0 fa0 od0 d0) (hP : ∀ h', RfAt h' (doM X (rdT X.2.2.2.1 X.2.2.2.2 lt0 vl0)).2 → FrR h h' → P (some (.int (doM X (rdT X.2.2.2.1 X.2.2.2.2 lt0 vl0)).1)) N h') : ∀ k i b lt vl Lm V h1, i + k = 41 → b ≤ X.2.2.2.2 → 3 * i ≤ b → (i = 0 → skF X.2.2.2.1 X.2.2.2.2 b < X.2.2.2.2) → h1 196 = modO ps (nI X.2.2.2.2) la ma (nI b) (fltI none) (nI i) d → h1 210 = .inl (0, (60, .inl Lm)) → h1 211 = .inl (0, (180, .inl V)) → (∀ z, z ≠ 196 → z ≠ 210 → z ≠ 211 → h1 z = h z) → (∀ j, j < i → ltG (lt j)) → (∀ j, j < i → Lm j = lt j) → (∀ j, j < i → ∀ k, k < argF (cl (lt j)) → V (3 * j + k) = vl j k) → rdP X.2.2.2.1 X.2.2.2.2 k (skF X.2.2.2.1 X.2.2.2.2 b) i lt vl = rdP X.2.2.2.1 X.2.2.2.2 41 (skF X.2.2.2.1 X.2.2.2.2 0) 0 lt0 vl0 → AW X8_does 32 [some (.ref 196), none, none] [] N (0, 0) h1 P := by
  have x201 := K.2.2.2.2.1
  obtain ⟨hl, ht⟩ := K.2.2.2.2.2.1
  have w := K.2.2.2.2.2.2.2.2
  intro k
  induction k with
  | zero =>
    intro i b lt vl Lm V h1 hi hb h3 _ _ _ _ _ _ _ _ _
    omega
  | succ k ih =>
    intro i b lt vl Lm V h1 hi hb h3 hb0 y196 y210 y211 fr hG eL eV he
    have y201 := (fr 201 (by decide) (by decide) (by decide)).trans x201
    have hs1 := skF_le (tx := X.2.2.2.1) hb
    have hs2 := skF_ge (tx := X.2.2.2.1) (len := X.2.2.2.2) b
    refine AW.aload_n 33 dX8_does_32 rfl (by rfl) ?_
    refine AW.getfield 36 dX8_does_33 rfl fl_X8_225 (by assumption) (by rfl) ?_
    refine AW.iconst 37 dX8_does_36 rfl (-1) rfl ?_
    refine AW.icmp_ne 55 40 dX8_does_37 (by decide) rfl (fun c => ?_) (fun c => ?_)
    · exact absurd rfl c
    · refine AW.aload_n 41 dX8_does_40 rfl (by rfl) ?_
      refine AW.cV0 44 dX8_does_41 rfl mi_X8_here mv_X8_here lk_X8_235 ⟨(Nat.le_of_ble_eq_true rfl), (Nat.le_of_ble_eq_true rfl)⟩ rfl (by assumption) rfl (Nat.le_of_ble_eq_true rfl) (r_hereK y196 y201 hl ht hb ?_)
      have z196 := hs_eq h1 196 (modO ps (nI X.2.2.2.2) la ma (nI (skF X.2.2.2.1 X.2.2.2.2 b)) (fltI none) (nI i) d)
      have z210 := at_ne (a := 196) (e := modO ps (nI X.2.2.2.2) la ma (nI (skF X.2.2.2.1 X.2.2.2.2 b)) (fltI none) (nI i) d) y210 (by decide)
      have z211 := at_ne (a := 196) (e := modO ps (nI X.2.2.2.2) la ma (nI (skF X.2.2.2.1 X.2.2.2.2 b)) (fltI none) (nI i) d) y211 (by decide)
      have fr2 : ∀ z, z ≠ 196 → z ≠ 210 → z ≠ 211 → hs h1 196 (modO ps (nI X.2.2.2.2) la ma (nI (skF X.2.2.2.1 X.2.2.2.2 b)) (fltI none) (nI i) d) z = h z := fun z a b c => by rw [hs_ne a, fr z a b c]
      generalize hs h1 196 (modO ps (nI X.2.2.2.2) la ma (nI (skF X.2.2.2.1 X.2.2.2.2 b)) (fltI none) (nI i) d) = h2 at z196 z210 z211 fr2 ⊢
      have K2 : RfAt h2 X := K.prs x196 z196 fr2 ⟨_, z210⟩ ⟨_, z211⟩
      have F2 : FrR h h2 := fun z hz => fr2 z (by omega) (by omega) (by omega)
      refine AW.iconst 45 dX8_does_44 rfl (-1) rfl ?_
      refine AW.icmp_eq 55 48 dX8_does_45 (by decide) rfl (fun c2 => ?_) (fun c2 => ?_)
      · have hend := (prI_m1 ht hs1).mp c2
        rw [rdP, if_neg (by omega)] at he
        have h0 : 0 < i := by
          rcases Nat.eq_zero_or_pos i with q | q
          · have := hb0 q; omega
          · exact q
        have eT : rdT X.2.2.2.1 X.2.2.2.2 lt0 vl0 = (none, i, lt, vl) := by
          rw [rdT, ← he]
          dsimp only
          rw [if_pos h0]
        rw [eT] at hP
        refine AW.aload_n 56 dX8_does_55 rfl (by rfl) ?_
        refine AW.getfield 59 dX8_does_56 rfl fl_X8_225 (by assumption) (by rfl) ?_
        refine AW.iconst 60 dX8_does_59 rfl (-1) rfl ?_
        refine AW.icmp_eq 71 63 dX8_does_60 (by decide) rfl (fun c3 => ?_) (fun c3 => ?_)
        · refine AW.aload_n 72 dX8_does_71 rfl (by rfl) ?_
          refine AW.cV0 75 dX8_does_72 rfl mi_X8_hold mv_X8_hold lk_X8_137 ⟨(Nat.le_of_ble_eq_true rfl), (Nat.le_of_ble_eq_true rfl)⟩ rfl (by assumption) rfl (Nat.le_of_ble_eq_true rfl) (r_hold K2 ?_)
          intro h4 K4 H4 f4
          refine AW.iconst 76 dX8_does_75 rfl (nI 0) rfl ?_
          refine AW.istore_n 77 dX8_does_76 rfl (Nat.le_of_ble_eq_true rfl) rfl ?_
          exact do_E (h := h) w (by omega) hG eL eV hP i 0 X.1 (by omega) h4 K4 H4 ⟨_, _, _, _, _, _, _, by rw [f4 _ (by decide), z196]⟩ (by rw [f4 _ (by decide), z210]) (by rw [f4 _ (by decide), z211]) (FrR.trans F2 (fun z hz => f4 z (by omega))) rfl _
        · exact absurd rfl c3
      · have hlt : skF X.2.2.2.1 X.2.2.2.2 b < X.2.2.2.2 := Nat.lt_of_le_of_ne hs1 (fun q => c2 ((prI_m1 ht hs1).mpr q))
        rw [rdP, if_pos hlt] at he
        dsimp only at he
        have y201 := (fr2 201 (by decide) (by decide) (by decide)).trans x201
        refine AW.aload_n 49 dX8_does_48 rfl (by rfl) ?_
        refine AW.cV0 52 dX8_does_49 rfl mi_X8_readOrder mv_X8_readOrder lk_X8_251 ⟨(Nat.le_of_ble_eq_true rfl), (Nat.le_of_ble_eq_true rfl)⟩ rfl (by assumption) rfl (Nat.le_of_ble_eq_true rfl) (r_readOrder (f := vl i) z196 y201 z210 z211 hl ht hlt (skF_idem hb) (by omega) ?_)
        intro h4 Q f4
        have hle := rdO_le (tx := X.2.2.2.1) (f := vl i) (Nat.le_of_lt hlt)
        have f5 : ∀ z, z ≠ 196 → z ≠ 210 → z ≠ 211 → h4 z = h z := fun z a b c => by rw [f4 z a b c, fr2 z a b c]
        rcases c3 : (rdO X.2.2.2.1 X.2.2.2.2 (skF X.2.2.2.1 X.2.2.2.2 b) (vl i)).2.1
        · obtain ⟨_, _, _, _, q1, q2, q3⟩ := Q.2 c3
          rw [c3] at he
          have he : (some (rdO X.2.2.2.1 X.2.2.2.2 (skF X.2.2.2.1 X.2.2.2.2 b) (vl i)).1, i, lt, upW vl i (rdO X.2.2.2.1 X.2.2.2.2 (skF X.2.2.2.1 X.2.2.2.2 b) (vl i)).2.2.2) = rdP X.2.2.2.1 X.2.2.2.2 41 (skF X.2.2.2.1 X.2.2.2.2 0) 0 lt0 vl0 := he
          have eT : (rdT X.2.2.2.1 X.2.2.2.2 lt0 vl0).1 = some (rdO X.2.2.2.1 X.2.2.2.2 (skF X.2.2.2.1 X.2.2.2.2 b) (vl i)).1 := by
            rw [rdT, ← he]
          refine AW.goto 32 dX8_does_52 (by decide) ?_
          refine AW.aload_n 33 dX8_does_32 rfl (by rfl) ?_
          refine AW.getfield 36 dX8_does_33 rfl fl_X8_225 (by assumption) (by rfl) ?_
          refine AW.iconst 37 dX8_does_36 rfl (-1) rfl ?_
          refine AW.icmp_ne 55 40 dX8_does_37 (by decide) rfl (fun c4 => ?_) (fun c4 => ?_)
          · exact do_F (h := h) eT hP (by omega) h4 _ _ _ _ _ _ _ _ _ q1 (K.prs x196 q1 f5 ⟨_, q2⟩ ⟨_, q3⟩) (fun z hz => f5 z (by omega) (by omega) (by omega))
          · exact absurd c4 (flt_ne (by omega))
        · obtain ⟨q1, q2, V', q3, q4, q5⟩ := Q.1 c3
          rw [c3, if_pos rfl] at he
          have hadv := rdO_adv c3
          have hG1 := argF_ltG (rdO_arg c3)
          have hcl : cl (nI (rdO X.2.2.2.1 X.2.2.2.2 (skF X.2.2.2.1 X.2.2.2.2 b) (vl i)).2.2.1) = (rdO X.2.2.2.1 X.2.2.2.2 (skF X.2.2.2.1 X.2.2.2.2 b) (vl i)).2.2.1 := by
            refine cl_nI ?_
            have := rdO_arg c3
            unfold argF at this
            split at this
            · omega
            · split at this
              · omega
              · split at this
                · omega
                · exact absurd rfl this
          refine AW.goto 32 dX8_does_52 (by decide) ?_
          refine ih (i + 1) _ _ _ _ V' h4 (by omega) hle.2.1 (by omega) (fun q => by omega) q1 q2 q3 f5 (fun j hj => ?_) (fun j hj => ?_) (fun j hj k hk => ?_) he
          · unfold upd
            by_cases q : j = i
            · rw [if_pos q]; exact hG1
            · rw [if_neg q]; exact hG j (by omega)
          · unfold upd
            by_cases q : j = i
            · rw [if_pos q, if_pos q]
            · rw [if_neg q, if_neg q]; exact eL j (by omega)
          · by_cases q : j = i
            · subst q
              rw [upd, if_pos rfl, hcl] at hk
              rw [upW, if_pos rfl]
              exact q5 k hk
            · rw [upd, if_neg q] at hk
              rw [upW, if_neg q]
              obtain ⟨L, eLL, hLL⟩ := hG j (by omega)
              have hk3 := hk
              have := argF_le (cl (lt j))
              rw [q4 (3 * j + k) (by omega)]
              exact eV j (by omega) k hk
theorem r_does {lt0 : Nat → Int32} {vl0 : Nat → Nat → Int32} (K : RfAt h X) (hP : ∀ h', RfAt h' (doM X (rdT X.2.2.2.1 X.2.2.2.2 lt0 vl0)).2 → FrR h h' → P (some (.int (doM X (rdT X.2.2.2.1 X.2.2.2.2 lt0 vl0)).1)) N h') : AM X8_does [.ref 196] N h P := by
  obtain ⟨la, ma, at_, fa, od, d, x196, -⟩ := id K.1
  have x201 := K.2.2.2.2.1
  obtain ⟨hl, ht⟩ := K.2.2.2.2.2.1
  obtain ⟨-, -, -, -, -, -, ⟨Lm, x210⟩, ⟨V, x211⟩⟩ := K.2.2.2.2.2.2.2.1
  refine AM.of0 rfl (Nat.le_of_ble_eq_true rfl) rfl [some (.ref 196), none, none] rfl ?_
  refine AW.aload_n 1 dX8_does_0 rfl (by rfl) ?_
  refine AW.iconst 2 dX8_does_1 rfl (nI 0) rfl ?_
  refine AW.putfield 5 dX8_does_2 rfl fl_X8_222 (by assumption) (Nat.le_of_ble_eq_true rfl) (fun _ => ⟨rfl, rfl⟩) ?_
  refine AW.heap (hs h 196 (modO (nI X.2.1.1) (nI X.2.2.2.2) la ma (nI 0) fa od d)) rfl ?_
  have y196 := hs_eq h 196 (modO (nI X.2.1.1) (nI X.2.2.2.2) la ma (nI 0) fa od d)
  refine AW.aload_n 6 dX8_does_5 rfl (by rfl) ?_
  refine AW.iconst 7 dX8_does_6 rfl (-1) rfl ?_
  refine AW.putfield 10 dX8_does_7 rfl fl_X8_225 (by assumption) (Nat.le_of_ble_eq_true rfl) (fun _ => ⟨rfl, rfl⟩) ?_
  refine AW.heap (hs h 196 (modO (nI X.2.1.1) (nI X.2.2.2.2) la ma (nI 0) (fltI none) od d)) (by rw [hs_hs]; rfl) ?_
  have y196 := hs_eq h 196 (modO (nI X.2.1.1) (nI X.2.2.2.2) la ma (nI 0) (fltI none) od d)
  refine AW.aload_n 11 dX8_does_10 rfl (by rfl) ?_
  refine AW.iconst 12 dX8_does_11 rfl (nI 0) rfl ?_
  refine AW.putfield 15 dX8_does_12 rfl fl_X8_244 (by assumption) (Nat.le_of_ble_eq_true rfl) (fun _ => ⟨rfl, rfl⟩) ?_
  refine AW.heap (hs h 196 (modO (nI X.2.1.1) (nI X.2.2.2.2) la ma (nI 0) (fltI none) (nI 0) d)) (by rw [hs_hs]; rfl) ?_
  have y196 := hs_eq h 196 (modO (nI X.2.1.1) (nI X.2.2.2.2) la ma (nI 0) (fltI none) (nI 0) d)
  have y201 := at_ne (a := 196) (e := modO (nI X.2.1.1) (nI X.2.2.2.2) la ma (nI 0) (fltI none) (nI 0) d) x201 (by decide)
  refine AW.aload_n 16 dX8_does_15 rfl (by rfl) ?_
  refine AW.aload_n 17 dX8_does_16 rfl (by rfl) ?_
  refine AW.cV0 20 dX8_does_17 rfl mi_X8_here mv_X8_here lk_X8_235 ⟨(Nat.le_of_ble_eq_true rfl), (Nat.le_of_ble_eq_true rfl)⟩ rfl (by assumption) rfl (Nat.le_of_ble_eq_true rfl) (r_hereK y196 y201 hl ht (Nat.zero_le _) ?_)
  refine AW.heap (hs h 196 (modO (nI X.2.1.1) (nI X.2.2.2.2) la ma (nI (skF X.2.2.2.1 X.2.2.2.2 0)) (fltI none) (nI 0) d)) (hs_hs _ _ _ _) ?_
  have hs1 := skF_le (tx := X.2.2.2.1) (len := X.2.2.2.2) (a := 0) (Nat.zero_le _)
  have z196 := hs_eq h 196 (modO (nI X.2.1.1) (nI X.2.2.2.2) la ma (nI (skF X.2.2.2.1 X.2.2.2.2 0)) (fltI none) (nI 0) d)
  refine AW.iconst 21 dX8_does_20 rfl (-1) rfl ?_
  refine AW.icmp_eq 28 24 dX8_does_21 (by decide) rfl (fun c => ?_) (fun c => ?_)
  · have hend := (prI_m1 ht hs1).mp c
    refine AW.iconst 29 dX8_does_28 rfl (nI 0) rfl ?_
    refine AW.cV1 32 dX8_does_29 rfl mi_X8_must mv_X8_must lk_X8_231 ⟨(Nat.le_of_ble_eq_true rfl), (Nat.le_of_ble_eq_true rfl)⟩ rfl (by assumption) rfl (Nat.le_of_ble_eq_true rfl) (r_mustK (b := false) (f := none) z196 (by omega) (fun e q => by cases q) ?_)
    refine AW.heap (hs h 196 (modO (nI X.2.1.1) (nI X.2.2.2.2) la ma (nI (skF X.2.2.2.1 X.2.2.2.2 0)) (fltI (some (skF X.2.2.2.1 X.2.2.2.2 0))) (nI 0) d)) (hs_hs _ _ _ _) ?_
    have w196 := hs_eq h 196 (modO (nI X.2.1.1) (nI X.2.2.2.2) la ma (nI (skF X.2.2.2.1 X.2.2.2.2 0)) (fltI (some (skF X.2.2.2.1 X.2.2.2.2 0))) (nI 0) d)
    refine AW.aload_n 33 dX8_does_32 rfl (by rfl) ?_
    refine AW.getfield 36 dX8_does_33 rfl fl_X8_225 (by assumption) (by rfl) ?_
    refine AW.iconst 37 dX8_does_36 rfl (-1) rfl ?_
    refine AW.icmp_ne 55 40 dX8_does_37 (by decide) rfl (fun c2 => ?_) (fun c2 => ?_)
    · refine do_F (e := skF X.2.2.2.1 X.2.2.2.2 0) (h := h) ?_ hP (by omega) _ _ _ _ _ _ _ _ _ _ w196 (K.prs x196 w196 (fun z a b c => hs_ne a) ⟨_, by rw [hs_ne (by decide), x210]⟩ ⟨_, by rw [hs_ne (by decide), x211]⟩) (fun z hz => hs_ne (by omega))
      rw [rdT, rdP, if_neg (by omega)]
      dsimp only
      rw [if_neg (by omega), hend]
    · exact absurd c2 (flt_ne (by omega))
  · have hlt : skF X.2.2.2.1 X.2.2.2.2 0 < X.2.2.2.2 := Nat.lt_of_le_of_ne hs1 (fun q => c ((prI_m1 ht hs1).mpr q))
    refine AW.iconst 25 dX8_does_24 rfl (nI 1) rfl ?_
    refine AW.goto 29 dX8_does_25 (by decide) ?_
    refine AW.cV1 32 dX8_does_29 rfl mi_X8_must mv_X8_must lk_X8_231 ⟨(Nat.le_of_ble_eq_true rfl), (Nat.le_of_ble_eq_true rfl)⟩ rfl (by assumption) rfl (Nat.le_of_ble_eq_true rfl) (r_mustK (b := true) (f := none) z196 (by omega) (fun e q => by cases q) ?_)
    refine AW.heap (hs h 196 (modO (nI X.2.1.1) (nI X.2.2.2.2) la ma (nI (skF X.2.2.2.1 X.2.2.2.2 0)) (fltI none) (nI 0) d)) (hs_hs _ _ _ _) ?_
    have he := skF_idem (tx := X.2.2.2.1) (len := X.2.2.2.2) (a := 0) (Nat.zero_le _)
    exact do_L (lt0 := lt0) (vl0 := vl0) K x196 hP 41 0 (skF X.2.2.2.1 X.2.2.2.2 0) lt0 vl0 Lm V _ (by omega) hs1 (by omega) (fun _ => by rw [he]; exact hlt) z196 (by rw [hs_ne (by decide), x210]) (by rw [hs_ne (by decide), x211]) (fun z a b c => hs_ne a) (fun j hj => by omega) (fun j hj => by omega) (fun j hj => by omega) (by rw [he])
end REFY
