/-! THE CLASS: does() -/
def ltG (x : Int32) : Prop := ∃ L, x = nI L ∧ (L = 110 ∨ L = 112 ∨ L = 109 ∨ L = 106 ∨ L = 107 ∨ L = 116 ∨ L = 117 ∨ L = 120)
theorem argF_ltG {c : Nat} (h : argF c ≠ 0) : ltG (nI c) := by
  refine ⟨c, rfl, ?_⟩
  unfold argF at h
  by_cases c1 : c = 110
  · omega
  · rw [if_neg c1] at h
    by_cases c2 : c = 107 ∨ c = 116 ∨ c = 117 ∨ c = 120
    · omega
    · rw [if_neg c2] at h
      by_cases c3 : c = 112 ∨ c = 109 ∨ c = 106
      · omega
      · rw [if_neg c3] at h; exact absurd rfl h
theorem rdO_arg {tx : Nat → Nat} {len a : Nat} {f : Nat → Int32} (h : (rdO tx len a f).2.1 = true) : argF (rdO tx len a f).2.2.1 ≠ 0 := by
  unfold rdO at h ⊢
  by_cases c : a < len
  · rw [if_pos c] at h ⊢
    by_cases c2 : argF (tx a) = 0
    · rw [if_pos c2] at h; cases h
    · rw [if_neg c2] at h ⊢
      dsimp only at h ⊢
      by_cases c3 : (rdA tx len (tx a) (argF (tx a)) 0 (a + 1) f).2.1 = true
      · rw [if_pos c3] at h ⊢
        by_cases c4 : isB tx len (skF tx len (rdA tx len (tx a) (argF (tx a)) 0 (a + 1) f).1) 59 = true
        · rw [if_pos c4]; exact c2
        · rw [if_neg c4] at h; cases h
      · rw [if_neg c3] at h; cases h
  · rw [if_neg c] at h; cases h
theorem rdP_ok {tx : Nat → Nat} {len : Nat} : ∀ (k a fd : Nat) (lt : Nat → Int32) (vl : Nat → Nat → Int32), a ≤ len → 3 * fd ≤ a → (∀ i, i < fd → ltG (lt i)) → 3 * (rdP tx len k a fd lt vl).2.1 ≤ len ∧ (∀ i, i < (rdP tx len k a fd lt vl).2.1 → ltG ((rdP tx len k a fd lt vl).2.2.1 i)) ∧ ∀ e, (rdP tx len k a fd lt vl).1 = some e → e ≤ len
  | 0, a, fd, lt, vl, h1, h2, h3 => ⟨by show 3 * fd ≤ len; omega, h3, fun e he => by cases he⟩
  | k + 1, a, fd, lt, vl, h1, h2, h3 => by
    unfold rdP
    by_cases c : a < len
    · rw [if_pos c]
      dsimp only
      have hle := rdO_le (tx := tx) (f := vl fd) h1
      by_cases c2 : (rdO tx len a (vl fd)).2.1 = true
      · rw [if_pos c2]
        have hadv := rdO_adv c2
        have hg := skF_ge (tx := tx) (len := len) (rdO tx len a (vl fd)).1
        refine rdP_ok k _ _ _ _ (skF_le hle.2.1) (by omega) (fun i hi => ?_)
        unfold upd
        by_cases q : i = fd
        · rw [if_pos q]; exact argF_ltG (rdO_arg c2)
        · rw [if_neg q]; exact h3 i (by omega)
      · rw [if_neg c2]
        exact ⟨by show 3 * fd ≤ len; omega, h3, fun e he => by cases he; exact hle.2.1⟩
    · rw [if_neg c]
      exact ⟨by show 3 * fd ≤ len; omega, h3, fun e he => by cases he⟩
theorem rdT_ok {tx : Nat → Nat} {len : Nat} (lt : Nat → Int32) (vl : Nat → Nat → Int32) : 3 * (rdT tx len lt vl).2.1 ≤ len ∧ (∀ i, i < (rdT tx len lt vl).2.1 → ltG ((rdT tx len lt vl).2.2.1 i)) ∧ ∀ e, (rdT tx len lt vl).1 = some e → e ≤ len := by
  obtain ⟨h1, h2, h3⟩ := rdP_ok (tx := tx) (len := len) 41 (skF tx len 0) 0 lt vl (skF_le (Nat.zero_le _)) (Nat.zero_le _) (fun i hi => absurd hi (Nat.not_lt_zero _))
  refine ⟨h1, h2, fun e he => ?_⟩
  unfold rdT at he
  dsimp only at he
  cases hp : (rdP tx len 41 (skF tx len 0) 0 lt vl).1 with
  | some e' => rw [hp] at he; cases he; exact h3 _ hp
  | none =>
    rw [hp] at he
    dsimp only at he
    split at he
    · cases he
    · cases he; exact Nat.le_refl _
section DOES
variable {N : Nat} {h : aH} {P : aP} {X : aX} {Ok : aS → Prop}
theorem c_does (K : ClsAt h X) (okV : ∀ σ, Ok σ → VdS σ) (okC : ∀ σ L f, Ok σ → Ok (carR σ L f).2) (hO : Ok X.1) (hP : ∀ lt vl h', ClsAt h' (doR X (rdT X.2.2.2.1 X.2.2.2.2 lt vl)).2 → FrC h h' → P (some (.int (doR X (rdT X.2.2.2.1 X.2.2.2.2 lt vl)).1)) N h') : AM X7_does [.ref 3] N h P := by
  have k3 := K.2.2.1
  obtain ⟨a0, fd0, lt, vl, O0⟩ := K.2.2.2.2.2.1
  have k138 := O0.1
  have o6 := O0.2.2.2.2.2.1
  have hP := hP lt vl
  obtain ⟨t1, t2, t3⟩ := rdT_ok (tx := X.2.2.2.1) (len := X.2.2.2.2) lt vl
  refine AM.of0 rfl (Nat.le_of_ble_eq_true rfl) rfl [some (.ref 3), none, none] rfl ?_
  refine AW.aload_n 1 dX7_does_0 rfl (by rfl) ?_
  refine AW.getfield 4 dX7_does_1 rfl fl_X7_26 (by assumption) (by rfl) ?_
  refine AW.cV0 7 dX7_does_4 rfl mi_X2_fault mv_X2_fault lk_X7_186 ⟨(Nat.le_of_ble_eq_true rfl), (Nat.le_of_ble_eq_true rfl)⟩ rfl (by assumption) rfl (Nat.le_of_ble_eq_true rfl) (c_fault O0 (fun h1 b O1 f1 => ?_))
  have K1 := K.ord O1 f1
  generalize rdT X.2.2.2.1 X.2.2.2.2 lt vl = t at hP t1 t2 t3 O1 K1 ⊢
  obtain ⟨fl, fd, lt1, vl1⟩ := t
  dsimp only at t1 t2 t3 O1 K1 hP ⊢
  have K1 : ClsAt h1 X := K1
  have y3 := K1.2.2.1
  have y4 := K1.2.2.2.1.1
  obtain ⟨nx0, ring0, up0, -⟩ := K1.2.2.2.2.1
  have y46 := up0.1
  refine AW.istore_n 8 dX7_does_7 rfl (Nat.le_of_ble_eq_true rfl) rfl ?_
  refine AW.iload_n 9 dX7_does_8 rfl (by rfl) ?_
  refine AW.iconst 10 dX7_does_9 rfl (-1) rfl ?_
  cases fl with
  | some e =>
    have he := t3 e rfl
    refine AW.icmp_eq 18 13 dX7_does_10 (by decide) rfl (fun c => ?_) (fun c => ?_)
    · exfalso
      have := congrArg Int32.toInt c
      rw [show fltI (some e) = nI e from rfl, nI_toInt (by omega), show (-1 : Int32).toInt = -1 from rfl] at this
      omega
    · refine AW.bipush 15 dX7_does_13 rfl (-10) rfl ?_
      refine AW.iload_n 16 dX7_does_15 rfl (by rfl) ?_
      refine AW.isub 17 dX7_does_16 rfl ?_
      refine AW.iret dX7_does_17 rfl ?_
      exact hP h1 K1 (fun z hz => f1 z (by omega))
  | none =>
    refine AW.icmp_eq 18 13 dX7_does_10 (by decide) rfl (fun c => ?_) (fun c => ?_)
    · refine AW.aload_n 19 dX7_does_18 rfl (by rfl) ?_
      refine AW.getfield 22 dX7_does_19 rfl fl_X7_19 (by assumption) (by rfl) ?_
      refine AW.aload_n 23 dX7_does_22 rfl (by rfl) ?_
      refine AW.getfield 26 dX7_does_23 rfl fl_X7_10 (by assumption) (by rfl) ?_
      refine AW.getfield 29 dX7_does_26 rfl fl_X7_47 (by assumption) (by rfl) ?_
      refine AW.cV1 32 dX7_does_29 rfl mi_X4_prepare mv_X4_prepare lk_X7_51 ⟨(Nat.le_of_ble_eq_true rfl), (Nat.le_of_ble_eq_true rfl)⟩ rfl (by assumption) rfl (Nat.le_of_ble_eq_true rfl) (c_prep K1 (fun h2 K2 f2 => ?_))
      have O2 := O1.same (fun z z1 z2 => f2 z (by omega))
      refine AW.iconst 33 dX7_does_32 rfl (nI 0) rfl ?_
      refine AW.istore_n 34 dX7_does_33 rfl (Nat.le_of_ble_eq_true rfl) rfl ?_
      have L : ∀ k i τ, i + k = fd → ∀ h3, MidAt h3 X τ → Ok τ → OrdAt h3 X.2.2.2.1 X.2.2.2.2 b fd lt1 vl1 → FrC h h3 → rnO lt1 vl1 k i τ = rnO lt1 vl1 fd 0 X.1 → AW X7_does 34 [some (.ref 3), some (.int (fltI none)), some (.int (nI i))] [] N (0, 0) h3 P := by
        intro k
        induction k with
        | zero =>
          intro i τ hi h3 K3 hO3 O3 f3 he
          have he : (none, τ) = rnO lt1 vl1 fd 0 X.1 := he
          have z3 := K3.2.2.1
          have z138 := O3.1
          have eR : doR X (none, fd, lt1, vl1) = (nI fd, (τ, psU X.2.1 X.1, X.2.2)) := by
            unfold doR
            dsimp only
            rw [← he]
          rw [eR] at hP
          refine AW.iload_n 35 dX7_does_34 rfl (by rfl) ?_
          refine AW.aload_n 36 dX7_does_35 rfl (by rfl) ?_
          refine AW.getfield 39 dX7_does_36 rfl fl_X7_26 (by assumption) (by rfl) ?_
          refine AW.getfield 42 dX7_does_39 rfl fl_X7_189 (by assumption) (by rfl) ?_
          refine AW.nge 102 45 dX7_does_42 (by decide) rfl (by omega) (by omega) (fun c2 => ?_) (fun c2 => ?_)
          · refine AW.aload_n 103 dX7_does_102 rfl (by rfl) ?_
            refine AW.getfield 106 dX7_does_103 rfl fl_X7_19 (by assumption) (by rfl) ?_
            obtain ⟨k0, k1, -, b3, ⟨nx, ring, u1, u2, u3⟩, -, w, g, m, R, s⟩ := K3
            have z46 := u1.1
            refine AW.cV0 109 dX7_does_106 rfl mi_X4_keep mv_X4_keep lk_X7_210 ⟨(Nat.le_of_ble_eq_true rfl), (Nat.le_of_ble_eq_true rfl)⟩ rfl (by assumption) rfl (Nat.le_of_ble_eq_true rfl) (c_keep u1 (fun h4 q e => ?_))
            have w3 : h4 3 = _ := (e 3 (by decide)).trans z3
            have w138 : h4 138 = _ := (e 138 (by decide)).trans z138
            refine AW.aload_n 110 dX7_does_109 rfl (by rfl) ?_
            refine AW.getfield 113 dX7_does_110 rfl fl_X7_26 (by assumption) (by rfl) ?_
            refine AW.getfield 116 dX7_does_113 rfl fl_X7_189 (by assumption) (by rfl) ?_
            refine AW.iret dX7_does_116 rfl ?_
            refine hP h4 ⟨by rw [e 0 (by omega), k0], by rw [e 1 (by omega), k1], w3, b3.same (fun z hz => e z (by omega)), ⟨_, ring, q, ?_⟩, ⟨b, fd, lt1, vl1, O3.same (fun z z1 z2 => e z (by omega))⟩, w, g, m, R, s.same (fun z z1 z2 => e z (by omega))⟩ (fun z hz => by rw [e z (by omega), f3 z hz])
            intro j hj
            rw [keep_und u1.2.2.2.1 u1.2.2.2.2 u2 j hj, u3]
            rfl
          · omega
        | succ k ih =>
          intro i τ hi h3 K3 hO3 O3 f3 he
          have z3 := K3.2.2.1
          have z4 := K3.2.2.2.1.1
          have z138 := O3.1
          have z140 := O3.2.2.1
          have z141 := O3.2.2.2.1
          obtain ⟨L, eL, hL⟩ := t2 i (by omega)
          have zv := O3.2.2.2.2.1 i (by omega)
          rw [rnO, eL, cl_nI (by omega)] at he
          refine AW.iload_n 35 dX7_does_34 rfl (by rfl) ?_
          refine AW.aload_n 36 dX7_does_35 rfl (by rfl) ?_
          refine AW.getfield 39 dX7_does_36 rfl fl_X7_26 (by assumption) (by rfl) ?_
          refine AW.getfield 42 dX7_does_39 rfl fl_X7_189 (by assumption) (by rfl) ?_
          refine AW.nge 102 45 dX7_does_42 (by decide) rfl (by omega) (by omega) (fun c2 => ?_) (fun c2 => ?_)
          · omega
          · refine AW.aload_n 46 dX7_does_45 rfl (by rfl) ?_
            refine AW.getfield 49 dX7_does_46 rfl fl_X7_10 (by assumption) (by rfl) ?_
            refine AW.aload_n 50 dX7_does_49 rfl (by rfl) ?_
            refine AW.getfield 53 dX7_does_50 rfl fl_X7_26 (by assumption) (by rfl) ?_
            refine AW.getfield 56 dX7_does_53 rfl fl_X7_192 (by assumption) (by rfl) ?_
            refine AW.iload_n 57 dX7_does_56 rfl (by rfl) ?_
            refine AW.iaload 58 _ dX7_does_57 rfl (by assumption) (by first | exact Or.inl rfl | exact Or.inr rfl) (ix_nI (by omega)) (by omega) ?_
            refine AW.aload_n 59 dX7_does_58 rfl (by rfl) ?_
            refine AW.getfield 62 dX7_does_59 rfl fl_X7_26 (by assumption) (by rfl) ?_
            refine AW.getfield 65 dX7_does_62 rfl fl_X7_195 (by assumption) (by rfl) ?_
            refine AW.iload_n 66 dX7_does_65 rfl (by rfl) ?_
            refine AW.aaload 67 _ dX7_does_66 rfl (by assumption) (fun _ => rfl) rfl (ix_nI (by omega)) (by omega) (if_pos (show i < 40 by omega)) ?_
            rw [eL]
            refine AW.cV2 70 dX7_does_67 rfl mi_X0_carryOut mv_X0_carryOut lk_X7_199 ⟨(Nat.le_of_ble_eq_true rfl), (Nat.le_of_ble_eq_true rfl)⟩ rfl (by assumption) rfl (Nat.le_of_ble_eq_true rfl) (c_carryOut K3.1 K3.2.2.2.1 (okV τ hO3) zv hL (fun h4 B4 f4 => ?_))
            have K4 := K3.brd B4 f4
            refine AW.if_ge 96 73 dX7_does_70 (by decide) rfl (fun c3 => ?_) (fun c3 => ?_)
            · refine AW.iinc1 99 dX7_does_96 rfl (by rfl) rfl ?_
              refine AW.goto 34 dX7_does_99 (by decide) ?_
              rw [if_neg (Int32.not_lt.mpr c3)] at he
              exact ih (i + 1) _ (by omega) h4 K4 (okC τ L _ hO3) (O3.same (fun z z1 z2 => f4 z (by omega))) (fun z hz => by rw [f4 z (by omega), f3 z hz]) he
            · rw [if_pos (Int32.not_le.mp c3)] at he
              have eR : doR X (none, fd, lt1, vl1) = (-1000 - nI i, X) := by
                unfold doR
                dsimp only
                rw [← he]
              rw [eR] at hP
              obtain ⟨k0, k1, w3, b3, ⟨nx, ring, u1, u2, u3⟩, ⟨a', fd', lt', vl', o'⟩, w, g, m, R, s⟩ := K4
              have w4 := b3.1
              have w46 := u1.1
              refine AW.aload_n 74 dX7_does_73 rfl (by rfl) ?_
              refine AW.getfield 77 dX7_does_74 rfl fl_X7_10 (by assumption) (by rfl) ?_
              refine AW.getfield 80 dX7_does_77 rfl fl_X7_47 (by assumption) (by rfl) ?_
              refine AW.aload_n 81 dX7_does_80 rfl (by rfl) ?_
              refine AW.getfield 84 dX7_does_81 rfl fl_X7_19 (by assumption) (by rfl) ?_
              refine AW.cV0 87 dX7_does_84 rfl mi_X4_prepared mv_X4_prepared lk_X7_203 ⟨(Nat.le_of_ble_eq_true rfl), (Nat.le_of_ble_eq_true rfl)⟩ rfl (by assumption) rfl (Nat.le_of_ble_eq_true rfl) (c_prepared u1 ?_)
              have T := u1.2.2.1 nx u1.2.2.2.1
              rw [u3] at T
              have w5 := b3.2.1.1
              refine AW.cV1 90 dX7_does_87 rfl mi_X6_copy mv_X6_copy lk_X7_207 ⟨(Nat.le_of_ble_eq_true rfl), (Nat.le_of_ble_eq_true rfl)⟩ rfl (by assumption) rfl (Nat.le_of_ble_eq_true rfl) (c_stCopy b3.2.1 T (by omega) (fun h5 T5 e5 => ?_))
              refine AW.sipush 93 dX7_does_90 rfl (-1000) rfl ?_
              refine AW.iload_n 94 dX7_does_93 rfl (by rfl) ?_
              refine AW.isub 95 dX7_does_94 rfl ?_
              refine AW.iret dX7_does_95 rfl ?_
              refine hP h5 ⟨by rw [e5 0 (by omega), k0], by rw [e5 1 (by omega), k1], by rw [e5 3 (by omega), w3], ?_, ⟨nx, ring, u1.same (fun z z1 z2 => e5 z (by omega)), u2⟩, ⟨a', fd', lt', vl', o'.same (fun z z1 z2 => e5 z (by omega))⟩, w, g, m, R, s.same (fun z z1 z2 => e5 z (by omega))⟩ (fun z hz => by rw [e5 z (by omega), f4 z (by omega), f3 z hz])
              obtain ⟨-, -, lw, b4⟩ := b3
              refine ⟨by rw [e5 4 (by omega), w4], T5, ?_, ?_⟩
              · obtain ⟨w1, ⟨f2, w2⟩, ⟨f3, w3⟩, ⟨f4, w4⟩, w5, w6, w7, w8, w9, w10, w11⟩ := lw
                have pa : ∀ {p q : Nat}, 20 ≤ p → 20 ≤ q → PartAt h4 p q → PartAt h5 p q := fun hp hq ⟨m, f, g1, g2, g3⟩ => ⟨m, f, by rw [e5 _ (by omega), g1], by rw [e5 _ (by omega), g2], g3⟩
                exact ⟨by rw [e5 _ (by omega), w1], ⟨f2, by rw [e5 _ (by omega), w2]⟩, ⟨f3, by rw [e5 _ (by omega), w3]⟩, ⟨f4, by rw [e5 _ (by omega), w4]⟩, by rw [e5 _ (by omega), w5], fun i hi => by rw [e5 _ (by omega), w6 i hi], pa (by omega) (by omega) w7, pa (by omega) (by omega) w8, pa (by omega) (by omega) w9, pa (by omega) (by omega) w10, pa (by omega) (by omega) w11⟩
              · obtain ⟨m0, f0, r1, r2, r3⟩ := b4
                exact ⟨m0, f0, by rw [e5 _ (by omega), r1], by rw [e5 _ (by omega), r2], r3⟩
      exact L fd 0 X.1 (by omega) h2 K2 hO O2 (fun z hz => by rw [f2 z (by omega), f1 z (by omega)]) rfl
    · exact absurd rfl c
end DOES
