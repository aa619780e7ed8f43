/-! THE MODEL, eleventh part: points, puts; held, pushed, given back -/
section REFA
variable {N n : Nat} {h : aH} {P : aP} {X : aX}
def bgF (k : Nat) (f : Nat → Int32) (i : Nat) : Int32 := if i = 0 then nI k else if i < 7 then nI (idC k) else f i
theorem r_begin {k : Nat} {f : Nat → Int32} {ps ty la ma at_ fa od : Int32} {d : Int64} (x196 : h 196 = modO ps ty la ma at_ fa od d) (x197 : h 197 = .inl (0, (15, .inl f))) (hk : k ≤ 8) (hP : P none N (hs h 197 (.inl (0, (15, .inl (bgF k f)))))) : AM X8_begin [.ref 196, .int (nI k)] N h P := by
  refine AM.of0 rfl (Nat.le_of_ble_eq_true rfl) rfl [some (.ref 196), some (.int (nI k)), none, none] rfl ?_
  refine AW.aload_n 1 dX8_begin_0 rfl (by rfl) ?_
  refine AW.getfield 4 dX8_begin_1 rfl fl_X8_7 (by assumption) (by rfl) ?_
  refine AW.iconst 5 dX8_begin_4 rfl (nI 0) rfl ?_
  refine AW.iload_n 6 dX8_begin_5 rfl (by rfl) ?_
  refine AW.iastore 7 _ dX8_begin_6 rfl (by assumption) (ix_nI (by omega)) (by omega) ?_
  refine AW.iconst 8 dX8_begin_7 rfl (nI 0) rfl ?_
  refine AW.istore_n 9 dX8_begin_8 rfl (Nat.le_of_ble_eq_true rfl) rfl ?_
  refine AW.iconst 10 dX8_begin_9 rfl (nI 0) rfl ?_
  refine AW.istore_n 11 dX8_begin_10 rfl (Nat.le_of_ble_eq_true rfl) rfl ?_
  have L : ∀ j x, x + j = k → AW X8_begin 11 [some (.ref 196), some (.int (nI k)), some (.int (nI (enc idn x))), some (.int (nI x))] [] N (0, 0) (hs h 197 (.inl (0, (15, .inl (upd f 0 (nI k)))))) P := by
    intro j
    induction j with
    | zero =>
      intro x hx
      refine AW.iload_n 12 dX8_begin_11 rfl (by rfl) ?_
      refine AW.iload_n 13 dX8_begin_12 rfl (by rfl) ?_
      refine AW.nge 33 16 dX8_begin_13 (by decide) rfl (by omega) (by omega) (fun c => ?_) (fun c => ?_)
      · obtain rfl : x = k := by omega
        have M : ∀ j s, s + j = 6 → AW X8_begin 35 [some (.ref 196), some (.int (nI x)), some (.int (nI (enc idn x))), some (.int (nI s))] [] N (0, 0) (hs h 197 (.inl (0, (15, .inl (fun i => if i = 0 then nI x else if i < 1 + s then nI (idC x) else f i))))) P := by
          intro j
          induction j with
          | zero =>
            intro s hs6
            refine AW.iload_n 36 dX8_begin_35 rfl (by rfl) ?_
            refine AW.bipush 38 dX8_begin_36 rfl (nI 6) rfl ?_
            refine AW.nge 56 41 dX8_begin_38 (by decide) rfl (by omega) (by omega) (fun c2 => ?_) (fun c2 => ?_)
            · refine AW.vret dX8_begin_56 rfl ?_
              rw [show (fun i => if i = 0 then nI x else if i < 1 + s then nI (idC x) else f i) = bgF x f from funext fun i => by rw [bgF, show 1 + s = 7 by omega]]
              exact hP
            · omega
          | succ j ih =>
            intro s hs6
            have y196 : hs h 197 (.inl (0, (15, .inl (fun i => if i = 0 then nI x else if i < 1 + s then nI (idC x) else f i)))) 196 = modO ps ty la ma at_ fa od d := by rw [hs_ne (by decide), x196]
            have y197 : hs h 197 (.inl (0, (15, .inl (fun i => if i = 0 then nI x else if i < 1 + s then nI (idC x) else f i)))) 197 = .inl (0, (15, .inl (fun i => if i = 0 then nI x else if i < 1 + s then nI (idC x) else f i))) := hs_eq _ _ _
            refine AW.iload_n 36 dX8_begin_35 rfl (by rfl) ?_
            refine AW.bipush 38 dX8_begin_36 rfl (nI 6) rfl ?_
            refine AW.nge 56 41 dX8_begin_38 (by decide) rfl (by omega) (by omega) (fun c2 => ?_) (fun c2 => ?_)
            · omega
            · refine AW.aload_n 42 dX8_begin_41 rfl (by rfl) ?_
              refine AW.getfield 45 dX8_begin_42 rfl fl_X8_7 (by assumption) (by rfl) ?_
              refine AW.iconst 46 dX8_begin_45 rfl (nI 1) rfl ?_
              refine AW.iload_n 47 dX8_begin_46 rfl (by rfl) ?_
              first | refine AW.iaddN 48 dX8_begin_47 rfl ?_ | refine AW.iadd 48 dX8_begin_47 rfl ?_
              refine AW.iload_n 49 dX8_begin_48 rfl (by rfl) ?_
              refine AW.iastore 50 _ dX8_begin_49 rfl (by assumption) (ix_nI (by omega)) (by omega) ?_
              refine AW.iinc1 53 dX8_begin_50 rfl (by rfl) rfl ?_
              refine AW.goto 35 dX8_begin_53 (by decide) ?_
              rw [hs_hs, show upd (fun i => if i = 0 then nI x else if i < 1 + s then nI (idC x) else f i) (1 + s) (nI (enc idn x)) = (fun i => if i = 0 then nI x else if i < 1 + (s + 1) then nI (idC x) else f i) from funext fun i => by
                show (if i = 1 + s then nI (enc idn x) else (if i = 0 then nI x else if i < 1 + s then nI (idC x) else f i)) = (if i = 0 then nI x else if i < 1 + (s + 1) then nI (idC x) else f i)
                by_cases e : i = 1 + s
                · subst e
                  rw [if_pos rfl, if_neg (by omega), if_pos (by omega)]
                  rfl
                · rw [if_neg e]
                  by_cases e0 : i = 0
                  · rw [if_pos e0, if_pos e0]
                  · rw [if_neg e0, if_neg e0]
                    by_cases e7 : i < 1 + s
                    · rw [if_pos e7, if_pos (by omega)]
                    · rw [if_neg e7, if_neg (by omega)]]
              exact ih (s + 1) (by omega)
        have := M 6 0 (by omega)
        rw [show (fun i => if i = 0 then nI x else if i < 1 + 0 then nI (idC x) else f i) = upd f 0 (nI x) from funext fun i => by
          unfold upd
          by_cases e : i = 0
          · simp [e]
          · simp [e]] at this
        refine AW.iconst 34 dX8_begin_33 rfl (nI 0) rfl ?_
        refine AW.istore_n 35 dX8_begin_34 rfl (Nat.le_of_ble_eq_true rfl) rfl ?_
        exact this
      · omega
    | succ j ih =>
      intro x hx
      refine AW.iload_n 12 dX8_begin_11 rfl (by rfl) ?_
      refine AW.iload_n 13 dX8_begin_12 rfl (by rfl) ?_
      refine AW.nge 33 16 dX8_begin_13 (by decide) rfl (by omega) (by omega) (fun c => ?_) (fun c => ?_)
      · omega
      · refine AW.iload_n 17 dX8_begin_16 rfl (by rfl) ?_
        refine AW.iload_n 18 dX8_begin_17 rfl (by rfl) ?_
        refine AW.bipush 20 dX8_begin_18 rfl (nI 21) rfl ?_
        refine AW.iconst 21 dX8_begin_20 rfl (nI 3) rfl ?_
        refine AW.iload_n 22 dX8_begin_21 rfl (by rfl) ?_
        first | refine AW.imulN 23 dX8_begin_22 rfl ?_ | refine AW.imul 23 dX8_begin_22 rfl ?_
        first | refine AW.isubN 24 dX8_begin_23 rfl (by omega) ?_ | refine AW.isub 24 dX8_begin_23 rfl ?_
        refine AW.ishlN 25 dX8_begin_24 rfl (by omega) ?_ ?_
        · have h1 : (2 : Nat) ^ (21 - 3 * x) ≤ 2 ^ 21 := Nat.pow_le_pow_right (by decide) (by omega)
          have h2 := Nat.mul_le_mul (show x ≤ 7 by omega) h1
          omega
        · refine AW.ior 26 dX8_begin_25 rfl ?_
          rw [enc_or (k := x) (by omega) (by omega) (by rw [idn, if_pos (by omega)])]
          refine AW.istore_n 27 dX8_begin_26 rfl (Nat.le_of_ble_eq_true rfl) rfl ?_
          refine AW.iinc1 30 dX8_begin_27 rfl (by rfl) rfl ?_
          refine AW.goto 11 dX8_begin_30 (by decide) ?_
          exact ih (x + 1) (by omega)
  exact L k 0 (by omega)
theorem r_doPoints {k : Int32} (K : RfAt h X) (hP : Chg h X N P (pointR X.1 k)) : AM X8_doPoints [.ref 196, .int k] N h P := by
  obtain ⟨_, _, _, _, _, _, x196, -⟩ := id K.1
  have x197 : h 197 = .inl (0, (15, .inl (nowF X.1))) := K.2.1
  have n0 : nowF X.1 0 = nI X.1.1 := rfl
  refine AM.of0 rfl (Nat.le_of_ble_eq_true rfl) rfl [some (.ref 196), some (.int k), none] rfl ?_
  refine AW.iload_n 1 dX8_doPoints_0 rfl (by rfl) ?_
  refine AW.iconst 2 dX8_doPoints_1 rfl (nI 1) rfl ?_
  refine AW.bipush 4 dX8_doPoints_2 rfl (nI 8) rfl ?_
  refine AW.cS3 7 dX8_doPoints_4 rfl mi_X8_in ms_X8_in lk_X8_100 ⟨(Nat.le_of_ble_eq_true rfl), (Nat.le_of_ble_eq_true rfl)⟩ rfl (Nat.le_of_ble_eq_true rfl) (c_in ?_)
  rw [rgB_eq, show (nI 1).toInt = 1 from rfl, show (nI 8).toInt = 8 from rfl]
  unfold Chg at hP
  refine AW.zne 13 10 dX8_doPoints_7 (by decide) rfl (fun c1 => ?_) (fun c1 => ?_)
  · have q1 := of_decide_eq_true (show decide (1 ≤ k.toInt ∧ k.toInt ≤ 8) = true from c1)
    obtain ⟨j, hj, hj1, rfl⟩ : ∃ j, j ≤ 8 ∧ 1 ≤ j ∧ k = nI j := by
      refine ⟨k.toInt.toNat, by omega, by omega, ?_⟩
      apply Int32.toInt_inj.mp
      rw [nI_toInt (by omega)]
      omega
    rw [pointR, c1, cl_nI (by omega)] at hP
    refine AW.aload_n 14 dX8_doPoints_13 rfl (by rfl) ?_
    refine AW.getfield 17 dX8_doPoints_14 rfl fl_X8_7 (by assumption) (by rfl) ?_
    refine AW.iconst 18 dX8_doPoints_17 rfl (nI 0) rfl ?_
    refine AW.iaload 19 _ dX8_doPoints_18 rfl (by assumption) (by first | exact Or.inl rfl | exact Or.inr rfl) (ix_nI (by omega)) (by omega) ?_
    rw [n0]
    refine AW.istore_n 20 dX8_doPoints_19 rfl (Nat.le_of_ble_eq_true rfl) rfl ?_
    refine AW.aload_n 21 dX8_doPoints_20 rfl (by rfl) ?_
    refine AW.iload_n 22 dX8_doPoints_21 rfl (by rfl) ?_
    refine AW.cV1 25 dX8_doPoints_22 rfl mi_X8_begin mv_X8_begin lk_X8_56 ⟨(Nat.le_of_ble_eq_true rfl), (Nat.le_of_ble_eq_true rfl)⟩ rfl (by assumption) rfl (Nat.le_of_ble_eq_true rfl) (r_begin x196 x197 hj ?_)
    refine AW.iload_n 26 dX8_doPoints_25 rfl (by rfl) ?_
    refine AW.iret dX8_doPoints_26 rfl ?_
    have e : bgF j (nowF X.1) = nowF (j, fun _ => idC j, X.1.2.2) := by
      funext i
      show (if i = 0 then nI j else if i < 7 then nI (idC j) else (if i = 0 then nI X.1.1 else if i < 7 then nI (X.1.2.1 (i - 1)) else if i < 15 then X.1.2.2 (i - 7) else nI 0)) = (if i = 0 then nI j else if i < 7 then nI (idC j) else if i < 15 then X.1.2.2 (i - 7) else nI 0)
      by_cases e0 : i = 0 <;> by_cases e7 : i < 7 <;> simp [e0, e7]
    rw [e]
    exact hP _ (K.n197 (σ := (j, fun _ => idC j, X.1.2.2)) ⟨hj1, hj, fun s _ => WfC_id hj⟩) (FrM.at (by omega))
  · rw [pointR, c1] at hP
    refine AW.bipush 12 dX8_doPoints_10 rfl (-2) rfl ?_
    refine AW.iret dX8_doPoints_12 rfl ?_
    exact hP h K FrM.refl
theorem r_doPuts {s x y : Int32} (K : RfAt h X) (hP : Chg h X N P (uniteM X.1 s x y)) : AM X8_doPuts [.ref 196, .int s, .int x, .int y] N h P := by
  obtain ⟨_, _, _, _, _, _, x196, -⟩ := id K.1
  have x197 : h 197 = .inl (0, (15, .inl (nowF X.1))) := K.2.1
  have n0 : nowF X.1 0 = nI X.1.1 := rfl
  have w := K.2.2.2.2.2.2.2.2
  obtain ⟨w1, w2, w3⟩ := id w
  refine AM.of0 rfl (Nat.le_of_ble_eq_true rfl) rfl [some (.ref 196), some (.int s), some (.int x), some (.int y), none] rfl ?_
  have F : (inB 6 s && (inB X.1.1 x && inB X.1.1 y)) = false → AW X8_doPuts 23 [some (.ref 196), some (.int s), some (.int x), some (.int y), none] [] N (0, 0) h P := by
    intro e
    unfold Chg at hP
    rw [uniteM, e] at hP
    refine AW.bipush 25 dX8_doPuts_23 rfl (-2) rfl ?_
    refine AW.iret dX8_doPuts_25 rfl ?_
    exact hP h K FrM.refl
  refine AW.iload_n 1 dX8_doPuts_0 rfl (by rfl) ?_
  refine AW.cS1 4 dX8_doPuts_1 rfl mi_X8_isSlot ms_X8_isSlot lk_X8_104 ⟨(Nat.le_of_ble_eq_true rfl), (Nat.le_of_ble_eq_true rfl)⟩ rfl (Nat.le_of_ble_eq_true rfl) (r_isSlot ?_)
  refine AW.zeq 23 7 dX8_doPuts_4 (by decide) rfl (fun c1 => ?_) (fun c1 => ?_)
  · exact F (by rw [c1]; rfl)
  · refine AW.aload_n 8 dX8_doPuts_7 rfl (by rfl) ?_
    refine AW.iload_n 9 dX8_doPuts_8 rfl (by rfl) ?_
    refine AW.cV1 12 dX8_doPuts_9 rfl mi_X8_isPoint mv_X8_isPoint lk_X8_107 ⟨(Nat.le_of_ble_eq_true rfl), (Nat.le_of_ble_eq_true rfl)⟩ rfl (by assumption) rfl (Nat.le_of_ble_eq_true rfl) (r_isPoint K.now ?_)
    refine AW.zeq 23 15 dX8_doPuts_12 (by decide) rfl (fun c2 => ?_) (fun c2 => ?_)
    · exact F (by rw [c2, Bool.false_and, Bool.and_false])
    · refine AW.aload_n 16 dX8_doPuts_15 rfl (by rfl) ?_
      refine AW.iload_n 17 dX8_doPuts_16 rfl (by rfl) ?_
      refine AW.cV1 20 dX8_doPuts_17 rfl mi_X8_isPoint mv_X8_isPoint lk_X8_107 ⟨(Nat.le_of_ble_eq_true rfl), (Nat.le_of_ble_eq_true rfl)⟩ rfl (by assumption) rfl (Nat.le_of_ble_eq_true rfl) (r_isPoint K.now ?_)
      refine AW.zne 26 23 dX8_doPuts_20 (by decide) rfl (fun c3 => ?_) (fun c3 => ?_)
      · rcases inB_cases (m := 6) (by omega) s with ⟨s', hs', rfl, e1⟩ | ⟨-, e1⟩
        · rcases inB_cases (m := X.1.1) (by omega) x with ⟨x', hx', rfl, e2⟩ | ⟨-, e2⟩
          · rcases inB_cases (m := X.1.1) (by omega) y with ⟨y', hy', rfl, e3⟩ | ⟨-, e3⟩
            · obtain ⟨g, G⟩ := K.grp
              have g4 := G.2.2.1
              have g7 := G.2.2.2.2.2
              have id8 : ∀ x, x ≤ X.1.1 → ∀ i, i < 8 → (fun i => if i < x then i else g i) i < 64 := by
                intro x hx i hi
                show (if i < x then i else g i) < 64
                have := g7 i hi
                split <;> omega
              refine AW.iconst 27 dX8_doPuts_26 rfl (nI 0) rfl ?_
              refine AW.istore 29 dX8_doPuts_27 rfl (Nat.le_of_ble_eq_true rfl) rfl ?_
              have L : ∀ k z, z + k = X.1.1 → AW X8_doPuts 29 [some (.ref 196), some (.int (nI s')), some (.int (nI x')), some (.int (nI y')), some (.int (nI z))] [] N (0, 0) (hs h 202 (iA 8 (fun i => if i < z then i else g i))) P := by
                intro k
                induction k with
                | zero =>
                  intro z hz
                  have K' := K.g202 (id8 z (by omega))
                  obtain ⟨_, _, _, _, _, _, y196, -⟩ := id K'.1
                  have y197 : hs h 202 (iA 8 (fun i => if i < z then i else g i)) 197 = .inl (0, (15, .inl (nowF X.1))) := K'.2.1
                  have y202 : hs h 202 (iA 8 (fun i => if i < z then i else g i)) 202 = iA 8 (fun i => if i < z then i else g i) := hs_eq _ _ _
                  refine AW.iload 31 dX8_doPuts_29 rfl (by rfl) ?_
                  refine AW.aload_n 32 dX8_doPuts_31 rfl (by rfl) ?_
                  refine AW.getfield 35 dX8_doPuts_32 rfl fl_X8_7 (by assumption) (by rfl) ?_
                  refine AW.iconst 36 dX8_doPuts_35 rfl (nI 0) rfl ?_
                  refine AW.iaload 37 _ dX8_doPuts_36 rfl (by assumption) (by first | exact Or.inl rfl | exact Or.inr rfl) (ix_nI (by omega)) (by omega) ?_
                  rw [n0]
                  refine AW.nge 55 40 dX8_doPuts_37 (by decide) rfl (by omega) (by omega) (fun c4 => ?_) (fun c4 => ?_)
                  · have hu : ∀ i, i < 8 → upN (fun i => if i < z then i else g i) x' y' i < 64 := by
                      intro i hi
                      unfold upN
                      split
                      · omega
                      · exact id8 z (by omega) i hi
                    refine AW.aload_n 56 dX8_doPuts_55 rfl (by rfl) ?_
                    refine AW.getfield 59 dX8_doPuts_56 rfl fl_X8_25 (by assumption) (by rfl) ?_
                    refine AW.iload_n 60 dX8_doPuts_59 rfl (by rfl) ?_
                    refine AW.iload_n 61 dX8_doPuts_60 rfl (by rfl) ?_
                    refine AW.iastore 62 _ dX8_doPuts_61 rfl (by assumption) (ix_nI (by omega)) (by omega) ?_
                    rw [hs_hs, upd_nI]
                    have K2 := K.g202 hu
                    obtain ⟨_, _, _, _, _, _, y196, -⟩ := id K2.1
                    have y197 : hs h 202 (iA 8 (upN (fun i => if i < z then i else g i) x' y')) 197 = .inl (0, (15, .inl (nowF X.1))) := K2.2.1
                    obtain ⟨g2, G2⟩ := K2.grp
                    have G2 : GrpAt (hs h 202 (iA 8 (upN (fun i => if i < z then i else g i) x' y'))) X.1.1 (upN (fun i => if i < z then i else g i) x' y') := ⟨G2.1, G2.2.1, hs_eq _ _ _, G2.2.2.2.1, G2.2.2.2.2.1, hu⟩
                    refine AW.aload_n 63 dX8_doPuts_62 rfl (by rfl) ?_
                    refine AW.iload_n 64 dX8_doPuts_63 rfl (by rfl) ?_
                    refine AW.aload_n 65 dX8_doPuts_64 rfl (by rfl) ?_
                    refine AW.aload_n 66 dX8_doPuts_65 rfl (by rfl) ?_
                    refine AW.getfield 69 dX8_doPuts_66 rfl fl_X8_7 (by assumption) (by rfl) ?_
                    refine AW.iconst 70 dX8_doPuts_69 rfl (nI 1) rfl ?_
                    refine AW.iload_n 71 dX8_doPuts_70 rfl (by rfl) ?_
                    first | refine AW.iaddN 72 dX8_doPuts_71 rfl ?_ | refine AW.iadd 72 dX8_doPuts_71 rfl ?_
                    refine AW.iaload 73 _ dX8_doPuts_72 rfl (by assumption) (by first | exact Or.inl rfl | exact Or.inr rfl) (ix_nI (by omega)) (by omega) ?_
                    rw [nowF_c hs']
                    refine AW.aload_n 74 dX8_doPuts_73 rfl (by rfl) ?_
                    refine AW.cV0 77 dX8_doPuts_74 rfl mi_X8_packed mv_X8_packed lk_X8_72 ⟨(Nat.le_of_ble_eq_true rfl), (Nat.le_of_ble_eq_true rfl)⟩ rfl (by assumption) rfl (Nat.le_of_ble_eq_true rfl) (c_packed G2 ?_)
                    rw [show pkF X.1.1 (upN (fun i => if i < z then i else g i) x' y') = puM X.1.1 x' y' from pkF_congr (fun i hi => by unfold upN; split; rfl; exact if_pos (by omega))]
                    have wp : WfC X.1.1 (puM X.1.1 x' y') := WfC_pk w2
                    have ws := w3 s' hs'
                    refine AW.cV2 80 dX8_doPuts_77 rfl mi_X8_joined mv_X8_joined lk_X8_110 ⟨(Nat.le_of_ble_eq_true rfl), (Nat.le_of_ble_eq_true rfl)⟩ rfl (by assumption) rfl (Nat.le_of_ble_eq_true rfl) (c_joined G2 ws.1 wp.1 (fun x hx => by have := (wp.2 x hx).1; omega) ?_)
                    intro g' hg'
                    have K3 := K2.g202 hg'
                    obtain ⟨_, _, _, _, _, _, y196, -⟩ := id K3.1
                    refine AW.cV2 83 dX8_doPuts_80 rfl mi_X8_put mv_X8_put lk_X8_113 ⟨(Nat.le_of_ble_eq_true rfl), (Nat.le_of_ble_eq_true rfl)⟩ rfl (by assumption) rfl (Nat.le_of_ble_eq_true rfl) (r_put K3 hs' (WfC_pk w2) ?_)
                    intro h' K4 F4
                    refine AW.iret dX8_doPuts_83 rfl ?_
                    unfold Chg at hP
                    rw [uniteM, c1, c2, c3, cl_nI (by omega), cl_nI (by omega), cl_nI (by omega)] at hP
                    exact hP h' K4 (FrM.trans (FrM.trans (FrM.at (by omega)) (FrM.at (by omega))) F4)
                  · omega
                | succ k ih =>
                  intro z hz
                  have K' := K.g202 (id8 z (by omega))
                  obtain ⟨_, _, _, _, _, _, y196, -⟩ := id K'.1
                  have y197 : hs h 202 (iA 8 (fun i => if i < z then i else g i)) 197 = .inl (0, (15, .inl (nowF X.1))) := K'.2.1
                  have y202 : hs h 202 (iA 8 (fun i => if i < z then i else g i)) 202 = iA 8 (fun i => if i < z then i else g i) := hs_eq _ _ _
                  refine AW.iload 31 dX8_doPuts_29 rfl (by rfl) ?_
                  refine AW.aload_n 32 dX8_doPuts_31 rfl (by rfl) ?_
                  refine AW.getfield 35 dX8_doPuts_32 rfl fl_X8_7 (by assumption) (by rfl) ?_
                  refine AW.iconst 36 dX8_doPuts_35 rfl (nI 0) rfl ?_
                  refine AW.iaload 37 _ dX8_doPuts_36 rfl (by assumption) (by first | exact Or.inl rfl | exact Or.inr rfl) (ix_nI (by omega)) (by omega) ?_
                  rw [n0]
                  refine AW.nge 55 40 dX8_doPuts_37 (by decide) rfl (by omega) (by omega) (fun c4 => ?_) (fun c4 => ?_)
                  · omega
                  · refine AW.aload_n 41 dX8_doPuts_40 rfl (by rfl) ?_
                    refine AW.getfield 44 dX8_doPuts_41 rfl fl_X8_25 (by assumption) (by rfl) ?_
                    refine AW.iload 46 dX8_doPuts_44 rfl (by rfl) ?_
                    refine AW.iload 48 dX8_doPuts_46 rfl (by rfl) ?_
                    refine AW.iastore 49 _ dX8_doPuts_48 rfl (by assumption) (ix_nI (by omega)) (by omega) ?_
                    refine AW.iinc1 52 dX8_doPuts_49 rfl (by rfl) rfl ?_
                    refine AW.goto 29 dX8_doPuts_52 (by decide) ?_
                    rw [hs_hs, upd_nI, show upN (fun i => if i < z then i else g i) z z = (fun i => if i < z + 1 then i else g i) from funext fun i => by
                      unfold upN
                      by_cases e : i = z
                      · subst e; simp
                      · by_cases e2 : i < z
                        · simp [e, e2, Nat.lt_succ_of_lt e2]
                        · simp [e, e2, show ¬ i < z + 1 by omega]]
                    exact ih (z + 1) (by omega)
              have := L X.1.1 0 (by omega)
              rw [show (fun i => if i < 0 then i else g i) = g from funext fun i => by simp, hs_self g4] at this
              exact this
            · rw [e3] at c3; exact absurd c3 (by decide)
          · rw [e2] at c2; exact absurd c2 (by decide)
        · rw [e1] at c1; exact absurd c1 (by decide)
      · exact F (by rw [c3, Bool.and_false, Bool.and_false])
end REFA
