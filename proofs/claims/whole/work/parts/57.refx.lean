/-! THE MODEL, thirty-fourth part: push again, with what it leaves; an order carried out -/
theorem modO_inj {ps ty la ma at_ fa od ps' ty' la' ma' at' fa' od' : Int32} {d d' : Int64} (q : modO ps ty la ma at_ fa od d = modO ps' ty' la' ma' at' fa' od' d') : ps = ps' ∧ ty = ty' ∧ la = la' ∧ ma = ma' ∧ at_ = at' ∧ fa = fa' ∧ od = od' ∧ d = d' := by
  unfold modO at q
  simp only [Sum.inr.injEq, Prod.mk.injEq, List.cons.injEq, Value.int.injEq, Value.long.injEq, true_and, and_true] at q
  exact q
section REFX
variable {N n : Nat} {h : aH} {P : aP} {X : aX}
theorem r_pushO {τ : aS} (K : RfAt h X) (H : HldAt h τ) (w : WfS τ) (hP : ∀ h', RfAt h' (X.1, psU X.2.1 τ, X.2.2) → FrR h h' → (∀ a b c e, (∃ ps ty la ma, h 196 = modO ps ty la ma a b c e) → ∃ ps ty la ma, h' 196 = modO ps ty la ma a b c e) → P none N h') : AM X8_push [.ref 196] N h P := by
  obtain ⟨⟨la, ma, at_, fa, od, d, k1, kl⟩, k2, ⟨p1, p2, f, p3, p4⟩, k4, k5, k6, ⟨g, k7, k7'⟩, k8, k9⟩ := id K
  obtain ⟨q, q1, q2⟩ := H
  have fin : ∀ (p : Nat) (f' : Nat → Int32) (u : Nat → aS), p ≤ 4 → p + 1 = hdU X.2.1.1 → (∀ j, j < p → u j = X.2.1.2 j) → PfAt f' (p + 1) (fun j => if j = 0 then τ else u (j - 1)) → ∀ h', (∀ z, z ≠ 196 → z ≠ 199 → h' z = h z) → h' 196 = modO (nI (p + 1)) (nI X.2.2.2.2) la ma at_ fa od d → h' 199 = .inl (0, (75, .inl f')) → P none N h' := by
    intro p f' u hp ep eu hf h' e0 e1 e2
    refine hP h' ⟨⟨la, ma, at_, fa, od, d, ?_, kl.same (e0 _ (by decide) (by decide)) (e0 _ (by decide) (by decide))⟩, by rw [e0 _ (by decide) (by decide), k2], ⟨?_, ?_, f', e2, ?_⟩, by rw [e0 _ (by decide) (by decide), k4], by rw [e0 _ (by decide) (by decide), k5], k6, ⟨g, by rw [e0 _ (by decide) (by decide), k7], k7'⟩, k8.same (fun z hz => e0 z (by omega) (by omega)), k9⟩ (fun z hz => e0 z (by omega) (by omega)) (fun a b c e ⟨ps, ty, la', ma', q⟩ => ?_)
    · show h' 196 = modO (nI (hdU X.2.1.1)) _ _ _ _ _ _ _
      rw [← ep, e1]
    · show hdU X.2.1.1 ≤ 5
      omega
    · intro j hj
      have hj : j < hdU X.2.1.1 := hj
      show WfS (if j = 0 then τ else X.2.1.2 (j - 1))
      split
      · exact w
      · have : hdU X.2.1.1 ≤ X.2.1.1 + 1 := by unfold hdU; split <;> omega
        exact p2 _ (by omega)
    · intro j hj i hi
      have hj : j < hdU X.2.1.1 := hj
      show f' (15 * (hdU X.2.1.1 - 1 - j) + i) = nowF (if j = 0 then τ else X.2.1.2 (j - 1)) i
      rw [← ep] at hj ⊢
      rw [hf j hj i hi]
      show nowF (if j = 0 then τ else u (j - 1)) i = _
      by_cases j0 : j = 0
      · rw [if_pos j0, if_pos j0]
      · rw [if_neg j0, if_neg j0, eu _ (by omega)]
    · rw [k1] at q
      obtain ⟨-, -, -, -, a1, a2, a3, a4⟩ := modO_inj q
      exact ⟨_, _, _, _, by rw [e1, a1, a2, a3, a4]⟩
  refine AM.of0 rfl (Nat.le_of_ble_eq_true rfl) rfl [some (.ref 196), none] rfl ?_
  refine AW.aload_n 1 dX8_push_0 rfl (by rfl) ?_
  refine AW.getfield 4 dX8_push_1 rfl fl_X8_128 (by assumption) (by rfl) ?_
  refine AW.iconst 5 dX8_push_4 rfl (nI 5) rfl ?_
  refine AW.nne 47 8 dX8_push_5 (by decide) rfl (by omega) (by omega) (fun c => ?_) (fun c => ?_)
  · refine r_push1 (u := X.2.1.2) k1 p3 q1 q2 p4 (by omega) ?_ _
    intro f' hf'
    exact fin X.2.1.1 f' X.2.1.2 (by omega) (by rw [hdU, if_pos (by omega)]) (fun _ _ => rfl) hf' _ (fun z z1 z2 => by rw [hs_ne z1, hs_ne z2]) (hs_eq _ _ _) (by rw [hs_ne (by decide), hs_eq])
  · refine AW.iconst 9 dX8_push_8 rfl (nI 0) rfl ?_
    refine AW.istore_n 10 dX8_push_9 rfl (Nat.le_of_ble_eq_true rfl) rfl ?_
    have L : ∀ k x, x + k = 60 → AW X8_push 10 [some (.ref 196), some (.int (nI x))] [] N (0, 0) (hs h 199 (.inl (0, (75, .inl (fun i => if i < x then f (i + 15) else f i))))) P := by
      intro k
      induction k with
      | zero =>
        intro x hx
        have y196 := at_ne (a := 199) (e := (.inl (0, (75, .inl (fun i => if i < x then f (i + 15) else f i))) : aE)) k1 (by decide)
        refine AW.iload_n 11 dX8_push_10 rfl (by rfl) ?_
        refine AW.bipush 13 dX8_push_11 rfl (nI 60) rfl ?_
        refine AW.nge 37 16 dX8_push_13 (by decide) rfl (by omega) (by omega) (fun c2 => ?_) (fun c2 => ?_)
        · refine AW.aload_n 38 dX8_push_37 rfl (by rfl) ?_
          refine AW.dup 39 dX8_push_38 rfl rfl ?_
          refine AW.getfield 42 dX8_push_39 rfl fl_X8_128 (by assumption) (by rfl) ?_
          refine AW.iconst 43 dX8_push_42 rfl (nI 1) rfl ?_
          first | refine AW.isubN 44 dX8_push_43 rfl (by omega) ?_ | refine AW.isub 44 dX8_push_43 rfl ?_
          refine AW.putfield 47 dX8_push_44 rfl fl_X8_128 (by assumption) (Nat.le_of_ble_eq_true rfl) (fun _ => ⟨rfl, rfl⟩) ?_
          refine AW.heap (hs (hs h 199 (.inl (0, (75, .inl (fun i => if i < x then f (i + 15) else f i))))) 196 (modO (nI 4) (nI X.2.2.2.2) la ma at_ fa od d)) (by rw [c]; rfl) ?_
          refine r_push1 (p := 4) (u := X.2.1.2) (hs_eq _ _ _) (by rw [hs_ne (by decide), hs_eq]) (by rw [hs_ne (by decide), hs_ne (by decide), q1]) q2 ?_ (by omega) ?_ _
          · intro j hj i hi
            show (if 15 * (4 - 1 - j) + i < x then f (15 * (4 - 1 - j) + i + 15) else f (15 * (4 - 1 - j) + i)) = _
            rw [if_pos (by omega), ← p4 j (by omega) i hi, c]
            congr 1
            omega
          · intro f' hf'
            exact fin 4 f' X.2.1.2 (by omega) (by rw [hdU, if_neg (by omega)]) (fun _ _ => rfl) hf' _ (fun z z1 z2 => by rw [hs_ne z1, hs_ne z2, hs_ne z1, hs_ne z2]) (hs_eq _ _ _) (by rw [hs_ne (by decide), hs_eq])
        · omega
      | succ k ih =>
        intro x hx
        have y196 := at_ne (a := 199) (e := (.inl (0, (75, .inl (fun i => if i < x then f (i + 15) else f i))) : aE)) k1 (by decide)
        have y199 : hs h 199 (.inl (0, (75, .inl (fun i => if i < x then f (i + 15) else f i)))) 199 = .inl (0, (75, .inl (fun i => if i < x then f (i + 15) else f i))) := hs_eq _ _ _
        refine AW.iload_n 11 dX8_push_10 rfl (by rfl) ?_
        refine AW.bipush 13 dX8_push_11 rfl (nI 60) rfl ?_
        refine AW.nge 37 16 dX8_push_13 (by decide) rfl (by omega) (by omega) (fun c2 => ?_) (fun c2 => ?_)
        · omega
        · refine AW.aload_n 17 dX8_push_16 rfl (by rfl) ?_
          refine AW.getfield 20 dX8_push_17 rfl fl_X8_16 (by assumption) (by rfl) ?_
          refine AW.iload_n 21 dX8_push_20 rfl (by rfl) ?_
          refine AW.aload_n 22 dX8_push_21 rfl (by rfl) ?_
          refine AW.getfield 25 dX8_push_22 rfl fl_X8_16 (by assumption) (by rfl) ?_
          refine AW.iload_n 26 dX8_push_25 rfl (by rfl) ?_
          refine AW.bipush 28 dX8_push_26 rfl (nI 15) rfl ?_
          first | refine AW.iaddN 29 dX8_push_28 rfl ?_ | refine AW.iadd 29 dX8_push_28 rfl ?_
          refine AW.iaload 30 _ dX8_push_29 rfl (by assumption) (by first | exact Or.inl rfl | exact Or.inr rfl) (ix_nI (by omega)) (by omega) ?_
          rw [show (if x + 15 < x then f (x + 15 + 15) else f (x + 15)) = f (x + 15) from if_neg (by omega)]
          refine AW.iastore 31 _ dX8_push_30 rfl (by assumption) (ix_nI (by omega)) (by omega) ?_
          refine AW.iinc1 34 dX8_push_31 rfl (by rfl) rfl ?_
          refine AW.goto 10 dX8_push_34 (by decide) ?_
          rw [hs_hs, show upd (fun i => if i < x then f (i + 15) else f i) x (f (x + 15)) = (fun i => if i < x + 1 then f (i + 15) else f i) from funext fun i => by
            show (if i = x then f (x + 15) else if i < x then f (i + 15) else f i) = if i < x + 1 then f (i + 15) else f i
            by_cases e : i = x
            · rw [if_pos e, if_pos (by omega), e]
            · rw [if_neg e]
              by_cases e2 : i < x
              · rw [if_pos e2, if_pos (by omega)]
              · rw [if_neg e2, if_neg (by omega)]]
          exact ih (x + 1) (by omega)
    have := L 60 0 (by omega)
    rw [show (fun i => if i < 0 then f (i + 15) else f i) = f from funext fun i => by simp, hs_self p3] at this
    exact this
theorem RfAt.prs {h' : aH} {ps ty la ma at_ fa od at2 fa2 od2 : Int32} {d d2 : Int64} (K : RfAt h X) (x196 : h 196 = modO ps ty la ma at_ fa od d) (e196 : h' 196 = modO ps ty la ma at2 fa2 od2 d2) (e : ∀ z, z ≠ 196 → z ≠ 210 → z ≠ 211 → h' z = h z) (e210 : xA 60 h' 210) (e211 : xA 180 h' 211) : RfAt h' X := by
  obtain ⟨⟨la', ma', at', fa', od', d', q, kl⟩, -, -, -, -, -, ⟨g, g1, g2⟩, ⟨s1, s2, s3, s4, s5, s6, -, -⟩, -⟩ := id K
  rw [x196] at q
  obtain ⟨a1, a2, a3, a4, -, -, -, -⟩ := modO_inj q
  have f : ∀ z, z < 210 → z ≠ 196 → h' z = h z := fun z z1 z2 => e z z2 (by omega) (by omega)
  refine K.same (fun z hz => f z (by omega) (by omega)) ⟨la', ma', at2, fa2, od2, d2, by rw [e196, a1, a2, a3, a4], kl.same (f _ (by omega) (by omega)) (f _ (by omega) (by omega))⟩ ⟨g, by rw [f _ (by omega) (by omega), g1], g2⟩ ?_
  obtain ⟨f1, s1⟩ := s1
  obtain ⟨f2, s2⟩ := s2
  obtain ⟨f3, s3⟩ := s3
  obtain ⟨f4, s4⟩ := s4
  obtain ⟨f5, s5⟩ := s5
  obtain ⟨f6, s6⟩ := s6
  exact ⟨⟨f1, by rw [f _ (by omega) (by omega), s1]⟩, ⟨f2, by rw [f _ (by omega) (by omega), s2]⟩, ⟨f3, by rw [f _ (by omega) (by omega), s3]⟩, ⟨f4, by rw [f _ (by omega) (by omega), s4]⟩, ⟨f5, by rw [f _ (by omega) (by omega), s5]⟩, ⟨f6, by rw [f _ (by omega) (by omega), s6]⟩, e210, e211⟩
def carM (σ : aS) (L : Nat) (f : Nat → Int32) : Int32 × aS := if L = 110 then pointR σ (f 0) else if L = 112 then uniteM σ (f 0) (f 1) (f 2) else if L = 109 then meetM σ (f 0) (f 1) (f 2) else if L = 106 then joinM σ (f 0) (f 1) (f 2) else if L = 107 then compM σ (f 0) (f 1) else if L = 116 then turnM σ (f 0) (f 1) else if L = 117 then takeM σ (f 0) (f 1) else numR σ (f 0) (f 1)
theorem r_doOrder {i L : Nat} {lt V f : Nat → Int32} (K : RfAt h X) (x210 : h 210 = .inl (0, (60, .inl lt))) (x211 : h 211 = .inl (0, (180, .inl V))) (hi : i < 41) (eL : lt i = nI L) (hL : L = 110 ∨ L = 112 ∨ L = 109 ∨ L = 106 ∨ L = 107 ∨ L = 116 ∨ L = 117 ∨ L = 120) (hf : ∀ k, k < argF L → V (3 * i + k) = f k) (hP : Chg h X N P (carM X.1 L f)) : AM X8_doOrder [.ref 196, .int (nI i)] N h P := by
  obtain ⟨_, _, _, _, _, _, x196, -⟩ := id K.1
  refine AM.of0 rfl (Nat.le_of_ble_eq_true rfl) rfl [some (.ref 196), some (.int (nI i)), none, none, none] rfl ?_
  refine AW.aload_n 1 dX8_doOrder_0 rfl (by rfl) ?_
  refine AW.getfield 4 dX8_doOrder_1 rfl fl_X8_53 (by assumption) (by rfl) ?_
  refine AW.iconst 5 dX8_doOrder_4 rfl (nI 3) rfl ?_
  refine AW.iload_n 6 dX8_doOrder_5 rfl (by rfl) ?_
  first | refine AW.imulN 7 dX8_doOrder_6 rfl ?_ | refine AW.imul 7 dX8_doOrder_6 rfl ?_
  refine AW.iaload 8 _ dX8_doOrder_7 rfl (by assumption) (by first | exact Or.inl rfl | exact Or.inr rfl) (ix_nI (by omega)) (by omega) ?_
  refine AW.istore_n 9 dX8_doOrder_8 rfl (Nat.le_of_ble_eq_true rfl) rfl ?_
  refine AW.aload_n 10 dX8_doOrder_9 rfl (by rfl) ?_
  refine AW.getfield 13 dX8_doOrder_10 rfl fl_X8_53 (by assumption) (by rfl) ?_
  refine AW.iconst 14 dX8_doOrder_13 rfl (nI 3) rfl ?_
  refine AW.iload_n 15 dX8_doOrder_14 rfl (by rfl) ?_
  first | refine AW.imulN 16 dX8_doOrder_15 rfl ?_ | refine AW.imul 16 dX8_doOrder_15 rfl ?_
  refine AW.iconst 17 dX8_doOrder_16 rfl (nI 1) rfl ?_
  first | refine AW.iaddN 18 dX8_doOrder_17 rfl ?_ | refine AW.iadd 18 dX8_doOrder_17 rfl ?_
  refine AW.iaload 19 _ dX8_doOrder_18 rfl (by assumption) (by first | exact Or.inl rfl | exact Or.inr rfl) (ix_nI (by omega)) (by omega) ?_
  refine AW.istore_n 20 dX8_doOrder_19 rfl (Nat.le_of_ble_eq_true rfl) rfl ?_
  refine AW.aload_n 21 dX8_doOrder_20 rfl (by rfl) ?_
  refine AW.getfield 24 dX8_doOrder_21 rfl fl_X8_53 (by assumption) (by rfl) ?_
  refine AW.iconst 25 dX8_doOrder_24 rfl (nI 3) rfl ?_
  refine AW.iload_n 26 dX8_doOrder_25 rfl (by rfl) ?_
  first | refine AW.imulN 27 dX8_doOrder_26 rfl ?_ | refine AW.imul 27 dX8_doOrder_26 rfl ?_
  refine AW.iconst 28 dX8_doOrder_27 rfl (nI 2) rfl ?_
  first | refine AW.iaddN 29 dX8_doOrder_28 rfl ?_ | refine AW.iadd 29 dX8_doOrder_28 rfl ?_
  refine AW.iaload 30 _ dX8_doOrder_29 rfl (by assumption) (by first | exact Or.inl rfl | exact Or.inr rfl) (ix_nI (by omega)) (by omega) ?_
  refine AW.istore 32 dX8_doOrder_30 rfl (Nat.le_of_ble_eq_true rfl) rfl ?_
  refine AW.aload_n 33 dX8_doOrder_32 rfl (by rfl) ?_
  refine AW.getfield 36 dX8_doOrder_33 rfl fl_X8_50 (by assumption) (by rfl) ?_
  refine AW.iload_n 37 dX8_doOrder_36 rfl (by rfl) ?_
  refine AW.iaload 38 _ dX8_doOrder_37 rfl (by assumption) (by first | exact Or.inl rfl | exact Or.inr rfl) (ix_nI (by omega)) (by omega) ?_
  rw [eL]
  rcases hL with rfl | rfl | rfl | rfl | rfl | rfl | rfl | rfl
  · have hP : Chg h X N P (pointR X.1 (f 0)) := hP
    have e0 : V (3 * i) = f 0 := hf 0 (by decide)
    refine AW.tsIn 100 dX8_doOrder_38 (by decide) (by decide) rfl (by decide) ?_
    refine AW.aload_n 101 dX8_doOrder_100 rfl (by rfl) ?_
    refine AW.iload_n 102 dX8_doOrder_101 rfl (by rfl) ?_
    rw [e0]
    refine AW.cV1 105 dX8_doOrder_102 rfl mi_X8_doPoints mv_X8_doPoints lk_X8_140 ⟨(Nat.le_of_ble_eq_true rfl), (Nat.le_of_ble_eq_true rfl)⟩ rfl (by assumption) rfl (Nat.le_of_ble_eq_true rfl) (r_doPoints K ?_)
    intro h' K' F
    refine AW.iret dX8_doOrder_105 rfl ?_
    exact hP h' K' F
  · have hP : Chg h X N P (uniteM X.1 (f 0) (f 1) (f 2)) := hP
    have e0 : V (3 * i) = f 0 := hf 0 (by decide)
    have e1 : V (3 * i + 1) = f 1 := hf 1 (by decide)
    have e2 : V (3 * i + 2) = f 2 := hf 2 (by decide)
    refine AW.tsIn 106 dX8_doOrder_38 (by decide) (by decide) rfl (by decide) ?_
    refine AW.aload_n 107 dX8_doOrder_106 rfl (by rfl) ?_
    refine AW.iload_n 108 dX8_doOrder_107 rfl (by rfl) ?_
    refine AW.iload_n 109 dX8_doOrder_108 rfl (by rfl) ?_
    refine AW.iload 111 dX8_doOrder_109 rfl (by rfl) ?_
    rw [e0, e1, e2]
    refine AW.cV3 114 dX8_doOrder_111 rfl mi_X8_doPuts mv_X8_doPuts lk_X8_146 ⟨(Nat.le_of_ble_eq_true rfl), (Nat.le_of_ble_eq_true rfl)⟩ rfl (by assumption) rfl (Nat.le_of_ble_eq_true rfl) (r_doPuts K ?_)
    intro h' K' F
    refine AW.iret dX8_doOrder_114 rfl ?_
    exact hP h' K' F
  · have hP : Chg h X N P (meetM X.1 (f 0) (f 1) (f 2)) := hP
    have e0 : V (3 * i) = f 0 := hf 0 (by decide)
    have e1 : V (3 * i + 1) = f 1 := hf 1 (by decide)
    have e2 : V (3 * i + 2) = f 2 := hf 2 (by decide)
    refine AW.tsIn 115 dX8_doOrder_38 (by decide) (by decide) rfl (by decide) ?_
    refine AW.aload_n 116 dX8_doOrder_115 rfl (by rfl) ?_
    refine AW.iload_n 117 dX8_doOrder_116 rfl (by rfl) ?_
    refine AW.iload_n 118 dX8_doOrder_117 rfl (by rfl) ?_
    refine AW.iload 120 dX8_doOrder_118 rfl (by rfl) ?_
    rw [e0, e1, e2]
    refine AW.cV3 123 dX8_doOrder_120 rfl mi_X8_doMeets mv_X8_doMeets lk_X8_150 ⟨(Nat.le_of_ble_eq_true rfl), (Nat.le_of_ble_eq_true rfl)⟩ rfl (by assumption) rfl (Nat.le_of_ble_eq_true rfl) (r_doMeets K ?_)
    intro h' K' F
    refine AW.iret dX8_doOrder_123 rfl ?_
    exact hP h' K' F
  · have hP : Chg h X N P (joinM X.1 (f 0) (f 1) (f 2)) := hP
    have e0 : V (3 * i) = f 0 := hf 0 (by decide)
    have e1 : V (3 * i + 1) = f 1 := hf 1 (by decide)
    have e2 : V (3 * i + 2) = f 2 := hf 2 (by decide)
    refine AW.tsIn 124 dX8_doOrder_38 (by decide) (by decide) rfl (by decide) ?_
    refine AW.aload_n 125 dX8_doOrder_124 rfl (by rfl) ?_
    refine AW.iload_n 126 dX8_doOrder_125 rfl (by rfl) ?_
    refine AW.iload_n 127 dX8_doOrder_126 rfl (by rfl) ?_
    refine AW.iload 129 dX8_doOrder_127 rfl (by rfl) ?_
    rw [e0, e1, e2]
    refine AW.cV3 132 dX8_doOrder_129 rfl mi_X8_doJoins mv_X8_doJoins lk_X8_153 ⟨(Nat.le_of_ble_eq_true rfl), (Nat.le_of_ble_eq_true rfl)⟩ rfl (by assumption) rfl (Nat.le_of_ble_eq_true rfl) (r_doJoins K ?_)
    intro h' K' F
    refine AW.iret dX8_doOrder_132 rfl ?_
    exact hP h' K' F
  · have hP : Chg h X N P (compM X.1 (f 0) (f 1)) := hP
    have e0 : V (3 * i) = f 0 := hf 0 (by decide)
    have e1 : V (3 * i + 1) = f 1 := hf 1 (by decide)
    refine AW.tsIn 133 dX8_doOrder_38 (by decide) (by decide) rfl (by decide) ?_
    refine AW.aload_n 134 dX8_doOrder_133 rfl (by rfl) ?_
    refine AW.iload_n 135 dX8_doOrder_134 rfl (by rfl) ?_
    refine AW.iload_n 136 dX8_doOrder_135 rfl (by rfl) ?_
    rw [e0, e1]
    refine AW.cV2 139 dX8_doOrder_136 rfl mi_X8_doComplements mv_X8_doComplements lk_X8_156 ⟨(Nat.le_of_ble_eq_true rfl), (Nat.le_of_ble_eq_true rfl)⟩ rfl (by assumption) rfl (Nat.le_of_ble_eq_true rfl) (r_doComplements K ?_)
    intro h' K' F
    refine AW.iret dX8_doOrder_139 rfl ?_
    exact hP h' K' F
  · have hP : Chg h X N P (turnM X.1 (f 0) (f 1)) := hP
    have e0 : V (3 * i) = f 0 := hf 0 (by decide)
    have e1 : V (3 * i + 1) = f 1 := hf 1 (by decide)
    refine AW.tsIn 140 dX8_doOrder_38 (by decide) (by decide) rfl (by decide) ?_
    refine AW.aload_n 141 dX8_doOrder_140 rfl (by rfl) ?_
    refine AW.iload_n 142 dX8_doOrder_141 rfl (by rfl) ?_
    refine AW.iload_n 143 dX8_doOrder_142 rfl (by rfl) ?_
    rw [e0, e1]
    refine AW.cV2 146 dX8_doOrder_143 rfl mi_X8_doTurns mv_X8_doTurns lk_X8_159 ⟨(Nat.le_of_ble_eq_true rfl), (Nat.le_of_ble_eq_true rfl)⟩ rfl (by assumption) rfl (Nat.le_of_ble_eq_true rfl) (r_doTurns K ?_)
    intro h' K' F
    refine AW.iret dX8_doOrder_146 rfl ?_
    exact hP h' K' F
  · have hP : Chg h X N P (takeM X.1 (f 0) (f 1)) := hP
    have e0 : V (3 * i) = f 0 := hf 0 (by decide)
    have e1 : V (3 * i + 1) = f 1 := hf 1 (by decide)
    refine AW.tsIn 147 dX8_doOrder_38 (by decide) (by decide) rfl (by decide) ?_
    refine AW.aload_n 148 dX8_doOrder_147 rfl (by rfl) ?_
    refine AW.iload_n 149 dX8_doOrder_148 rfl (by rfl) ?_
    refine AW.iload_n 150 dX8_doOrder_149 rfl (by rfl) ?_
    rw [e0, e1]
    refine AW.cV2 153 dX8_doOrder_150 rfl mi_X8_doTakes mv_X8_doTakes lk_X8_162 ⟨(Nat.le_of_ble_eq_true rfl), (Nat.le_of_ble_eq_true rfl)⟩ rfl (by assumption) rfl (Nat.le_of_ble_eq_true rfl) (r_doTakes K ?_)
    intro h' K' F
    refine AW.iret dX8_doOrder_153 rfl ?_
    exact hP h' K' F
  · have hP : Chg h X N P (numR X.1 (f 0) (f 1)) := hP
    have e0 : V (3 * i) = f 0 := hf 0 (by decide)
    have e1 : V (3 * i + 1) = f 1 := hf 1 (by decide)
    refine AW.tsOut 154 dX8_doOrder_38 (Or.inr (by decide)) (by decide) ?_
    refine AW.aload_n 155 dX8_doOrder_154 rfl (by rfl) ?_
    refine AW.iload_n 156 dX8_doOrder_155 rfl (by rfl) ?_
    refine AW.iload_n 157 dX8_doOrder_156 rfl (by rfl) ?_
    rw [e0, e1]
    refine AW.cV2 160 dX8_doOrder_157 rfl mi_X8_doNumber mv_X8_doNumber lk_X8_165 ⟨(Nat.le_of_ble_eq_true rfl), (Nat.le_of_ble_eq_true rfl)⟩ rfl (by assumption) rfl (Nat.le_of_ble_eq_true rfl) (r_doNumber K ?_)
    intro h' K' F
    refine AW.iret dX8_doOrder_160 rfl ?_
    exact hP h' K' F
end REFX
