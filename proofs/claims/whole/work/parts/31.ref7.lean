/-! THE MODEL, eighth part: number, refusals, the orders' work -/
def FrM (h h' : aH) : Prop := (∀ z, z < 196 ∨ (198 ≤ z ∧ z < 202) ∨ 210 ≤ z → h' z = h z) ∧ ∀ a b c d, (∃ ps ty la ma, h 196 = modO ps ty la ma a b c d) → ∃ ps ty la ma, h' 196 = modO ps ty la ma a b c d
def FrL (h h' : aH) : Prop := (∀ z, z ≠ 196 → z ≠ 202 → z ≠ 203 → z ≠ 204 → h' z = h z) ∧ ∀ a b c d, (∃ ps ty la ma, h 196 = modO ps ty la ma a b c d) → ∃ ps ty la ma, h' 196 = modO ps ty la ma a b c d
theorem FrL.m {h h' : aH} (F : FrL h h') : FrM h h' := ⟨fun z hz => F.1 z (by omega) (by omega) (by omega) (by omega), F.2⟩
theorem FrL.refl {h : aH} : FrL h h := ⟨fun _ _ _ _ _ => rfl, fun _ _ _ _ q => q⟩
def bsF (n c : Nat) : Nat → Nat → Nat → Nat
  | 0, lo, _ => lo
  | k + 1, lo, hi => if lo < hi then (if tb n ((lo + hi) / 2) < c then bsF n c k ((lo + hi) / 2 + 1) hi else bsF n c k lo ((lo + hi) / 2)) else lo
def numM (n c : Nat) : Nat := bsF n c (catN n) 0 (catN n - 1)
theorem tb_lt (n k : Nat) : tb n k < 16777216 := Nat.mod_lt _ (Nat.pow_pos (by decide))
theorem bs_lt {n c : Nat} : ∀ k lo hi M, lo ≤ M → hi ≤ M → bsF n c k lo hi ≤ M := by
  intro k
  induction k with
  | zero => intro lo hi M h1 _; exact h1
  | succ k ih =>
    intro lo hi M h1 h2
    rw [bsF]
    split
    · split
      · exact ih _ _ _ (by omega) h2
      · exact ih _ _ _ h1 (by omega)
    · exact h1
theorem numM_lt (n c : Nat) (hn : n ≤ 8) : numM n c < catN n := by
  have := catN_pos n hn
  have := @bs_lt n c (catN n) 0 (catN n - 1) (catN n - 1) (by omega) (Nat.le_refl _)
  unfold numM
  omega
section REF7
variable {N n : Nat} {h : aH} {P : aP} {X : aX}
theorem FrM.refl : FrM h h := ⟨fun _ _ => rfl, fun _ _ _ _ q => q⟩
theorem FrM.trans {h1 h2 : aH} (a : FrM h h1) (b : FrM h1 h2) : FrM h h2 := ⟨fun z hz => by rw [b.1 z hz, a.1 z hz], fun x y z w q => b.2 x y z w (a.2 x y z w q)⟩
theorem FrM.c {h1 : aH} (a : FrM h h1) : FrR h h1 := fun z hz => a.1 z (by omega)
theorem FrM.at {k : Nat} {e : aE} (hk : k = 197 ∨ (202 ≤ k ∧ k < 210)) : FrM h (hs h k e) := ⟨fun z hz => hs_ne (by omega), fun x y z w ⟨ps, ty, la, ma, q⟩ => ⟨ps, ty, la, ma, by rw [hs_ne (by omega), q]⟩⟩
theorem r_layL (K : RfAt h X) (hP : ∀ h', RfAt h' X → LdAt h' X.1.1 → FrL h h' → P none N h') : AM X8_lay [.ref 196] N h P := by
  obtain ⟨⟨la, ma, at_, fa, od, d, k1, kl⟩, k2, k3, k4, k5, k6, ⟨g, k7, k7'⟩, k8, k9⟩ := id K
  have k2' : h 197 = .inl (0, (15, .inl (nowF X.1))) := k2
  have n0 : nowF X.1 0 = nI X.1.1 := rfl
  obtain ⟨v1, v2, v3⟩ := k9
  refine AM.of0 rfl (Nat.le_of_ble_eq_true rfl) rfl [some (.ref 196), none, none, none, none] rfl ?_
  refine AW.aload_n 1 dX8_lay_0 rfl (by rfl) ?_
  refine AW.getfield 4 dX8_lay_1 rfl fl_X8_83 (by assumption) (by rfl) ?_
  refine AW.aload_n 5 dX8_lay_4 rfl (by rfl) ?_
  refine AW.getfield 8 dX8_lay_5 rfl fl_X8_7 (by assumption) (by rfl) ?_
  refine AW.iconst 9 dX8_lay_8 rfl (nI 0) rfl ?_
  refine AW.iaload 10 _ dX8_lay_9 rfl (by assumption) (by first | exact Or.inl rfl | exact Or.inr rfl) (ix_nI (by omega)) (by omega) ?_
  have go : AW X8_lay 14 [some (.ref 196), none, none, none, none] [] N (0, 0) h P := by
    refine AW.aload_n 15 dX8_lay_14 rfl (by rfl) ?_
    refine AW.aload_n 16 dX8_lay_15 rfl (by rfl) ?_
    refine AW.getfield 19 dX8_lay_16 rfl fl_X8_7 (by assumption) (by rfl) ?_
    refine AW.iconst 20 dX8_lay_19 rfl (nI 0) rfl ?_
    refine AW.iaload 21 _ dX8_lay_20 rfl (by assumption) (by first | exact Or.inl rfl | exact Or.inr rfl) (ix_nI (by omega)) (by omega) ?_
    rw [n0]
    refine AW.putfield 24 dX8_lay_21 rfl fl_X8_83 (by assumption) (Nat.le_of_ble_eq_true rfl) (fun _ => ⟨rfl, rfl⟩) ?_
    refine AW.heap (hs h 196 (modO (nI X.2.1.1) (nI X.2.2.2.2) (nI X.1.1) ma at_ fa od d)) rfl ?_
    have z196 : hs h 196 (modO (nI X.2.1.1) (nI X.2.2.2.2) (nI X.1.1) ma at_ fa od d) 196 = modO (nI X.2.1.1) (nI X.2.2.2.2) (nI X.1.1) ma at_ fa od d := hs_eq _ _ _
    have z197 : hs h 196 (modO (nI X.2.1.1) (nI X.2.2.2.2) (nI X.1.1) ma at_ fa od d) 197 = .inl (0, (15, .inl (nowF X.1))) := by rw [hs_ne (by decide), k2']
    refine AW.aload_n 25 dX8_lay_24 rfl (by rfl) ?_
    refine AW.iconst 26 dX8_lay_25 rfl (nI 0) rfl ?_
    refine AW.putfield 29 dX8_lay_26 rfl fl_X8_87 (by assumption) (Nat.le_of_ble_eq_true rfl) (fun _ => ⟨rfl, rfl⟩) ?_
    refine AW.heap (hs (hs h 196 (modO (nI X.2.1.1) (nI X.2.2.2.2) (nI X.1.1) ma at_ fa od d)) 196 (modO (nI X.2.1.1) (nI X.2.2.2.2) (nI X.1.1) (nI 0) at_ fa od d)) rfl ?_
    have z196 : hs (hs h 196 (modO (nI X.2.1.1) (nI X.2.2.2.2) (nI X.1.1) ma at_ fa od d)) 196 (modO (nI X.2.1.1) (nI X.2.2.2.2) (nI X.1.1) (nI 0) at_ fa od d) 196 = modO (nI X.2.1.1) (nI X.2.2.2.2) (nI X.1.1) (nI 0) at_ fa od d := hs_eq _ _ _
    have z197 : hs (hs h 196 (modO (nI X.2.1.1) (nI X.2.2.2.2) (nI X.1.1) ma at_ fa od d)) 196 (modO (nI X.2.1.1) (nI X.2.2.2.2) (nI X.1.1) (nI 0) at_ fa od d) 197 = .inl (0, (15, .inl (nowF X.1))) := by rw [hs_ne (by decide), hs_ne (by decide), k2']
    refine AW.aload_n 30 dX8_lay_29 rfl (by rfl) ?_
    refine AW.getfield 33 dX8_lay_30 rfl fl_X8_7 (by assumption) (by rfl) ?_
    refine AW.iconst 34 dX8_lay_33 rfl (nI 0) rfl ?_
    refine AW.iaload 35 _ dX8_lay_34 rfl (by assumption) (by first | exact Or.inl rfl | exact Or.inr rfl) (ix_nI (by omega)) (by omega) ?_
    rw [n0]
    refine AW.istore_n 36 dX8_lay_35 rfl (Nat.le_of_ble_eq_true rfl) rfl ?_
    refine AW.iconst 37 dX8_lay_36 rfl (nI 0) rfl ?_
    refine AW.istore_n 38 dX8_lay_37 rfl (Nat.le_of_ble_eq_true rfl) rfl ?_
    refine AW.iconst 39 dX8_lay_38 rfl (nI 1) rfl ?_
    refine AW.istore_n 40 dX8_lay_39 rfl (Nat.le_of_ble_eq_true rfl) rfl ?_
    obtain ⟨F, hF⟩ := ly_all X.1.1 v1 v2
    have hs0 : hs (hs h 196 (modO (nI X.2.1.1) (nI X.2.2.2.2) (nI X.1.1) ma at_ fa od d)) 196 (modO (nI X.2.1.1) (nI X.2.2.2.2) (nI X.1.1) (nI 0) at_ fa od d) = hs h 196 (modO (nI X.2.1.1) (nI X.2.2.2.2) (nI X.1.1) (nI 0) at_ fa od d) := hs_hs _ _ _ _
    refine AW.heap (hs h 196 (modO (nI X.2.1.1) (nI X.2.2.2.2) (nI X.1.1) (nI 0) at_ fa od d)) hs0 ?_
    have hx : xA 1430 h 203 ∧ xA 1430 h 204 := by
      rcases kl with ⟨-, q⟩ | ⟨m, -, -, -, -, f, r, q1, q2, -⟩
      · exact q
      · exact ⟨⟨f, q1⟩, ⟨r, q2⟩⟩
    obtain ⟨⟨f, q1⟩, ⟨r, q2⟩⟩ := hx
    refine r_layIn (f := nowF X.1) (h := hs h 196 (modO (nI X.2.1.1) (nI X.2.2.2.2) (nI X.1.1) (nI 0) at_ fa od d)) (by rw [hs_ne (by decide), k2']) n0 v1 v2 ?_ F 0 0 hF (Nat.zero_mod _) _ ⟨⟨_, _, _, _, _, _, _, _, hs_eq _ _ _, hs_eq _ _ _⟩, rfl, ⟨g, by rw [hs_ne (by decide), k7], k7'⟩, ⟨f, r, by rw [hs_ne (by decide), q1], by rw [hs_ne (by decide), q2], fun i hi => by omega⟩, fun _ _ _ _ _ => rfl⟩ _
    intro H B
    obtain ⟨⟨ps, ty, la', ma', at', fa', od', d', b0, b1⟩, b2, b3, ⟨f', r', b4, b5, b6⟩, b7⟩ := id B
    rw [hs_eq] at b0
    have T : TabAt H X.1.1 := ⟨f', r', b4, b5, b6⟩
    have e0 : ∀ z, z ≠ 196 → z ≠ 202 → z ≠ 203 → z ≠ 204 → H z = h z := fun z z1 z2 z3 z4 => by rw [b7 z z1 z2 z3 z4, hs_ne z1]
    have e1 : H 196 = modO (nI X.2.1.1) (nI X.2.2.2.2) (nI X.1.1) (nI (catN X.1.1)) at_ fa od d := by
      unfold modO at b0 b1 ⊢
      simp only [Sum.inr.injEq, Prod.mk.injEq, List.cons.injEq, Value.int.injEq, Value.long.injEq, true_and, and_true] at b0
      obtain ⟨a1, a2, -, -, a5, a6, a7, a8⟩ := b0
      rw [b1, ← a1, ← a2, ← a5, ← a6, ← a7, ← a8]
    refine hP H (K.same (fun z hz => e0 z (by omega) (by omega) (by omega) (by omega)) ⟨_, _, _, _, _, _, e1, Or.inr ⟨X.1.1, v1, v2, rfl, rfl, T⟩⟩ b3 (k8.same (fun z hz => e0 z (by omega) (by omega) (by omega) (by omega)))) ⟨⟨_, _, _, _, _, _, e1⟩, T⟩ ⟨e0, ?_⟩
    intro a b c e ⟨ps, ty, la, ma, q⟩
    rw [k1] at q
    unfold modO at q
    simp only [Sum.inr.injEq, Prod.mk.injEq, List.cons.injEq, Value.int.injEq, Value.long.injEq, true_and, and_true] at q
    obtain ⟨a1, a2, -, -, a5, a6, a7, a8⟩ := q
    exact ⟨_, _, _, _, by rw [e1, a5, a6, a7, a8]⟩
  refine AW.icmp_ne 14 13 dX8_lay_10 (by decide) rfl (fun c => ?_) (fun c => ?_)
  · exact go
  · rw [n0] at c
    refine AW.vret dX8_lay_13 rfl ?_
    rcases kl with ⟨e, -⟩ | ⟨m, m1, m2, m3, m4, T⟩
    · rw [e] at c
      have := (nI_eq (by omega) (by omega)).mp c
      omega
    · rw [m3] at c
      have := (nI_eq (by omega) (by omega)).mp c
      subst this
      exact hP h K ⟨⟨_, _, _, _, _, _, by rw [k1, m3, m4]⟩, T⟩ FrL.refl
theorem r_lay (K : RfAt h X) (hP : ∀ h', RfAt h' X → LdAt h' X.1.1 → FrM h h' → P none N h') : AM X8_lay [.ref 196] N h P := r_layL K (fun h' a b c => hP h' a b c.m)
theorem r_numberOfL {c : Nat} (K : RfAt h X) (hc : c < 16777216) (hP : ∀ h', RfAt h' X → LdAt h' X.1.1 → FrL h h' → P (some (.int (nI (numM X.1.1 c)))) N h') : AM X8_numberOf [.ref 196, .int (nI c)] N h P := by
  have v2 := K.2.2.2.2.2.2.2.2.2.1
  obtain ⟨_, _, _, _, _, _, x196, -⟩ := K.1
  refine AM.of0 rfl (Nat.le_of_ble_eq_true rfl) rfl [some (.ref 196), some (.int (nI c)), none, none, none] rfl ?_
  refine AW.aload_n 1 dX8_numberOf_0 rfl (by rfl) ?_
  refine AW.cV0 4 dX8_numberOf_1 rfl mi_X8_lay mv_X8_lay lk_X8_97 ⟨(Nat.le_of_ble_eq_true rfl), (Nat.le_of_ble_eq_true rfl)⟩ rfl (by assumption) rfl (Nat.le_of_ble_eq_true rfl) (r_layL K ?_)
  intro h' K' D F
  obtain ⟨⟨_, _, _, _, _, _, y1⟩, f, r, y2, y3, y4⟩ := id D
  have c1 := catN_pos X.1.1 v2
  have c2 := catN_le X.1.1 v2
  refine AW.iconst 5 dX8_numberOf_4 rfl (nI 0) rfl ?_
  refine AW.istore_n 6 dX8_numberOf_5 rfl (Nat.le_of_ble_eq_true rfl) rfl ?_
  refine AW.aload_n 7 dX8_numberOf_6 rfl (by rfl) ?_
  refine AW.getfield 10 dX8_numberOf_7 rfl fl_X8_87 (by assumption) (by rfl) ?_
  refine AW.iconst 11 dX8_numberOf_10 rfl (nI 1) rfl ?_
  first | refine AW.isubN 12 dX8_numberOf_11 rfl (by omega) ?_ | refine AW.isub 12 dX8_numberOf_11 rfl ?_
  refine AW.istore_n 13 dX8_numberOf_12 rfl (Nat.le_of_ble_eq_true rfl) rfl ?_
  have L : ∀ k lo hi v4, hi - lo ≤ k → hi < catN X.1.1 → lo < catN X.1.1 → bsF X.1.1 c k lo hi = numM X.1.1 c → AW X8_numberOf 13 [some (.ref 196), some (.int (nI c)), some (.int (nI lo)), some (.int (nI hi)), v4] [] N (0, 0) h' P := by
    intro k
    induction k with
    | zero =>
      intro lo hi v4 hk h1 h2 e
      refine AW.iload_n 14 dX8_numberOf_13 rfl (by rfl) ?_
      refine AW.iload_n 15 dX8_numberOf_14 rfl (by rfl) ?_
      refine AW.nge 50 18 dX8_numberOf_15 (by decide) rfl (by omega) (by omega) (fun c3 => ?_) (fun c3 => ?_)
      · refine AW.iload_n 51 dX8_numberOf_50 rfl (by rfl) ?_
        refine AW.iret dX8_numberOf_51 rfl ?_
        rw [bsF] at e
        rw [e]
        exact hP h' K' D F
      · omega
    | succ k ih =>
      intro lo hi v4 hk h1 h2 e
      rw [bsF] at e
      refine AW.iload_n 14 dX8_numberOf_13 rfl (by rfl) ?_
      refine AW.iload_n 15 dX8_numberOf_14 rfl (by rfl) ?_
      refine AW.nge 50 18 dX8_numberOf_15 (by decide) rfl (by omega) (by omega) (fun c3 => ?_) (fun c3 => ?_)
      · refine AW.iload_n 51 dX8_numberOf_50 rfl (by rfl) ?_
        refine AW.iret dX8_numberOf_51 rfl ?_
        rw [if_neg (by omega)] at e
        rw [e]
        exact hP h' K' D F
      · rw [if_pos c3] at e
        refine AW.iload_n 19 dX8_numberOf_18 rfl (by rfl) ?_
        refine AW.iload_n 20 dX8_numberOf_19 rfl (by rfl) ?_
        first | refine AW.iaddN 21 dX8_numberOf_20 rfl ?_ | refine AW.iadd 21 dX8_numberOf_20 rfl ?_
        refine AW.iconst 22 dX8_numberOf_21 rfl (nI 2) rfl ?_
        refine AW.idivN 23 dX8_numberOf_22 rfl (by omega) (by omega) (by omega) ?_
        refine AW.istore 25 dX8_numberOf_23 rfl (Nat.le_of_ble_eq_true rfl) rfl ?_
        refine AW.aload_n 26 dX8_numberOf_25 rfl (by rfl) ?_
        refine AW.getfield 29 dX8_numberOf_26 rfl fl_X8_28 (by assumption) (by rfl) ?_
        refine AW.iload 31 dX8_numberOf_29 rfl (by rfl) ?_
        refine AW.iaload 32 _ dX8_numberOf_31 rfl (by assumption) (by first | exact Or.inl rfl | exact Or.inr rfl) (ix_nI (by omega)) (by omega) ?_
        rw [(y4 ((lo + hi) / 2) (by omega)).1]
        refine AW.iload_n 33 dX8_numberOf_32 rfl (by rfl) ?_
        have := tb_lt X.1.1 ((lo + hi) / 2)
        refine AW.nge 44 36 dX8_numberOf_33 (by decide) rfl (by omega) (by omega) (fun c4 => ?_) (fun c4 => ?_)
        · rw [if_neg (by omega)] at e
          refine AW.iload 46 dX8_numberOf_44 rfl (by rfl) ?_
          refine AW.istore_n 47 dX8_numberOf_46 rfl (Nat.le_of_ble_eq_true rfl) rfl ?_
          refine AW.goto 13 dX8_numberOf_47 (by decide) ?_
          exact ih _ _ _ (by omega) (by omega) (by omega) e
        · rw [if_pos c4] at e
          refine AW.iload 38 dX8_numberOf_36 rfl (by rfl) ?_
          refine AW.iconst 39 dX8_numberOf_38 rfl (nI 1) rfl ?_
          first | refine AW.iaddN 40 dX8_numberOf_39 rfl ?_ | refine AW.iadd 40 dX8_numberOf_39 rfl ?_
          refine AW.istore_n 41 dX8_numberOf_40 rfl (Nat.le_of_ble_eq_true rfl) rfl ?_
          refine AW.goto 47 dX8_numberOf_41 (by decide) ?_
          refine AW.goto 13 dX8_numberOf_47 (by decide) ?_
          exact ih _ _ _ (by omega) (by omega) (by omega) e
  exact L (catN X.1.1) 0 (catN X.1.1 - 1) _ (by omega) (by omega) (by omega) rfl
theorem r_numberOf {c : Nat} (K : RfAt h X) (hc : c < 16777216) (hP : ∀ h', RfAt h' X → LdAt h' X.1.1 → FrM h h' → P (some (.int (nI (numM X.1.1 c)))) N h') : AM X8_numberOf [.ref 196, .int (nI c)] N h P := r_numberOfL K hc (fun h' a b c => hP h' a b c.m)
theorem RfAt.cnt {c : Nat × Nat × Nat} (K : RfAt h X) : RfAt (hs h 200 (iA 3 (refA c))) (X.1, X.2.1, c, X.2.2.2) := by
  obtain ⟨⟨la, ma, at_, fa, od, d, k1, kl⟩, k2, ⟨p1, p2, f, p3, p4⟩, k4, k5, k6, ⟨g, k7, k7'⟩, k8, k9⟩ := K
  exact ⟨⟨la, ma, at_, fa, od, d, by rw [hs_ne (by decide), k1], kl.same (hs_ne (by decide)) (hs_ne (by decide))⟩, by rw [hs_ne (by decide), k2], ⟨p1, p2, f, by rw [hs_ne (by decide), p3], p4⟩, hs_eq _ _ _, by rw [hs_ne (by decide), k5], k6, ⟨g, by rw [hs_ne (by decide), k7], k7'⟩, k8.same (fun z hz => hs_ne (by omega)), k9⟩
theorem refA_up (c : Nat × Nat × Nat) : upN (refA c) 0 (refA c 0 + 1) = refA (c.1 + 1, c.2) ∧ upN (refA c) 1 (refA c 1 + 1) = refA (c.1, c.2.1 + 1, c.2.2) ∧ upN (refA c) 2 (refA c 2 + 1) = refA (c.1, c.2.1, c.2.2 + 1) := by
  refine ⟨?_, ?_, ?_⟩ <;> funext i <;> unfold upN refA <;> (by_cases a : i = 0 <;> by_cases b : i = 1 <;> by_cases e : i = 2 <;> simp [a, b, e] <;> omega)
theorem r_bad (K : RfAt h X) (hP : ∀ h', RfAt h' (badX X).2 → FrR h h' → P (some (.int (badX X).1)) N h') : AM X8_refuses [.ref 196, .int (-2)] N h P := by
  obtain ⟨_, _, _, _, _, _, x196, -⟩ := K.1
  have x200 := K.2.2.2.1
  refine AM.of0 rfl (Nat.le_of_ble_eq_true rfl) rfl [some (.ref 196), some (.int (-2))] rfl ?_
  refine AW.aload_n 1 dX8_refuses_0 rfl (by rfl) ?_
  refine AW.getfield 4 dX8_refuses_1 rfl fl_X8_19 (by assumption) (by rfl) ?_
  refine AW.bipush 6 dX8_refuses_4 rfl (-2) rfl ?_
  refine AW.iload_n 7 dX8_refuses_6 rfl (by rfl) ?_
  first | refine AW.isubN 8 dX8_refuses_7 rfl (by omega) ?_ | refine AW.isub 8 dX8_refuses_7 rfl ?_
  refine AW.dup2 9 dX8_refuses_8 rfl rfl rfl ?_
  refine AW.stk [.int (nI 0), .ref 200, .int (nI 0), .ref 200] rfl ?_
  refine AW.iaload 10 _ dX8_refuses_9 rfl (by assumption) (by first | exact Or.inl rfl | exact Or.inr rfl) (ix_nI (by omega)) (by omega) ?_
  refine AW.iconst 11 dX8_refuses_10 rfl (nI 1) rfl ?_
  first | refine AW.iaddN 12 dX8_refuses_11 rfl ?_ | refine AW.iadd 12 dX8_refuses_11 rfl ?_
  refine AW.iastore 13 _ dX8_refuses_12 rfl (by assumption) (ix_nI (by omega)) (by omega) ?_
  refine AW.iload_n 14 dX8_refuses_13 rfl (by rfl) ?_
  refine AW.iret dX8_refuses_14 rfl ?_
  rw [upd_nI, (refA_up _).1]
  exact hP _ K.cnt (fun z hz => hs_ne (by omega))
theorem r_no (K : RfAt h X) (hP : ∀ h', RfAt h' (noX X).2 → FrR h h' → P (some (.int (noX X).1)) N h') : AM X8_refuses [.ref 196, .int (-3)] N h P := by
  obtain ⟨_, _, _, _, _, _, x196, -⟩ := K.1
  have x200 := K.2.2.2.1
  refine AM.of0 rfl (Nat.le_of_ble_eq_true rfl) rfl [some (.ref 196), some (.int (-3))] rfl ?_
  refine AW.aload_n 1 dX8_refuses_0 rfl (by rfl) ?_
  refine AW.getfield 4 dX8_refuses_1 rfl fl_X8_19 (by assumption) (by rfl) ?_
  refine AW.bipush 6 dX8_refuses_4 rfl (-2) rfl ?_
  refine AW.iload_n 7 dX8_refuses_6 rfl (by rfl) ?_
  first | refine AW.isubN 8 dX8_refuses_7 rfl (by omega) ?_ | refine AW.isub 8 dX8_refuses_7 rfl ?_
  refine AW.dup2 9 dX8_refuses_8 rfl rfl rfl ?_
  refine AW.stk [.int (nI 1), .ref 200, .int (nI 1), .ref 200] rfl ?_
  refine AW.iaload 10 _ dX8_refuses_9 rfl (by assumption) (by first | exact Or.inl rfl | exact Or.inr rfl) (ix_nI (by omega)) (by omega) ?_
  refine AW.iconst 11 dX8_refuses_10 rfl (nI 1) rfl ?_
  first | refine AW.iaddN 12 dX8_refuses_11 rfl ?_ | refine AW.iadd 12 dX8_refuses_11 rfl ?_
  refine AW.iastore 13 _ dX8_refuses_12 rfl (by assumption) (ix_nI (by omega)) (by omega) ?_
  refine AW.iload_n 14 dX8_refuses_13 rfl (by rfl) ?_
  refine AW.iret dX8_refuses_14 rfl ?_
  rw [upd_nI, (refA_up _).2.1]
  exact hP _ K.cnt (fun z hz => hs_ne (by omega))
theorem r_full (K : RfAt h X) (hP : ∀ h', RfAt h' (fulX X).2 → FrR h h' → P (some (.int (fulX X).1)) N h') : AM X8_refuses [.ref 196, .int (-4)] N h P := by
  obtain ⟨_, _, _, _, _, _, x196, -⟩ := K.1
  have x200 := K.2.2.2.1
  refine AM.of0 rfl (Nat.le_of_ble_eq_true rfl) rfl [some (.ref 196), some (.int (-4))] rfl ?_
  refine AW.aload_n 1 dX8_refuses_0 rfl (by rfl) ?_
  refine AW.getfield 4 dX8_refuses_1 rfl fl_X8_19 (by assumption) (by rfl) ?_
  refine AW.bipush 6 dX8_refuses_4 rfl (-2) rfl ?_
  refine AW.iload_n 7 dX8_refuses_6 rfl (by rfl) ?_
  first | refine AW.isubN 8 dX8_refuses_7 rfl (by omega) ?_ | refine AW.isub 8 dX8_refuses_7 rfl ?_
  refine AW.dup2 9 dX8_refuses_8 rfl rfl rfl ?_
  refine AW.stk [.int (nI 2), .ref 200, .int (nI 2), .ref 200] rfl ?_
  refine AW.iaload 10 _ dX8_refuses_9 rfl (by assumption) (by first | exact Or.inl rfl | exact Or.inr rfl) (ix_nI (by omega)) (by omega) ?_
  refine AW.iconst 11 dX8_refuses_10 rfl (nI 1) rfl ?_
  first | refine AW.iaddN 12 dX8_refuses_11 rfl ?_ | refine AW.iadd 12 dX8_refuses_11 rfl ?_
  refine AW.iastore 13 _ dX8_refuses_12 rfl (by assumption) (ix_nI (by omega)) (by omega) ?_
  refine AW.iload_n 14 dX8_refuses_13 rfl (by rfl) ?_
  refine AW.iret dX8_refuses_14 rfl ?_
  rw [upd_nI, (refA_up _).2.2]
  exact hP _ K.cnt (fun z hz => hs_ne (by omega))
theorem inB_eq {m : Nat} (hm : m + 1 < 2147483648) (x : Int32) : (decide (nI 0 ≤ x) && decide (x ≤ nI m)) = inB (m + 1) x := by
  unfold inB
  rw [Bool.eq_iff_iff, Bool.and_eq_true, decide_eq_true_iff, decide_eq_true_iff, decide_eq_true_iff, Int32.le_iff_toInt_le, Int32.le_iff_toInt_le, nI_toInt (by omega), nI_toInt (by omega)]
  omega
theorem rgB_eq {a b : Int32} (x : Int32) : (decide (a ≤ x) && decide (x ≤ b)) = rgB a.toInt b.toInt x := by
  unfold rgB
  rw [Bool.eq_iff_iff, Bool.and_eq_true, decide_eq_true_iff, decide_eq_true_iff, decide_eq_true_iff, Int32.le_iff_toInt_le, Int32.le_iff_toInt_le]
theorem r_isSlot {s : Int32} (hP : P (some (.int (nI (b01 (inB 6 s))))) N h) : AM X8_isSlot [.int s] N h P := by
  refine AM.of0 rfl (Nat.le_of_ble_eq_true rfl) rfl [some (.int s)] rfl ?_
  refine AW.iload_n 1 dX8_isSlot_0 rfl (by rfl) ?_
  refine AW.iconst 2 dX8_isSlot_1 rfl (nI 0) rfl ?_
  refine AW.iconst 3 dX8_isSlot_2 rfl (nI 5) rfl ?_
  refine AW.cS3 6 dX8_isSlot_3 rfl mi_X8_in ms_X8_in lk_X8_100 ⟨(Nat.le_of_ble_eq_true rfl), (Nat.le_of_ble_eq_true rfl)⟩ rfl (Nat.le_of_ble_eq_true rfl) (c_in ?_)
  rw [inB_eq (m := 5) (by omega)]
  refine AW.zret dX8_isSlot_6 rfl (by first | exact z_0 | exact z_1 | exact z_b01 _ | assumption) ?_
  exact hP
theorem r_isPoint {s : Int32} (K : NowAt h n) (hP : P (some (.int (nI (b01 (inB n s))))) N h) : AM X8_isPoint [.ref 196, .int s] N h P := by
  obtain ⟨⟨ps, ty, la, ma, at_, fa, od, d, g1⟩, ⟨f, g2, g3⟩, g5, g6⟩ := id K
  refine AM.of0 rfl (Nat.le_of_ble_eq_true rfl) rfl [some (.ref 196), some (.int s)] rfl ?_
  refine AW.iload_n 1 dX8_isPoint_0 rfl (by rfl) ?_
  refine AW.iconst 2 dX8_isPoint_1 rfl (nI 0) rfl ?_
  refine AW.aload_n 3 dX8_isPoint_2 rfl (by rfl) ?_
  refine AW.getfield 6 dX8_isPoint_3 rfl fl_X8_7 (by assumption) (by rfl) ?_
  refine AW.iconst 7 dX8_isPoint_6 rfl (nI 0) rfl ?_
  refine AW.iaload 8 _ dX8_isPoint_7 rfl (by assumption) (by first | exact Or.inl rfl | exact Or.inr rfl) (ix_nI (by omega)) (by omega) ?_
  rw [g3]
  refine AW.iconst 9 dX8_isPoint_8 rfl (nI 1) rfl ?_
  first | refine AW.isubN 10 dX8_isPoint_9 rfl (by omega) ?_ | refine AW.isub 10 dX8_isPoint_9 rfl ?_
  refine AW.cS3 13 dX8_isPoint_10 rfl mi_X8_in ms_X8_in lk_X8_100 ⟨(Nat.le_of_ble_eq_true rfl), (Nat.le_of_ble_eq_true rfl)⟩ rfl (Nat.le_of_ble_eq_true rfl) (c_in ?_)
  rw [inB_eq (by omega), show n - 1 + 1 = n by omega]
  refine AW.zret dX8_isPoint_13 rfl (by first | exact z_0 | exact z_1 | exact z_b01 _ | assumption) ?_
  exact hP
end REF7
