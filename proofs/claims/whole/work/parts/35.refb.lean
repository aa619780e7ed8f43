/-! THE MODEL, twelfth part: hold, push, ends, back and the changes -/
def HldAt (h : aH) (τ : aS) : Prop := ∃ f, h 198 = .inl (0, (15, .inl f)) ∧ ∀ i, i < 15 → f i = nowF τ i
theorem at_ne {h : aH} {a b : Nat} {e v : aE} (x : h b = v) (hb : b ≠ a) : hs h a e b = v := by rw [hs_ne hb, x]
section REFB
variable {N n : Nat} {h : aH} {P : aP} {X : aX}
theorem RfAt.n198 {f : Nat → Int32} (K : RfAt h X) : RfAt (hs h 198 (.inl (0, (15, .inl f)))) X := by
  obtain ⟨la, ma, at_, fa, od, d, k1, l⟩ := K.1
  obtain ⟨-, s2, s3, s4, s5, s6, s7, s8⟩ := K.2.2.2.2.2.2.2.1
  obtain ⟨g, g1, g2⟩ := K.2.2.2.2.2.2.1
  exact K.same (fun z hz => hs_ne (by omega)) ⟨la, ma, at_, fa, od, d, by rw [hs_ne (by decide), k1], l.same (hs_ne (by decide)) (hs_ne (by decide))⟩ ⟨g, by rw [hs_ne (by decide), g1], g2⟩ ⟨⟨f, hs_eq _ _ _⟩, s2.ne (by decide), s3.ne (by decide), s4.ne (by decide), s5.ne (by decide), s6.ne (by decide), s7.ne (by decide), s8.ne (by decide)⟩
theorem HldAt.m {h' : aH} {τ : aS} (H : HldAt h τ) (F : FrM h h') : HldAt h' τ := by
  obtain ⟨f, f1, f2⟩ := H
  exact ⟨f, by rw [F.1 _ (by omega), f1], f2⟩
theorem r_hold (K : RfAt h X) (hP : ∀ h', RfAt h' X → HldAt h' X.1 → (∀ z, z ≠ 198 → h' z = h z) → P none N h') : AM X8_hold [.ref 196] N h P := by
  obtain ⟨_, _, _, _, _, _, x196, -⟩ := id K.1
  have x197 : h 197 = .inl (0, (15, .inl (nowF X.1))) := K.2.1
  obtain ⟨g, x198⟩ := K.2.2.2.2.2.2.2.1.1
  refine AM.of0 rfl (Nat.le_of_ble_eq_true rfl) rfl [some (.ref 196), none] rfl ?_
  refine AW.iconst 1 dX8_hold_0 rfl (nI 0) rfl ?_
  refine AW.istore_n 2 dX8_hold_1 rfl (Nat.le_of_ble_eq_true rfl) rfl ?_
  have L : ∀ k x, x + k = 15 → AW X8_hold 2 [some (.ref 196), some (.int (nI x))] [] N (0, 0) (hs h 198 (.inl (0, (15, .inl (fun i => if i < x then nowF X.1 i else g i))))) P := by
    intro k
    induction k with
    | zero =>
      intro x hx
      refine AW.iload_n 3 dX8_hold_2 rfl (by rfl) ?_
      refine AW.bipush 5 dX8_hold_3 rfl (nI 15) rfl ?_
      refine AW.nge 26 8 dX8_hold_5 (by decide) rfl (by omega) (by omega) (fun c => ?_) (fun c => ?_)
      · refine AW.vret dX8_hold_26 rfl ?_
        refine hP _ K.n198 ⟨_, hs_eq _ _ _, fun i hi => ?_⟩ (fun z hz => hs_ne hz)
        show (if i < x then nowF X.1 i else g i) = _
        rw [if_pos (by omega)]
      · omega
    | succ k ih =>
      intro x hx
      have y196 := at_ne (a := 198) (e := (.inl (0, (15, .inl (fun i => if i < x then nowF X.1 i else g i))) : aE)) x196 (by decide)
      have y197 : hs h 198 (.inl (0, (15, .inl (fun i => if i < x then nowF X.1 i else g i)))) 197 = .inl (0, (15, .inl (nowF X.1))) := by rw [hs_ne (by decide), x197]
      have y198 : hs h 198 (.inl (0, (15, .inl (fun i => if i < x then nowF X.1 i else g i)))) 198 = .inl (0, (15, .inl (fun i => if i < x then nowF X.1 i else g i))) := hs_eq _ _ _
      refine AW.iload_n 3 dX8_hold_2 rfl (by rfl) ?_
      refine AW.bipush 5 dX8_hold_3 rfl (nI 15) rfl ?_
      refine AW.nge 26 8 dX8_hold_5 (by decide) rfl (by omega) (by omega) (fun c => ?_) (fun c => ?_)
      · omega
      · refine AW.aload_n 9 dX8_hold_8 rfl (by rfl) ?_
        refine AW.getfield 12 dX8_hold_9 rfl fl_X8_13 (by assumption) (by rfl) ?_
        refine AW.iload_n 13 dX8_hold_12 rfl (by rfl) ?_
        refine AW.aload_n 14 dX8_hold_13 rfl (by rfl) ?_
        refine AW.getfield 17 dX8_hold_14 rfl fl_X8_7 (by assumption) (by rfl) ?_
        refine AW.iload_n 18 dX8_hold_17 rfl (by rfl) ?_
        refine AW.iaload 19 _ dX8_hold_18 rfl (by assumption) (by first | exact Or.inl rfl | exact Or.inr rfl) (ix_nI (by omega)) (by omega) ?_
        refine AW.iastore 20 _ dX8_hold_19 rfl (by assumption) (ix_nI (by omega)) (by omega) ?_
        refine AW.iinc1 23 dX8_hold_20 rfl (by rfl) rfl ?_
        refine AW.goto 2 dX8_hold_23 (by decide) ?_
        rw [hs_hs, show upd (fun i => if i < x then nowF X.1 i else g i) x (nowF X.1 x) = (fun i => if i < x + 1 then nowF X.1 i else g i) from funext fun i => by
          unfold upd
          by_cases e : i = x
          · subst e; simp
          · by_cases e2 : i < x
            · simp [e, e2, Nat.lt_succ_of_lt e2]
            · simp [e, e2, show ¬ i < x + 1 by omega]]
        exact ih (x + 1) (by omega)
  have := L 15 0 (by omega)
  rw [show (fun i => if i < 0 then nowF X.1 i else g i) = g from funext fun i => by simp, hs_self x198] at this
  exact this
/-- so many states of the past, the latest first -/
def PfAt (f : Nat → Int32) (p : Nat) (u : Nat → aS) : Prop := ∀ j, j < p → ∀ i, i < 15 → f (15 * (p - 1 - j) + i) = nowF (u j) i
theorem r_push1 {p : Nat} {u : Nat → aS} {τ : aS} {f q : Nat → Int32} {ty la ma at_ fa od : Int32} {d : Int64} (x196 : h 196 = modO (nI p) ty la ma at_ fa od d) (x199 : h 199 = .inl (0, (75, .inl f))) (x198 : h 198 = .inl (0, (15, .inl q))) (hq : ∀ i, i < 15 → q i = nowF τ i) (hf : PfAt f p u) (hp : p ≤ 4) (hP : ∀ f', PfAt f' (p + 1) (fun j => if j = 0 then τ else u (j - 1)) → P none N (hs (hs h 199 (.inl (0, (75, .inl f')))) 196 (modO (nI (p + 1)) ty la ma at_ fa od d))) : ∀ v1, AW X8_push 47 [some (.ref 196), v1] [] N (0, 0) h P := by
  intro v1
  refine AW.iconst 48 dX8_push_47 rfl (nI 0) rfl ?_
  refine AW.istore_n 49 dX8_push_48 rfl (Nat.le_of_ble_eq_true rfl) rfl ?_
  have L : ∀ k x, x + k = 15 → AW X8_push 49 [some (.ref 196), some (.int (nI x))] [] N (0, 0) (hs h 199 (.inl (0, (75, .inl (fun i => if 15 * p ≤ i ∧ i < 15 * p + x then q (i - 15 * p) else f i))))) P := by
    intro k
    induction k with
    | zero =>
      intro x hx
      have y196 := at_ne (a := 199) (e := (.inl (0, (75, .inl (fun i => if 15 * p ≤ i ∧ i < 15 * p + x then q (i - 15 * p) else f i))) : aE)) x196 (by decide)
      refine AW.iload_n 50 dX8_push_49 rfl (by rfl) ?_
      refine AW.bipush 52 dX8_push_50 rfl (nI 15) rfl ?_
      refine AW.nge 81 55 dX8_push_52 (by decide) rfl (by omega) (by omega) (fun c => ?_) (fun c => ?_)
      · refine AW.aload_n 82 dX8_push_81 rfl (by rfl) ?_
        refine AW.dup 83 dX8_push_82 rfl rfl ?_
        refine AW.getfield 86 dX8_push_83 rfl fl_X8_128 (by assumption) (by rfl) ?_
        refine AW.iconst 87 dX8_push_86 rfl (nI 1) rfl ?_
        first | refine AW.iaddN 88 dX8_push_87 rfl ?_ | refine AW.iadd 88 dX8_push_87 rfl ?_
        refine AW.putfield 91 dX8_push_88 rfl fl_X8_128 (by assumption) (Nat.le_of_ble_eq_true rfl) (fun _ => ⟨rfl, rfl⟩) ?_
        refine AW.vret dX8_push_91 rfl ?_
        refine hP _ (fun j hj i hi => ?_)
        show (if 15 * p ≤ 15 * (p + 1 - 1 - j) + i ∧ 15 * (p + 1 - 1 - j) + i < 15 * p + x then q (15 * (p + 1 - 1 - j) + i - 15 * p) else f (15 * (p + 1 - 1 - j) + i)) = nowF (if j = 0 then τ else u (j - 1)) i
        by_cases j0 : j = 0
        · subst j0
          rw [if_pos ⟨by omega, by omega⟩, if_pos rfl, show 15 * (p + 1 - 1 - 0) + i - 15 * p = i by omega, hq i hi]
        · rw [if_neg (by omega), if_neg j0, ← hf (j - 1) (by omega) i hi, show p + 1 - 1 - j = p - 1 - (j - 1) by omega]
      · omega
    | succ k ih =>
      intro x hx
      have y196 := at_ne (a := 199) (e := (.inl (0, (75, .inl (fun i => if 15 * p ≤ i ∧ i < 15 * p + x then q (i - 15 * p) else f i))) : aE)) x196 (by decide)
      have y198 := at_ne (a := 199) (e := (.inl (0, (75, .inl (fun i => if 15 * p ≤ i ∧ i < 15 * p + x then q (i - 15 * p) else f i))) : aE)) x198 (by decide)
      have y199 : hs h 199 (.inl (0, (75, .inl (fun i => if 15 * p ≤ i ∧ i < 15 * p + x then q (i - 15 * p) else f i)))) 199 = .inl (0, (75, .inl (fun i => if 15 * p ≤ i ∧ i < 15 * p + x then q (i - 15 * p) else f i))) := hs_eq _ _ _
      refine AW.iload_n 50 dX8_push_49 rfl (by rfl) ?_
      refine AW.bipush 52 dX8_push_50 rfl (nI 15) rfl ?_
      refine AW.nge 81 55 dX8_push_52 (by decide) rfl (by omega) (by omega) (fun c => ?_) (fun c => ?_)
      · omega
      · refine AW.aload_n 56 dX8_push_55 rfl (by rfl) ?_
        refine AW.getfield 59 dX8_push_56 rfl fl_X8_16 (by assumption) (by rfl) ?_
        refine AW.bipush 61 dX8_push_59 rfl (nI 15) rfl ?_
        refine AW.aload_n 62 dX8_push_61 rfl (by rfl) ?_
        refine AW.getfield 65 dX8_push_62 rfl fl_X8_128 (by assumption) (by rfl) ?_
        first | refine AW.imulN 66 dX8_push_65 rfl ?_ | refine AW.imul 66 dX8_push_65 rfl ?_
        refine AW.iload_n 67 dX8_push_66 rfl (by rfl) ?_
        first | refine AW.iaddN 68 dX8_push_67 rfl ?_ | refine AW.iadd 68 dX8_push_67 rfl ?_
        refine AW.aload_n 69 dX8_push_68 rfl (by rfl) ?_
        refine AW.getfield 72 dX8_push_69 rfl fl_X8_13 (by assumption) (by rfl) ?_
        refine AW.iload_n 73 dX8_push_72 rfl (by rfl) ?_
        refine AW.iaload 74 _ dX8_push_73 rfl (by assumption) (by first | exact Or.inl rfl | exact Or.inr rfl) (ix_nI (by omega)) (by omega) ?_
        refine AW.iastore 75 _ dX8_push_74 rfl (by assumption) (ix_nI (by omega)) (by omega) ?_
        refine AW.iinc1 78 dX8_push_75 rfl (by rfl) rfl ?_
        refine AW.goto 49 dX8_push_78 (by decide) ?_
        rw [hs_hs, show upd (fun i => if 15 * p ≤ i ∧ i < 15 * p + x then q (i - 15 * p) else f i) (15 * p + x) (q x) = (fun i => if 15 * p ≤ i ∧ i < 15 * p + (x + 1) then q (i - 15 * p) else f i) from funext fun i => by
          show (if i = 15 * p + x then q x else if 15 * p ≤ i ∧ i < 15 * p + x then q (i - 15 * p) else f i) = if 15 * p ≤ i ∧ i < 15 * p + (x + 1) then q (i - 15 * p) else f i
          by_cases e : i = 15 * p + x
          · rw [if_pos e, if_pos (by omega), e, show 15 * p + x - 15 * p = x by omega]
          · rw [if_neg e]
            by_cases e2 : 15 * p ≤ i ∧ i < 15 * p + x
            · rw [if_pos e2, if_pos (by omega)]
            · rw [if_neg e2, if_neg (by omega)]]
        exact ih (x + 1) (by omega)
  have := L 15 0 (by omega)
  rw [show (fun i => if 15 * p ≤ i ∧ i < 15 * p + 0 then q (i - 15 * p) else f i) = f from funext fun i => if_neg (by omega), hs_self x199] at this
  exact this
theorem r_push {τ : aS} (K : RfAt h X) (H : HldAt h τ) (w : WfS τ) (hP : ∀ h', RfAt h' (X.1, psU X.2.1 τ, X.2.2) → FrR h h' → P none N h') : AM X8_push [.ref 196] N h P := by
  obtain ⟨⟨la, ma, at_, fa, od, d, k1, kl⟩, k2, ⟨p1, p2, f, p3, p4⟩, k4, k5, k6, ⟨g, k7, k7'⟩, k8, k9⟩ := id K
  obtain ⟨q, q1, q2⟩ := H
  have fin : ∀ (p : Nat) (f' : Nat → Int32) (u : Nat → aS), p ≤ 4 → p + 1 = hdU X.2.1.1 → (∀ j, j < p → u j = X.2.1.2 j) → PfAt f' (p + 1) (fun j => if j = 0 then τ else u (j - 1)) → ∀ h', (∀ z, z ≠ 196 → z ≠ 199 → h' z = h z) → h' 196 = modO (nI (p + 1)) (nI X.2.2.2.2) la ma at_ fa od d → h' 199 = .inl (0, (75, .inl f')) → P none N h' := by
    intro p f' u hp ep eu hf h' e0 e1 e2
    refine hP h' ⟨⟨la, ma, at_, fa, od, d, ?_, kl.same (e0 _ (by decide) (by decide)) (e0 _ (by decide) (by decide))⟩, by rw [e0 _ (by decide) (by decide), k2], ⟨?_, ?_, f', e2, ?_⟩, by rw [e0 _ (by decide) (by decide), k4], by rw [e0 _ (by decide) (by decide), k5], k6, ⟨g, by rw [e0 _ (by decide) (by decide), k7], k7'⟩, k8.same (fun z hz => e0 z (by omega) (by omega)), k9⟩ (fun z hz => e0 z (by omega) (by omega))
    · show h' 196 = modO (nI (hdU X.2.1.1)) _ _ _ _ _ _ _
      rw [← ep, e1]
    · show hdU X.2.1.1 ≤ 5
      omega
    · intro j hj
      have hj : j < hdU X.2.1.1 := hj
      show WfS (if j = 0 then τ else X.2.1.2 (j - 1))
      split
      · exact w
      · have : hdU X.2.1.1 ≤ X.2.1.1 + 1 := by unfold hdU; split <;> omega
        exact p2 _ (by omega)
    · intro j hj i hi
      have hj : j < hdU X.2.1.1 := hj
      show f' (15 * (hdU X.2.1.1 - 1 - j) + i) = nowF (if j = 0 then τ else X.2.1.2 (j - 1)) i
      rw [← ep] at hj ⊢
      rw [hf j hj i hi]
      show nowF (if j = 0 then τ else u (j - 1)) i = _
      by_cases j0 : j = 0
      · rw [if_pos j0, if_pos j0]
      · rw [if_neg j0, if_neg j0, eu _ (by omega)]
  refine AM.of0 rfl (Nat.le_of_ble_eq_true rfl) rfl [some (.ref 196), none] rfl ?_
  refine AW.aload_n 1 dX8_push_0 rfl (by rfl) ?_
  refine AW.getfield 4 dX8_push_1 rfl fl_X8_128 (by assumption) (by rfl) ?_
  refine AW.iconst 5 dX8_push_4 rfl (nI 5) rfl ?_
  refine AW.nne 47 8 dX8_push_5 (by decide) rfl (by omega) (by omega) (fun c => ?_) (fun c => ?_)
  · refine r_push1 (u := X.2.1.2) k1 p3 q1 q2 p4 (by omega) ?_ _
    intro f' hf'
    exact fin X.2.1.1 f' X.2.1.2 (by omega) (by rw [hdU, if_pos (by omega)]) (fun _ _ => rfl) hf' _ (fun z z1 z2 => by rw [hs_ne z1, hs_ne z2]) (hs_eq _ _ _) (by rw [hs_ne (by decide), hs_eq])
  · refine AW.iconst 9 dX8_push_8 rfl (nI 0) rfl ?_
    refine AW.istore_n 10 dX8_push_9 rfl (Nat.le_of_ble_eq_true rfl) rfl ?_
    have L : ∀ k x, x + k = 60 → AW X8_push 10 [some (.ref 196), some (.int (nI x))] [] N (0, 0) (hs h 199 (.inl (0, (75, .inl (fun i => if i < x then f (i + 15) else f i))))) P := by
      intro k
      induction k with
      | zero =>
        intro x hx
        have y196 := at_ne (a := 199) (e := (.inl (0, (75, .inl (fun i => if i < x then f (i + 15) else f i))) : aE)) k1 (by decide)
        refine AW.iload_n 11 dX8_push_10 rfl (by rfl) ?_
        refine AW.bipush 13 dX8_push_11 rfl (nI 60) rfl ?_
        refine AW.nge 37 16 dX8_push_13 (by decide) rfl (by omega) (by omega) (fun c2 => ?_) (fun c2 => ?_)
        · refine AW.aload_n 38 dX8_push_37 rfl (by rfl) ?_
          refine AW.dup 39 dX8_push_38 rfl rfl ?_
          refine AW.getfield 42 dX8_push_39 rfl fl_X8_128 (by assumption) (by rfl) ?_
          refine AW.iconst 43 dX8_push_42 rfl (nI 1) rfl ?_
          first | refine AW.isubN 44 dX8_push_43 rfl (by omega) ?_ | refine AW.isub 44 dX8_push_43 rfl ?_
          refine AW.putfield 47 dX8_push_44 rfl fl_X8_128 (by assumption) (Nat.le_of_ble_eq_true rfl) (fun _ => ⟨rfl, rfl⟩) ?_
          refine AW.heap (hs (hs h 199 (.inl (0, (75, .inl (fun i => if i < x then f (i + 15) else f i))))) 196 (modO (nI 4) (nI X.2.2.2.2) la ma at_ fa od d)) (by rw [c]; rfl) ?_
          refine r_push1 (p := 4) (u := X.2.1.2) (hs_eq _ _ _) (by rw [hs_ne (by decide), hs_eq]) (by rw [hs_ne (by decide), hs_ne (by decide), q1]) q2 ?_ (by omega) ?_ _
          · intro j hj i hi
            show (if 15 * (4 - 1 - j) + i < x then f (15 * (4 - 1 - j) + i + 15) else f (15 * (4 - 1 - j) + i)) = _
            rw [if_pos (by omega), ← p4 j (by omega) i hi, c]
            congr 1
            omega
          · intro f' hf'
            exact fin 4 f' X.2.1.2 (by omega) (by rw [hdU, if_neg (by omega)]) (fun _ _ => rfl) hf' _ (fun z z1 z2 => by rw [hs_ne z1, hs_ne z2, hs_ne z1, hs_ne z2]) (hs_eq _ _ _) (by rw [hs_ne (by decide), hs_eq])
        · omega
      | succ k ih =>
        intro x hx
        have y196 := at_ne (a := 199) (e := (.inl (0, (75, .inl (fun i => if i < x then f (i + 15) else f i))) : aE)) k1 (by decide)
        have y199 : hs h 199 (.inl (0, (75, .inl (fun i => if i < x then f (i + 15) else f i)))) 199 = .inl (0, (75, .inl (fun i => if i < x then f (i + 15) else f i))) := hs_eq _ _ _
        refine AW.iload_n 11 dX8_push_10 rfl (by rfl) ?_
        refine AW.bipush 13 dX8_push_11 rfl (nI 60) rfl ?_
        refine AW.nge 37 16 dX8_push_13 (by decide) rfl (by omega) (by omega) (fun c2 => ?_) (fun c2 => ?_)
        · omega
        · refine AW.aload_n 17 dX8_push_16 rfl (by rfl) ?_
          refine AW.getfield 20 dX8_push_17 rfl fl_X8_16 (by assumption) (by rfl) ?_
          refine AW.iload_n 21 dX8_push_20 rfl (by rfl) ?_
          refine AW.aload_n 22 dX8_push_21 rfl (by rfl) ?_
          refine AW.getfield 25 dX8_push_22 rfl fl_X8_16 (by assumption) (by rfl) ?_
          refine AW.iload_n 26 dX8_push_25 rfl (by rfl) ?_
          refine AW.bipush 28 dX8_push_26 rfl (nI 15) rfl ?_
          first | refine AW.iaddN 29 dX8_push_28 rfl ?_ | refine AW.iadd 29 dX8_push_28 rfl ?_
          refine AW.iaload 30 _ dX8_push_29 rfl (by assumption) (by first | exact Or.inl rfl | exact Or.inr rfl) (ix_nI (by omega)) (by omega) ?_
          rw [show (if x + 15 < x then f (x + 15 + 15) else f (x + 15)) = f (x + 15) from if_neg (by omega)]
          refine AW.iastore 31 _ dX8_push_30 rfl (by assumption) (ix_nI (by omega)) (by omega) ?_
          refine AW.iinc1 34 dX8_push_31 rfl (by rfl) rfl ?_
          refine AW.goto 10 dX8_push_34 (by decide) ?_
          rw [hs_hs, show upd (fun i => if i < x then f (i + 15) else f i) x (f (x + 15)) = (fun i => if i < x + 1 then f (i + 15) else f i) from funext fun i => by
            show (if i = x then f (x + 15) else if i < x then f (i + 15) else f i) = if i < x + 1 then f (i + 15) else f i
            by_cases e : i = x
            · rw [if_pos e, if_pos (by omega), e]
            · rw [if_neg e]
              by_cases e2 : i < x
              · rw [if_pos e2, if_pos (by omega)]
              · rw [if_neg e2, if_neg (by omega)]]
          exact ih (x + 1) (by omega)
    have := L 60 0 (by omega)
    rw [show (fun i => if i < 0 then f (i + 15) else f i) = f from funext fun i => by simp, hs_self p3] at this
    exact this
theorem r_ends {r : Int32 × aS} (K : RfAt h (r.2, X.2)) (H : HldAt h X.1) (w : WfS X.1) (hr : r.1 = -2 ∨ 0 ≤ r.1.toInt) (hP : ∀ h', RfAt h' (stl X r).2 → FrR h h' → P (some (.int (stl X r).1)) N h') : AM X8_ends [.ref 196, .int r.1] N h P := by
  obtain ⟨_, _, _, _, _, _, x196, -⟩ := id K.1
  rw [stl] at hP
  refine AM.of0 rfl (Nat.le_of_ble_eq_true rfl) rfl [some (.ref 196), some (.int r.1)] rfl ?_
  refine AW.iload_n 1 dX8_ends_0 rfl (by rfl) ?_
  refine AW.if_ge 10 4 dX8_ends_1 (by decide) rfl (fun c => ?_) (fun c => ?_)
  · have : r.1 ≠ -2 := by
      intro e
      rw [e] at c
      exact absurd c (by decide)
    rw [if_neg this] at hP
    refine AW.aload_n 11 dX8_ends_10 rfl (by rfl) ?_
    refine AW.cV0 14 dX8_ends_11 rfl mi_X8_push mv_X8_push lk_X8_134 ⟨(Nat.le_of_ble_eq_true rfl), (Nat.le_of_ble_eq_true rfl)⟩ rfl (by assumption) rfl (Nat.le_of_ble_eq_true rfl) (r_push K H w ?_)
    intro h' K' F
    refine AW.iload_n 15 dX8_ends_14 rfl (by rfl) ?_
    refine AW.iret dX8_ends_15 rfl ?_
    exact hP h' K' F
  · have : r.1 = -2 := by
      rcases hr with q | q
      · exact q
      · exact absurd (show (0 : Int32) ≤ r.1 by rw [Int32.le_iff_toInt_le]; exact q) c
    rw [if_pos this] at hP
    refine AW.aload_n 5 dX8_ends_4 rfl (by rfl) ?_
    refine AW.iload_n 6 dX8_ends_5 rfl (by rfl) ?_
    rw [this] at hP ⊢
    refine AW.cV1 9 dX8_ends_6 rfl mi_X8_refuses mv_X8_refuses lk_X8_131 ⟨(Nat.le_of_ble_eq_true rfl), (Nat.le_of_ble_eq_true rfl)⟩ rfl (by assumption) rfl (Nat.le_of_ble_eq_true rfl) (r_bad K ?_)
    intro h' K' F
    refine AW.iret dX8_ends_9 rfl ?_
    exact hP h' K' F
end REFB
