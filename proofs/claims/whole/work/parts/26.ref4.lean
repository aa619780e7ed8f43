/-! THE MODEL, fourth part: the walks of isCrossing, joined, met, turned, nextOf, complement -/
def crB (n c : Nat) : Bool := (crsF n (rw8 c)).isSome
def ujF (n b : Nat) : (Nat → Nat) → Nat → (Nat → Nat)
  | g, 0 => g
  | g, x + 1 => mrgF (ujF n b g x) (ujF n b g x (rw8 b x)) (ujF n b g x x)
def joM (n a b : Nat) : Nat := pkF n (xiF n 8 (ujF n b (rw8 a) n))
def meM (n a b : Nat) : Nat := pkF n (fun x => 8 * rw8 a x + rw8 b x)
def bfo (n x : Nat) : Nat := if x = 0 then n - 1 else x - 1
def tuM (n a : Nat) : Nat := pkF n (fun x => rw8 a (bfo n x))
def niF (n c x : Nat) : Nat → Nat → Nat
  | 0, y => y
  | k + 1, y => if rw8 c y = rw8 c x then y else niF n c x k (aft n y)
def nxM (n c x : Nat) : Nat := niF n c x n (aft n x)
def cuF (n c : Nat) : Nat → (Nat → Nat)
  | 0 => fun i => i
  | y + 1 => mrgF (cuF n c y) (cuF n c y (bfo n (nxM n c y))) (cuF n c y y)
def coM (n c : Nat) : Nat := pkF n (cuF n c n)
theorem bfo_lt {n x : Nat} (hx : x < n) : bfo n x < n := by unfold bfo; split <;> omega
theorem niF_lt {n c x : Nat} (hn : 0 < n) : ∀ k y, y < n → niF n c x k y < n := by
  intro k
  induction k with
  | zero => intro y hy; exact hy
  | succ k ih => intro y hy; rw [niF]; split; exact hy; exact ih _ (aft_lt hn)
theorem nxM_lt {n c x : Nat} (hn : 0 < n) : nxM n c x < n := niF_lt hn n _ (aft_lt hn)
def dstF (n x y : Nat) : Nat := if y ≤ x then x - y else x + n - y
theorem aft_mod {n x : Nat} (hx : x < n) : (x + 1) % n = aft n x := by
  unfold aft
  split
  · exact Nat.mod_eq_of_lt ‹_›
  · rw [show x + 1 = n by omega, Nat.mod_self]
theorem bfo_mod {n x : Nat} (hx : x < n) : (x + n - 1) % n = bfo n x := by
  unfold bfo
  split
  · rw [show x + n - 1 = n - 1 by omega]; exact Nat.mod_eq_of_lt (by omega)
  · rw [show x + n - 1 = (x - 1) + n by omega, Nat.add_mod_right]; exact Nat.mod_eq_of_lt (by omega)
section REF4
variable {N n : Nat} {h : aH} {P : aP} {g : Nat → Nat}
theorem GrpAt.cell {g' : Nat → Nat} (G : GrpAt h n g) (hg : ∀ i, i < 8 → g' i < 64) : GrpAt (hs h 202 (iA 8 g')) n g' := G.grp hg
/-- what group holds once a part's row is laid into it up to x -/
def lyF (c x : Nat) (g : Nat → Nat) : Nat → Nat := fun i => if i < x then rw8 c i else g i
theorem lyF_s (c x : Nat) (g : Nat → Nat) : upN (lyF c x g) x (rw8 c x) = lyF c (x + 1) g := by
  funext i
  unfold upN lyF
  by_cases e : i = x
  · subst e; simp
  · by_cases e2 : i < x
    · simp [e, e2, Nat.lt_succ_of_lt e2]
    · simp [e, e2, show ¬ i < x + 1 by omega]
theorem lyF_0 (c : Nat) (g : Nat → Nat) : lyF c 0 g = g := by funext i; simp [lyF]
theorem lyF_lt {c x : Nat} (hg : ∀ i, i < 8 → g i < 64) : ∀ i, i < 8 → lyF c x g i < 64 := by
  intro i hi
  unfold lyF
  have := rw8_lt c i
  split
  · omega
  · exact hg i hi
theorem c_isCrossing {c : Nat} (G : GrpAt h n g) (hc : c < 16777216) (hP : ∀ g', (∀ i, i < 8 → g' i < 64) → P (some (.int (nI (b01 (crB n c))))) N (hs h 202 (iA 8 g'))) : AM X8_isCrossing [.ref 196, .int (nI c)] N h P := by
  obtain ⟨⟨ps, ty, la, ma, at_, fa, od, d, g1⟩, ⟨f, g2, g3⟩, g4, g5, g6, g7⟩ := id G
  refine AM.of0 rfl (Nat.le_of_ble_eq_true rfl) rfl [some (.ref 196), some (.int (nI c)), none] rfl ?_
  refine AW.iconst 1 dX8_isCrossing_0 rfl (nI 0) rfl ?_
  refine AW.istore_n 2 dX8_isCrossing_1 rfl (Nat.le_of_ble_eq_true rfl) rfl ?_
  have L : ∀ k x, x + k = n → AW X8_isCrossing 2 [some (.ref 196), some (.int (nI c)), some (.int (nI x))] [] N (0, 0) (hs h 202 (iA 8 (lyF c x g))) P := by
    intro k
    induction k with
    | zero =>
      intro x hx
      have G' := G.cell (lyF_lt (c := c) (x := x) g7)
      obtain ⟨⟨ps, ty, la, ma, at_, fa, od, d, y1⟩, ⟨f', y2, y3⟩, y4, -, -, -⟩ := id G'
      refine AW.iload_n 3 dX8_isCrossing_2 rfl (by rfl) ?_
      refine AW.aload_n 4 dX8_isCrossing_3 rfl (by rfl) ?_
      refine AW.getfield 7 dX8_isCrossing_4 rfl fl_X8_7 (by assumption) (by rfl) ?_
      refine AW.iconst 8 dX8_isCrossing_7 rfl (nI 0) rfl ?_
      refine AW.iaload 9 _ dX8_isCrossing_8 rfl (by assumption) (by first | exact Or.inl rfl | exact Or.inr rfl) (ix_nI (by omega)) (by omega) ?_
      rw [y3]
      refine AW.nge 29 12 dX8_isCrossing_9 (by decide) rfl (by omega) (by omega) (fun c2 => ?_) (fun c2 => ?_)
      · obtain rfl : x = n := by omega
        have ag : AG x (lyF c x g) (rw8 c) := fun i hi => by simp [lyF, hi]
        refine AW.aload_n 30 dX8_isCrossing_29 rfl (by rfl) ?_
        refine AW.cV0 33 dX8_isCrossing_30 rfl mi_X8_uniteCrossing mv_X8_uniteCrossing lk_X8_68 ⟨(Nat.le_of_ble_eq_true rfl), (Nat.le_of_ble_eq_true rfl)⟩ rfl (by assumption) rfl (Nat.le_of_ble_eq_true rfl) (c_uniteX G' ?_ ?_)
        · intro e
          rw [crsF_congr ag] at e
          refine AW.zret dX8_isCrossing_33 rfl (by first | exact z_0 | exact z_1 | exact z_b01 _ | assumption) ?_
          have := hP _ (lyF_lt (c := c) (x := x) g7)
          rw [crB, e] at this
          exact this
        · intro a b ha hb e
          rw [crsF_congr ag] at e
          refine AW.zret dX8_isCrossing_33 rfl (by first | exact z_0 | exact z_1 | exact z_b01 _ | assumption) ?_
          have := hP _ (mrg_lt (b := lyF c x g b) (lyF_lt (c := c) (x := x) g7) (lyF_lt (c := c) (x := x) g7 a (by omega)))
          rw [crB, e] at this
          rw [hs_hs]
          exact this
      · omega
    | succ k ih =>
      intro x hx
      have G' := G.cell (lyF_lt (c := c) (x := x) g7)
      obtain ⟨⟨ps, ty, la, ma, at_, fa, od, d, y1⟩, ⟨f', y2, y3⟩, y4, -, -, -⟩ := id G'
      refine AW.iload_n 3 dX8_isCrossing_2 rfl (by rfl) ?_
      refine AW.aload_n 4 dX8_isCrossing_3 rfl (by rfl) ?_
      refine AW.getfield 7 dX8_isCrossing_4 rfl fl_X8_7 (by assumption) (by rfl) ?_
      refine AW.iconst 8 dX8_isCrossing_7 rfl (nI 0) rfl ?_
      refine AW.iaload 9 _ dX8_isCrossing_8 rfl (by assumption) (by first | exact Or.inl rfl | exact Or.inr rfl) (ix_nI (by omega)) (by omega) ?_
      rw [y3]
      refine AW.nge 29 12 dX8_isCrossing_9 (by decide) rfl (by omega) (by omega) (fun c2 => ?_) (fun c2 => ?_)
      · omega
      · refine AW.aload_n 13 dX8_isCrossing_12 rfl (by rfl) ?_
        refine AW.getfield 16 dX8_isCrossing_13 rfl fl_X8_25 (by assumption) (by rfl) ?_
        refine AW.iload_n 17 dX8_isCrossing_16 rfl (by rfl) ?_
        refine AW.iload_n 18 dX8_isCrossing_17 rfl (by rfl) ?_
        refine AW.iload_n 19 dX8_isCrossing_18 rfl (by rfl) ?_
        refine AW.cS2 22 dX8_isCrossing_19 rfl mi_X8_rowOf ms_X8_rowOf lk_X8_64 ⟨(Nat.le_of_ble_eq_true rfl), (Nat.le_of_ble_eq_true rfl)⟩ rfl (Nat.le_of_ble_eq_true rfl) (c_rowOf (by omega) hc ?_)
        refine AW.iastore 23 _ dX8_isCrossing_22 rfl (by assumption) (ix_nI (by omega)) (by omega) ?_
        refine AW.iinc1 26 dX8_isCrossing_23 rfl (by rfl) rfl ?_
        refine AW.goto 2 dX8_isCrossing_26 (by decide) ?_
        rw [hs_hs, upd_nI, lyF_s]
        exact ih (x + 1) (by omega)
  have := L n 0 (by omega)
  rw [lyF_0, hs_self g4] at this
  exact this
def lmF (a b x : Nat) (g : Nat → Nat) : Nat → Nat := fun i => if i < x then 8 * rw8 a i + rw8 b i else g i
theorem lmF_s (a b x : Nat) (g : Nat → Nat) : upN (lmF a b x g) x (8 * rw8 a x + rw8 b x) = lmF a b (x + 1) g := by
  funext i
  unfold upN lmF
  by_cases e : i = x
  · subst e; simp
  · by_cases e2 : i < x
    · simp [e, e2, Nat.lt_succ_of_lt e2]
    · simp [e, e2, show ¬ i < x + 1 by omega]
theorem lmF_lt {a b x : Nat} (hg : ∀ i, i < 8 → g i < 64) : ∀ i, i < 8 → lmF a b x g i < 64 := by
  intro i hi
  unfold lmF
  have := rw8_lt a i
  have := rw8_lt b i
  split
  · omega
  · exact hg i hi
theorem c_met {a b : Nat} (G : GrpAt h n g) (ha : a < 16777216) (hb : b < 16777216) (hP : ∀ g', (∀ i, i < 8 → g' i < 64) → P (some (.int (nI (meM n a b)))) N (hs h 202 (iA 8 g'))) : AM X8_met [.ref 196, .int (nI a), .int (nI b)] N h P := by
  obtain ⟨⟨ps, ty, la, ma, at_, fa, od, d, g1⟩, ⟨f, g2, g3⟩, g4, g5, g6, g7⟩ := id G
  refine AM.of0 rfl (Nat.le_of_ble_eq_true rfl) rfl [some (.ref 196), some (.int (nI a)), some (.int (nI b)), none] rfl ?_
  refine AW.iconst 1 dX8_met_0 rfl (nI 0) rfl ?_
  refine AW.istore_n 2 dX8_met_1 rfl (Nat.le_of_ble_eq_true rfl) rfl ?_
  have L : ∀ k x, x + k = n → AW X8_met 2 [some (.ref 196), some (.int (nI a)), some (.int (nI b)), some (.int (nI x))] [] N (0, 0) (hs h 202 (iA 8 (lmF a b x g))) P := by
    intro k
    induction k with
    | zero =>
      intro x hx
      have G' := G.cell (lmF_lt (a := a) (b := b) (x := x) g7)
      obtain ⟨⟨ps, ty, la, ma, at_, fa, od, d, y1⟩, ⟨f', y2, y3⟩, y4, -, -, -⟩ := id G'
      refine AW.iload_n 3 dX8_met_2 rfl (by rfl) ?_
      refine AW.aload_n 4 dX8_met_3 rfl (by rfl) ?_
      refine AW.getfield 7 dX8_met_4 rfl fl_X8_7 (by assumption) (by rfl) ?_
      refine AW.iconst 8 dX8_met_7 rfl (nI 0) rfl ?_
      refine AW.iaload 9 _ dX8_met_8 rfl (by assumption) (by first | exact Or.inl rfl | exact Or.inr rfl) (ix_nI (by omega)) (by omega) ?_
      rw [y3]
      refine AW.nge 38 12 dX8_met_9 (by decide) rfl (by omega) (by omega) (fun c2 => ?_) (fun c2 => ?_)
      · obtain rfl : x = n := by omega
        refine AW.aload_n 39 dX8_met_38 rfl (by rfl) ?_
        refine AW.cV0 42 dX8_met_39 rfl mi_X8_packed mv_X8_packed lk_X8_72 ⟨(Nat.le_of_ble_eq_true rfl), (Nat.le_of_ble_eq_true rfl)⟩ rfl (by assumption) rfl (Nat.le_of_ble_eq_true rfl) (c_packed G' ?_)
        rw [show pkF x (lmF a b x g) = meM x a b from pkF_congr (fun i hi => by simp [lmF, hi])]
        refine AW.iret dX8_met_42 rfl ?_
        exact hP _ (lmF_lt (a := a) (b := b) (x := x) g7)
      · omega
    | succ k ih =>
      intro x hx
      have G' := G.cell (lmF_lt (a := a) (b := b) (x := x) g7)
      obtain ⟨⟨ps, ty, la, ma, at_, fa, od, d, y1⟩, ⟨f', y2, y3⟩, y4, -, -, -⟩ := id G'
      refine AW.iload_n 3 dX8_met_2 rfl (by rfl) ?_
      refine AW.aload_n 4 dX8_met_3 rfl (by rfl) ?_
      refine AW.getfield 7 dX8_met_4 rfl fl_X8_7 (by assumption) (by rfl) ?_
      refine AW.iconst 8 dX8_met_7 rfl (nI 0) rfl ?_
      refine AW.iaload 9 _ dX8_met_8 rfl (by assumption) (by first | exact Or.inl rfl | exact Or.inr rfl) (ix_nI (by omega)) (by omega) ?_
      rw [y3]
      refine AW.nge 38 12 dX8_met_9 (by decide) rfl (by omega) (by omega) (fun c2 => ?_) (fun c2 => ?_)
      · omega
      · refine AW.aload_n 13 dX8_met_12 rfl (by rfl) ?_
        refine AW.getfield 16 dX8_met_13 rfl fl_X8_25 (by assumption) (by rfl) ?_
        refine AW.iload_n 17 dX8_met_16 rfl (by rfl) ?_
        refine AW.bipush 19 dX8_met_17 rfl (nI 8) rfl ?_
        refine AW.iload_n 20 dX8_met_19 rfl (by rfl) ?_
        refine AW.iload_n 21 dX8_met_20 rfl (by rfl) ?_
        refine AW.cS2 24 dX8_met_21 rfl mi_X8_rowOf ms_X8_rowOf lk_X8_64 ⟨(Nat.le_of_ble_eq_true rfl), (Nat.le_of_ble_eq_true rfl)⟩ rfl (Nat.le_of_ble_eq_true rfl) (c_rowOf (by omega) ha ?_)
        first | refine AW.imulN 25 dX8_met_24 rfl ?_ | refine AW.imul 25 dX8_met_24 rfl ?_
        refine AW.iload_n 26 dX8_met_25 rfl (by rfl) ?_
        refine AW.iload_n 27 dX8_met_26 rfl (by rfl) ?_
        refine AW.cS2 30 dX8_met_27 rfl mi_X8_rowOf ms_X8_rowOf lk_X8_64 ⟨(Nat.le_of_ble_eq_true rfl), (Nat.le_of_ble_eq_true rfl)⟩ rfl (Nat.le_of_ble_eq_true rfl) (c_rowOf (by omega) hb ?_)
        first | refine AW.iaddN 31 dX8_met_30 rfl ?_ | refine AW.iadd 31 dX8_met_30 rfl ?_
        refine AW.iastore 32 _ dX8_met_31 rfl (by assumption) (ix_nI (by omega)) (by omega) ?_
        refine AW.iinc1 35 dX8_met_32 rfl (by rfl) rfl ?_
        refine AW.goto 2 dX8_met_35 (by decide) ?_
        rw [hs_hs, upd_nI, lmF_s]
        exact ih (x + 1) (by omega)
  have := L n 0 (by omega)
  rw [show lmF a b 0 g = g from by funext i; simp [lmF], hs_self g4] at this
  exact this
def ltF (n a x : Nat) (g : Nat → Nat) : Nat → Nat := fun i => if i < n ∧ bfo n i < x then rw8 a (bfo n i) else g i
theorem ltF_s {n a x : Nat} (hx : x < n) (g : Nat → Nat) : upN (ltF n a x g) (aft n x) (rw8 a x) = ltF n a (x + 1) g := by
  funext i
  unfold upN ltF
  by_cases e : i = aft n x
  · have : bfo n i = x := by subst e; unfold bfo aft; split <;> split at * <;> omega
    rw [if_pos e, if_pos ⟨by rw [e]; exact aft_lt (by omega), by omega⟩, this]
  · rw [if_neg e]
    have : i < n → bfo n i ≠ x := by intro hi q; apply e; unfold bfo at q; unfold aft; split at q <;> split <;> omega
    by_cases e2 : i < n ∧ bfo n i < x
    · rw [if_pos e2, if_pos ⟨e2.1, by omega⟩]
    · rw [if_neg e2, if_neg (fun q => e2 ⟨q.1, by have := this q.1; omega⟩)]
theorem ltF_lt {n a x : Nat} (hg : ∀ i, i < 8 → g i < 64) : ∀ i, i < 8 → ltF n a x g i < 64 := by
  intro i hi
  unfold ltF
  have := rw8_lt a (bfo n i)
  split
  · omega
  · exact hg i hi
theorem c_turned {a : Nat} (G : GrpAt h n g) (ha : a < 16777216) (hP : ∀ g', (∀ i, i < 8 → g' i < 64) → P (some (.int (nI (tuM n a)))) N (hs h 202 (iA 8 g'))) : AM X8_turned [.ref 196, .int (nI a)] N h P := by
  obtain ⟨⟨ps, ty, la, ma, at_, fa, od, d, g1⟩, ⟨f, g2, g3⟩, g4, g5, g6, g7⟩ := id G
  refine AM.of0 rfl (Nat.le_of_ble_eq_true rfl) rfl [some (.ref 196), some (.int (nI a)), none, none] rfl ?_
  refine AW.aload_n 1 dX8_turned_0 rfl (by rfl) ?_
  refine AW.getfield 4 dX8_turned_1 rfl fl_X8_7 (by assumption) (by rfl) ?_
  refine AW.iconst 5 dX8_turned_4 rfl (nI 0) rfl ?_
  refine AW.iaload 6 _ dX8_turned_5 rfl (by assumption) (by first | exact Or.inl rfl | exact Or.inr rfl) (ix_nI (by omega)) (by omega) ?_
  rw [g3]
  refine AW.istore_n 7 dX8_turned_6 rfl (Nat.le_of_ble_eq_true rfl) rfl ?_
  refine AW.iconst 8 dX8_turned_7 rfl (nI 0) rfl ?_
  refine AW.istore_n 9 dX8_turned_8 rfl (Nat.le_of_ble_eq_true rfl) rfl ?_
  have L : ∀ k x, x + k = n → AW X8_turned 9 [some (.ref 196), some (.int (nI a)), some (.int (nI n)), some (.int (nI x))] [] N (0, 0) (hs h 202 (iA 8 (ltF n a x g))) P := by
    intro k
    induction k with
    | zero =>
      intro x hx
      have G' := G.cell (ltF_lt (n := n) (a := a) (x := x) g7)
      obtain ⟨⟨ps, ty, la, ma, at_, fa, od, d, y1⟩, ⟨f', y2, y3⟩, y4, -, -, -⟩ := id G'
      refine AW.iload_n 10 dX8_turned_9 rfl (by rfl) ?_
      refine AW.iload_n 11 dX8_turned_10 rfl (by rfl) ?_
      refine AW.nge 35 14 dX8_turned_11 (by decide) rfl (by omega) (by omega) (fun c2 => ?_) (fun c2 => ?_)
      · obtain rfl : x = n := by omega
        refine AW.aload_n 36 dX8_turned_35 rfl (by rfl) ?_
        refine AW.cV0 39 dX8_turned_36 rfl mi_X8_packed mv_X8_packed lk_X8_72 ⟨(Nat.le_of_ble_eq_true rfl), (Nat.le_of_ble_eq_true rfl)⟩ rfl (by assumption) rfl (Nat.le_of_ble_eq_true rfl) (c_packed G' ?_)
        rw [show pkF x (ltF x a x g) = tuM x a from pkF_congr (fun i hi => by simp [ltF, hi, bfo_lt hi])]
        refine AW.iret dX8_turned_39 rfl ?_
        exact hP _ (ltF_lt (n := x) (a := a) (x := x) g7)
      · omega
    | succ k ih =>
      intro x hx
      have G' := G.cell (ltF_lt (n := n) (a := a) (x := x) g7)
      obtain ⟨⟨ps, ty, la, ma, at_, fa, od, d, y1⟩, ⟨f', y2, y3⟩, y4, -, -, -⟩ := id G'
      have := @aft_lt n x (by omega)
      refine AW.iload_n 10 dX8_turned_9 rfl (by rfl) ?_
      refine AW.iload_n 11 dX8_turned_10 rfl (by rfl) ?_
      refine AW.nge 35 14 dX8_turned_11 (by decide) rfl (by omega) (by omega) (fun c2 => ?_) (fun c2 => ?_)
      · omega
      · refine AW.aload_n 15 dX8_turned_14 rfl (by rfl) ?_
        refine AW.getfield 18 dX8_turned_15 rfl fl_X8_25 (by assumption) (by rfl) ?_
        refine AW.iload_n 19 dX8_turned_18 rfl (by rfl) ?_
        refine AW.iconst 20 dX8_turned_19 rfl (nI 1) rfl ?_
        first | refine AW.iaddN 21 dX8_turned_20 rfl ?_ | refine AW.iadd 21 dX8_turned_20 rfl ?_
        refine AW.iload_n 22 dX8_turned_21 rfl (by rfl) ?_
        refine AW.iremN 23 dX8_turned_22 rfl (by omega) (by omega) (by omega) ?_
        rw [aft_mod (show x < n by omega)]
        refine AW.iload_n 24 dX8_turned_23 rfl (by rfl) ?_
        refine AW.iload_n 25 dX8_turned_24 rfl (by rfl) ?_
        refine AW.cS2 28 dX8_turned_25 rfl mi_X8_rowOf ms_X8_rowOf lk_X8_64 ⟨(Nat.le_of_ble_eq_true rfl), (Nat.le_of_ble_eq_true rfl)⟩ rfl (Nat.le_of_ble_eq_true rfl) (c_rowOf (by omega) ha ?_)
        refine AW.iastore 29 _ dX8_turned_28 rfl (by assumption) (ix_nI (by omega)) (by omega) ?_
        refine AW.iinc1 32 dX8_turned_29 rfl (by rfl) rfl ?_
        refine AW.goto 9 dX8_turned_32 (by decide) ?_
        rw [hs_hs, upd_nI, ltF_s (by omega)]
        exact ih (x + 1) (by omega)
  have := L n 0 (by omega)
  rw [show ltF n a 0 g = g from by funext i; simp [ltF], hs_self g4] at this
  exact this
theorem c_nextOf {c x : Nat} (G : GrpAt h n g) (hc : c < 16777216) (hx : x < n) (hP : P (some (.int (nI (nxM n c x)))) N h) : AM X8_nextOf [.ref 196, .int (nI c), .int (nI x)] N h P := by
  obtain ⟨⟨ps, ty, la, ma, at_, fa, od, d, g1⟩, ⟨f, g2, g3⟩, g4, g5, g6, g7⟩ := id G
  refine AM.of0 rfl (Nat.le_of_ble_eq_true rfl) rfl [some (.ref 196), some (.int (nI c)), some (.int (nI x)), none] rfl ?_
  refine AW.iload_n 1 dX8_nextOf_0 rfl (by rfl) ?_
  refine AW.iconst 2 dX8_nextOf_1 rfl (nI 1) rfl ?_
  first | refine AW.iaddN 3 dX8_nextOf_2 rfl ?_ | refine AW.iadd 3 dX8_nextOf_2 rfl ?_
  refine AW.aload_n 4 dX8_nextOf_3 rfl (by rfl) ?_
  refine AW.getfield 7 dX8_nextOf_4 rfl fl_X8_7 (by assumption) (by rfl) ?_
  refine AW.iconst 8 dX8_nextOf_7 rfl (nI 0) rfl ?_
  refine AW.iaload 9 _ dX8_nextOf_8 rfl (by assumption) (by first | exact Or.inl rfl | exact Or.inr rfl) (ix_nI (by omega)) (by omega) ?_
  rw [g3]
  refine AW.iremN 10 dX8_nextOf_9 rfl (by omega) (by omega) (by omega) ?_
  rw [aft_mod hx]
  refine AW.istore_n 11 dX8_nextOf_10 rfl (Nat.le_of_ble_eq_true rfl) rfl ?_
  have L : ∀ k y, y < n → dstF n x y ≤ k → niF n c x k y = nxM n c x → AW X8_nextOf 11 [some (.ref 196), some (.int (nI c)), some (.int (nI x)), some (.int (nI y))] [] N (0, 0) h P := by
    intro k
    induction k with
    | zero =>
      intro y hy hd e
      have : y = x := by unfold dstF at hd; split at hd <;> omega
      subst this
      refine AW.iload_n 12 dX8_nextOf_11 rfl (by rfl) ?_
      refine AW.iload_n 13 dX8_nextOf_12 rfl (by rfl) ?_
      refine AW.cS2 16 dX8_nextOf_13 rfl mi_X8_rowOf ms_X8_rowOf lk_X8_64 ⟨(Nat.le_of_ble_eq_true rfl), (Nat.le_of_ble_eq_true rfl)⟩ rfl (Nat.le_of_ble_eq_true rfl) (c_rowOf (by omega) hc ?_)
      refine AW.iload_n 17 dX8_nextOf_16 rfl (by rfl) ?_
      refine AW.iload_n 18 dX8_nextOf_17 rfl (by rfl) ?_
      refine AW.cS2 21 dX8_nextOf_18 rfl mi_X8_rowOf ms_X8_rowOf lk_X8_64 ⟨(Nat.le_of_ble_eq_true rfl), (Nat.le_of_ble_eq_true rfl)⟩ rfl (Nat.le_of_ble_eq_true rfl) (c_rowOf (by omega) hc ?_)
      have r1 := rw8_lt c y
      refine AW.neq 38 24 dX8_nextOf_21 (by decide) rfl (by omega) (by omega) (fun c2 => ?_) (fun c2 => ?_)
      · refine AW.iload_n 39 dX8_nextOf_38 rfl (by rfl) ?_
        refine AW.iret dX8_nextOf_39 rfl ?_
        rw [niF] at e
        rw [e]
        exact hP
      · exact absurd rfl c2
    | succ k ih =>
      intro y hy hd e
      refine AW.iload_n 12 dX8_nextOf_11 rfl (by rfl) ?_
      refine AW.iload_n 13 dX8_nextOf_12 rfl (by rfl) ?_
      refine AW.cS2 16 dX8_nextOf_13 rfl mi_X8_rowOf ms_X8_rowOf lk_X8_64 ⟨(Nat.le_of_ble_eq_true rfl), (Nat.le_of_ble_eq_true rfl)⟩ rfl (Nat.le_of_ble_eq_true rfl) (c_rowOf (by omega) hc ?_)
      refine AW.iload_n 17 dX8_nextOf_16 rfl (by rfl) ?_
      refine AW.iload_n 18 dX8_nextOf_17 rfl (by rfl) ?_
      refine AW.cS2 21 dX8_nextOf_18 rfl mi_X8_rowOf ms_X8_rowOf lk_X8_64 ⟨(Nat.le_of_ble_eq_true rfl), (Nat.le_of_ble_eq_true rfl)⟩ rfl (Nat.le_of_ble_eq_true rfl) (c_rowOf (by omega) hc ?_)
      have r1 := rw8_lt c y
      have r2 := rw8_lt c x
      rw [niF] at e
      refine AW.neq 38 24 dX8_nextOf_21 (by decide) rfl (by omega) (by omega) (fun c2 => ?_) (fun c2 => ?_)
      · rw [if_pos c2] at e
        refine AW.iload_n 39 dX8_nextOf_38 rfl (by rfl) ?_
        refine AW.iret dX8_nextOf_39 rfl ?_
        rw [e]
        exact hP
      · rw [if_neg c2] at e
        refine AW.iload_n 25 dX8_nextOf_24 rfl (by rfl) ?_
        refine AW.iconst 26 dX8_nextOf_25 rfl (nI 1) rfl ?_
        first | refine AW.iaddN 27 dX8_nextOf_26 rfl ?_ | refine AW.iadd 27 dX8_nextOf_26 rfl ?_
        refine AW.aload_n 28 dX8_nextOf_27 rfl (by rfl) ?_
        refine AW.getfield 31 dX8_nextOf_28 rfl fl_X8_7 (by assumption) (by rfl) ?_
        refine AW.iconst 32 dX8_nextOf_31 rfl (nI 0) rfl ?_
        refine AW.iaload 33 _ dX8_nextOf_32 rfl (by assumption) (by first | exact Or.inl rfl | exact Or.inr rfl) (ix_nI (by omega)) (by omega) ?_
        rw [g3]
        refine AW.iremN 34 dX8_nextOf_33 rfl (by omega) (by omega) (by omega) ?_
        rw [aft_mod hy]
        refine AW.istore_n 35 dX8_nextOf_34 rfl (Nat.le_of_ble_eq_true rfl) rfl ?_
        refine AW.goto 11 dX8_nextOf_35 (by decide) ?_
        refine ih _ (aft_lt (by omega)) ?_ e
        have : y ≠ x := fun q => c2 (by rw [q])
        revert hd
        unfold dstF aft
        split <;> split <;> split <;> omega
  refine L n _ (aft_lt (by omega)) ?_ rfl
  unfold dstF aft
  split <;> split <;> omega
end REF4
