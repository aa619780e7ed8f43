/-! THE MODEL, fifth part: the walks of complement, joined, rankOf, isBelow, isWell -/
def rkM (n c : Nat) : Nat := cnt (fun x => if rw8 c x = x then 0 else 1) n
def blM (n a b : Nat) : Bool := alln (fun x => rw8 b x == rw8 b (rw8 a x)) n
def wlM (n c : Nat) : Bool := alln (fun x => decide (rw8 c x ≤ x) && rw8 c (rw8 c x) == rw8 c x) n && !crB n c
theorem rkM_le (n c : Nat) : rkM n c ≤ n := by
  have : ∀ m, cnt (fun x => if rw8 c x = x then 0 else 1) m ≤ m := by
    intro m
    induction m with
    | zero => exact Nat.le_refl _
    | succ m ih => rw [cnt]; split <;> omega
  exact this n
theorem alln_0 {p : Nat → Bool} {x n : Nat} (h : x ≤ n) (h2 : alln p x = false) : alln p n = false := by
  rcases c : alln p n
  · rfl
  · rw [alln_iff.mpr (fun y hy => alln_iff.mp c y (by omega))] at h2
    exact absurd h2 (by decide)
section REF5
variable {N n : Nat} {h : aH} {P : aP} {g : Nat → Nat}
theorem r_complement {c : Nat} (G : GrpAt h n g) (hc : c < 16777216) (hP : ∀ g', (∀ i, i < 8 → g' i < 64) → P (some (.int (nI (coM n c)))) N (hs h 202 (iA 8 g'))) : AM X8_complement [.ref 196, .int (nI c)] N h P := by
  obtain ⟨⟨ps, ty, la, ma, at_, fa, od, d, g1⟩, ⟨f, g2, g3⟩, g4, g5, g6, g7⟩ := id G
  refine AM.of0 rfl (Nat.le_of_ble_eq_true rfl) rfl [some (.ref 196), some (.int (nI c)), none, none] rfl ?_
  refine AW.aload_n 1 dX8_complement_0 rfl (by rfl) ?_
  refine AW.getfield 4 dX8_complement_1 rfl fl_X8_7 (by assumption) (by rfl) ?_
  refine AW.iconst 5 dX8_complement_4 rfl (nI 0) rfl ?_
  refine AW.iaload 6 _ dX8_complement_5 rfl (by assumption) (by first | exact Or.inl rfl | exact Or.inr rfl) (ix_nI (by omega)) (by omega) ?_
  rw [g3]
  refine AW.istore_n 7 dX8_complement_6 rfl (Nat.le_of_ble_eq_true rfl) rfl ?_
  refine AW.iconst 8 dX8_complement_7 rfl (nI 0) rfl ?_
  refine AW.istore_n 9 dX8_complement_8 rfl (Nat.le_of_ble_eq_true rfl) rfl ?_
  have id8 : ∀ x, x ≤ n → ∀ i, i < 8 → (fun i => if i < x then i else g i) i < 64 := by
    intro x hx i hi
    show (if i < x then i else g i) < 64
    have := g7 i hi
    split <;> omega
  have M : ∀ k y, y + k = n → ∀ G', (∀ i, i < 8 → G' i < 64) → AG n G' (cuF n c y) → AW X8_complement 29 [some (.ref 196), some (.int (nI c)), some (.int (nI n)), some (.int (nI y))] [] N (0, 0) (hs h 202 (iA 8 G')) P := by
    intro k
    induction k with
    | zero =>
      intro y hy G' hG ag
      refine AW.iload_n 30 dX8_complement_29 rfl (by rfl) ?_
      refine AW.iload_n 31 dX8_complement_30 rfl (by rfl) ?_
      refine AW.nge 67 34 dX8_complement_31 (by decide) rfl (by omega) (by omega) (fun c2 => ?_) (fun c2 => ?_)
      · obtain rfl : y = n := by omega
        refine AW.aload_n 68 dX8_complement_67 rfl (by rfl) ?_
        refine AW.cV0 71 dX8_complement_68 rfl mi_X8_packed mv_X8_packed lk_X8_72 ⟨(Nat.le_of_ble_eq_true rfl), (Nat.le_of_ble_eq_true rfl)⟩ rfl (by assumption) rfl (Nat.le_of_ble_eq_true rfl) (c_packed (G.cell hG) ?_)
        rw [pkF_congr ag]
        refine AW.iret dX8_complement_71 rfl ?_
        exact hP _ hG
      · omega
    | succ k ih =>
      intro y hy G' hG ag
      have G'' := G.cell hG
      obtain ⟨⟨ps, ty, la, ma, at_, fa, od, d, y1⟩, ⟨f', y2, y3⟩, y4, -, -, -⟩ := id G''
      refine AW.iload_n 30 dX8_complement_29 rfl (by rfl) ?_
      refine AW.iload_n 31 dX8_complement_30 rfl (by rfl) ?_
      refine AW.nge 67 34 dX8_complement_31 (by decide) rfl (by omega) (by omega) (fun c2 => ?_) (fun c2 => ?_)
      · omega
      · refine AW.aload_n 35 dX8_complement_34 rfl (by rfl) ?_
        refine AW.aload_n 36 dX8_complement_35 rfl (by rfl) ?_
        refine AW.getfield 39 dX8_complement_36 rfl fl_X8_25 (by assumption) (by rfl) ?_
        refine AW.aload_n 40 dX8_complement_39 rfl (by rfl) ?_
        refine AW.iload_n 41 dX8_complement_40 rfl (by rfl) ?_
        refine AW.iload_n 42 dX8_complement_41 rfl (by rfl) ?_
        refine AW.cV2 45 dX8_complement_42 rfl mi_X8_nextOf mv_X8_nextOf lk_X8_76 ⟨(Nat.le_of_ble_eq_true rfl), (Nat.le_of_ble_eq_true rfl)⟩ rfl (by assumption) rfl (Nat.le_of_ble_eq_true rfl) (c_nextOf G'' hc (by omega) ?_)
        have nl := @nxM_lt n c y (by omega)
        refine AW.iload_n 46 dX8_complement_45 rfl (by rfl) ?_
        first | refine AW.iaddN 47 dX8_complement_46 rfl ?_ | refine AW.iadd 47 dX8_complement_46 rfl ?_
        refine AW.iconst 48 dX8_complement_47 rfl (nI 1) rfl ?_
        first | refine AW.isubN 49 dX8_complement_48 rfl (by omega) ?_ | refine AW.isub 49 dX8_complement_48 rfl ?_
        refine AW.iload_n 50 dX8_complement_49 rfl (by rfl) ?_
        refine AW.iremN 51 dX8_complement_50 rfl (by omega) (by omega) (by omega) ?_
        rw [bfo_mod nl]
        have bl := bfo_lt nl
        refine AW.iaload 52 _ dX8_complement_51 rfl (by assumption) (by first | exact Or.inl rfl | exact Or.inr rfl) (ix_nI (by omega)) (by omega) ?_
        refine AW.aload_n 53 dX8_complement_52 rfl (by rfl) ?_
        refine AW.getfield 56 dX8_complement_53 rfl fl_X8_25 (by assumption) (by rfl) ?_
        refine AW.iload_n 57 dX8_complement_56 rfl (by rfl) ?_
        refine AW.iaload 58 _ dX8_complement_57 rfl (by assumption) (by first | exact Or.inl rfl | exact Or.inr rfl) (ix_nI (by omega)) (by omega) ?_
        have e1 : G' (bfo n (nxM n c y)) = cuF n c y (bfo n (nxM n c y)) := ag _ bl
        have e2 : G' y = cuF n c y y := ag _ (by omega)
        refine AW.cV2 61 dX8_complement_58 rfl mi_X8_unite mv_X8_unite lk_X8_60 ⟨(Nat.le_of_ble_eq_true rfl), (Nat.le_of_ble_eq_true rfl)⟩ rfl (by assumption) rfl (Nat.le_of_ble_eq_true rfl) (c_uniteG G'' (hG _ (by omega)) (hG _ (by omega)) ?_)
        refine AW.iinc1 64 dX8_complement_61 rfl (by rfl) rfl ?_
        refine AW.goto 29 dX8_complement_64 (by decide) ?_
        rw [hs_hs]
        exact ih (y + 1) (by omega) _ (mrg_lt hG (hG _ (by omega))) (ag.mrg g6 bl (by omega))
  have L : ∀ k x, x + k = n → AW X8_complement 9 [some (.ref 196), some (.int (nI c)), some (.int (nI n)), some (.int (nI x))] [] N (0, 0) (hs h 202 (iA 8 (fun i => if i < x then i else g i))) P := by
    intro k
    induction k with
    | zero =>
      intro x hx
      refine AW.iload_n 10 dX8_complement_9 rfl (by rfl) ?_
      refine AW.iload_n 11 dX8_complement_10 rfl (by rfl) ?_
      refine AW.nge 27 14 dX8_complement_11 (by decide) rfl (by omega) (by omega) (fun c2 => ?_) (fun c2 => ?_)
      · obtain rfl : x = n := by omega
        refine AW.iconst 28 dX8_complement_27 rfl (nI 0) rfl ?_
        refine AW.istore_n 29 dX8_complement_28 rfl (Nat.le_of_ble_eq_true rfl) rfl ?_
        exact M x 0 (by omega) _ (id8 x (Nat.le_refl _)) (fun i hi => by simp [hi, cuF])
      · omega
    | succ k ih =>
      intro x hx
      have G' := G.cell (id8 x (by omega))
      obtain ⟨⟨ps, ty, la, ma, at_, fa, od, d, y1⟩, ⟨f', y2, y3⟩, y4, -, -, -⟩ := id G'
      refine AW.iload_n 10 dX8_complement_9 rfl (by rfl) ?_
      refine AW.iload_n 11 dX8_complement_10 rfl (by rfl) ?_
      refine AW.nge 27 14 dX8_complement_11 (by decide) rfl (by omega) (by omega) (fun c2 => ?_) (fun c2 => ?_)
      · omega
      · refine AW.aload_n 15 dX8_complement_14 rfl (by rfl) ?_
        refine AW.getfield 18 dX8_complement_15 rfl fl_X8_25 (by assumption) (by rfl) ?_
        refine AW.iload_n 19 dX8_complement_18 rfl (by rfl) ?_
        refine AW.iload_n 20 dX8_complement_19 rfl (by rfl) ?_
        refine AW.iastore 21 _ dX8_complement_20 rfl (by assumption) (ix_nI (by omega)) (by omega) ?_
        refine AW.iinc1 24 dX8_complement_21 rfl (by rfl) rfl ?_
        refine AW.goto 9 dX8_complement_24 (by decide) ?_
        rw [hs_hs, upd_nI, show upN (fun i => if i < x then i else g i) x x = (fun i => if i < x + 1 then i else g i) from funext fun i => by
          unfold upN
          by_cases e : i = x
          · subst e; simp
          · by_cases e2 : i < x
            · simp [e, e2, Nat.lt_succ_of_lt e2]
            · simp [e, e2, show ¬ i < x + 1 by omega]]
        exact ih (x + 1) (by omega)
  have := L n 0 (by omega)
  rw [show (fun i => if i < 0 then i else g i) = g from funext fun i => by simp, hs_self g4] at this
  exact this
theorem c_joined {a b : Nat} (G : GrpAt h n g) (ha : a < 16777216) (hb : b < 16777216) (hbn : ∀ x, x < n → rw8 b x < n) (hP : ∀ g', (∀ i, i < 8 → g' i < 64) → P (some (.int (nI (joM n a b)))) N (hs h 202 (iA 8 g'))) : AM X8_joined [.ref 196, .int (nI a), .int (nI b)] N h P := by
  obtain ⟨⟨ps, ty, la, ma, at_, fa, od, d, g1⟩, ⟨f, g2, g3⟩, g4, g5, g6, g7⟩ := id G
  refine AM.of0 rfl (Nat.le_of_ble_eq_true rfl) rfl [some (.ref 196), some (.int (nI a)), some (.int (nI b)), none] rfl ?_
  refine AW.iconst 1 dX8_joined_0 rfl (nI 0) rfl ?_
  refine AW.istore_n 2 dX8_joined_1 rfl (Nat.le_of_ble_eq_true rfl) rfl ?_
  have X : ∀ m q q', (∀ i, i < 8 → q i < 64) → AG n q q' → dsF n q' ≤ m → xiF n m q' = xiF n 8 (ujF n b (rw8 a) n) → AW X8_joined 69 [some (.ref 196), some (.int (nI a)), some (.int (nI b)), some (.int (nI 1))] [] N (0, 0) (hs h 202 (iA 8 q)) P := by
    have fin : ∀ q q', (∀ i, i < 8 → q i < 64) → AG n q q' → q' = xiF n 8 (ujF n b (rw8 a) n) → AW X8_joined 69 [some (.ref 196), some (.int (nI a)), some (.int (nI b)), some (.int (nI 0))] [] N (0, 0) (hs h 202 (iA 8 q)) P := by
      intro q q' hq ag e
      refine AW.iload_n 70 dX8_joined_69 rfl (by rfl) ?_
      refine AW.ieq 81 73 dX8_joined_70 (by decide) rfl (by omega) (fun c2 => ?_) (fun c2 => ?_)
      · refine AW.aload_n 82 dX8_joined_81 rfl (by rfl) ?_
        refine AW.cV0 85 dX8_joined_82 rfl mi_X8_packed mv_X8_packed lk_X8_72 ⟨(Nat.le_of_ble_eq_true rfl), (Nat.le_of_ble_eq_true rfl)⟩ rfl (by assumption) rfl (Nat.le_of_ble_eq_true rfl) (c_packed (G.cell hq) ?_)
        rw [pkF_congr ag, e]
        refine AW.iret dX8_joined_85 rfl ?_
        exact hP _ hq
      · exact absurd rfl c2
    intro m
    induction m with
    | zero =>
      intro q q' hq ag hd e
      rw [xiF] at e
      refine AW.iload_n 70 dX8_joined_69 rfl (by rfl) ?_
      refine AW.ieq 81 73 dX8_joined_70 (by decide) rfl (by omega) (fun c2 => ?_) (fun c2 => ?_)
      · exact absurd c2 (by decide)
      · refine AW.aload_n 74 dX8_joined_73 rfl (by rfl) ?_
        refine AW.cV0 77 dX8_joined_74 rfl mi_X8_uniteCrossing mv_X8_uniteCrossing lk_X8_68 ⟨(Nat.le_of_ble_eq_true rfl), (Nat.le_of_ble_eq_true rfl)⟩ rfl (by assumption) rfl (Nat.le_of_ble_eq_true rfl) (c_uniteX (G.cell hq) ?_ ?_)
        · intro e2
          refine AW.istore_n 78 dX8_joined_77 rfl (Nat.le_of_ble_eq_true rfl) rfl ?_
          refine AW.goto 69 dX8_joined_78 (by decide) ?_
          exact fin q q' hq ag e
        · intro x y hx hy e2
          rw [crsF_congr ag] at e2
          have := dsF_mrg (g := q') g6 hx hy (crs_some e2).2.1
          omega
    | succ m ih =>
      intro q q' hq ag hd e
      rw [xiF] at e
      refine AW.iload_n 70 dX8_joined_69 rfl (by rfl) ?_
      refine AW.ieq 81 73 dX8_joined_70 (by decide) rfl (by omega) (fun c2 => ?_) (fun c2 => ?_)
      · exact absurd c2 (by decide)
      · refine AW.aload_n 74 dX8_joined_73 rfl (by rfl) ?_
        refine AW.cV0 77 dX8_joined_74 rfl mi_X8_uniteCrossing mv_X8_uniteCrossing lk_X8_68 ⟨(Nat.le_of_ble_eq_true rfl), (Nat.le_of_ble_eq_true rfl)⟩ rfl (by assumption) rfl (Nat.le_of_ble_eq_true rfl) (c_uniteX (G.cell hq) ?_ ?_)
        · intro e2
          rw [crsF_congr ag] at e2
          rw [e2] at e
          refine AW.istore_n 78 dX8_joined_77 rfl (Nat.le_of_ble_eq_true rfl) rfl ?_
          refine AW.goto 69 dX8_joined_78 (by decide) ?_
          exact fin q q' hq ag e
        · intro x y hx hy e2
          rw [crsF_congr ag] at e2
          rw [e2] at e
          have := dsF_mrg (g := q') g6 hx hy (crs_some e2).2.1
          refine AW.istore_n 78 dX8_joined_77 rfl (Nat.le_of_ble_eq_true rfl) rfl ?_
          refine AW.goto 69 dX8_joined_78 (by decide) ?_
          rw [hs_hs]
          exact ih _ _ (mrg_lt hq (hq x (by omega))) (ag.mrg g6 hx hy) (by omega) e
  have M : ∀ k y, y + k = n → ∀ q, (∀ i, i < 8 → q i < 64) → AG n q (ujF n b (rw8 a) y) → AW X8_joined 31 [some (.ref 196), some (.int (nI a)), some (.int (nI b)), some (.int (nI y))] [] N (0, 0) (hs h 202 (iA 8 q)) P := by
    intro k
    induction k with
    | zero =>
      intro y hy q hq ag
      obtain ⟨⟨ps, ty, la, ma, at_, fa, od, d, y1⟩, ⟨f', y2, y3⟩, y4, -, -, -⟩ := id (G.cell hq)
      refine AW.iload_n 32 dX8_joined_31 rfl (by rfl) ?_
      refine AW.aload_n 33 dX8_joined_32 rfl (by rfl) ?_
      refine AW.getfield 36 dX8_joined_33 rfl fl_X8_7 (by assumption) (by rfl) ?_
      refine AW.iconst 37 dX8_joined_36 rfl (nI 0) rfl ?_
      refine AW.iaload 38 _ dX8_joined_37 rfl (by assumption) (by first | exact Or.inl rfl | exact Or.inr rfl) (ix_nI (by omega)) (by omega) ?_
      rw [y3]
      refine AW.nge 67 41 dX8_joined_38 (by decide) rfl (by omega) (by omega) (fun c2 => ?_) (fun c2 => ?_)
      · obtain rfl : y = n := by omega
        refine AW.iconst 68 dX8_joined_67 rfl (nI 1) rfl ?_
        refine AW.istore_n 69 dX8_joined_68 rfl (Nat.le_of_ble_eq_true rfl) rfl ?_
        exact X 8 q _ hq ag (Nat.le_trans (dsF_le _ _) g6) rfl
      · omega
    | succ k ih =>
      intro y hy q hq ag
      have G' := G.cell hq
      obtain ⟨⟨ps, ty, la, ma, at_, fa, od, d, y1⟩, ⟨f', y2, y3⟩, y4, -, -, -⟩ := id G'
      refine AW.iload_n 32 dX8_joined_31 rfl (by rfl) ?_
      refine AW.aload_n 33 dX8_joined_32 rfl (by rfl) ?_
      refine AW.getfield 36 dX8_joined_33 rfl fl_X8_7 (by assumption) (by rfl) ?_
      refine AW.iconst 37 dX8_joined_36 rfl (nI 0) rfl ?_
      refine AW.iaload 38 _ dX8_joined_37 rfl (by assumption) (by first | exact Or.inl rfl | exact Or.inr rfl) (ix_nI (by omega)) (by omega) ?_
      rw [y3]
      refine AW.nge 67 41 dX8_joined_38 (by decide) rfl (by omega) (by omega) (fun c2 => ?_) (fun c2 => ?_)
      · omega
      · refine AW.aload_n 42 dX8_joined_41 rfl (by rfl) ?_
        refine AW.aload_n 43 dX8_joined_42 rfl (by rfl) ?_
        refine AW.getfield 46 dX8_joined_43 rfl fl_X8_25 (by assumption) (by rfl) ?_
        refine AW.iload_n 47 dX8_joined_46 rfl (by rfl) ?_
        refine AW.iload_n 48 dX8_joined_47 rfl (by rfl) ?_
        refine AW.cS2 51 dX8_joined_48 rfl mi_X8_rowOf ms_X8_rowOf lk_X8_64 ⟨(Nat.le_of_ble_eq_true rfl), (Nat.le_of_ble_eq_true rfl)⟩ rfl (Nat.le_of_ble_eq_true rfl) (c_rowOf (by omega) hb ?_)
        have rl := rw8_lt b y
        have rn := hbn y (by omega)
        refine AW.iaload 52 _ dX8_joined_51 rfl (by assumption) (by first | exact Or.inl rfl | exact Or.inr rfl) (ix_nI (by omega)) (by omega) ?_
        refine AW.aload_n 53 dX8_joined_52 rfl (by rfl) ?_
        refine AW.getfield 56 dX8_joined_53 rfl fl_X8_25 (by assumption) (by rfl) ?_
        refine AW.iload_n 57 dX8_joined_56 rfl (by rfl) ?_
        refine AW.iaload 58 _ dX8_joined_57 rfl (by assumption) (by first | exact Or.inl rfl | exact Or.inr rfl) (ix_nI (by omega)) (by omega) ?_
        refine AW.cV2 61 dX8_joined_58 rfl mi_X8_unite mv_X8_unite lk_X8_60 ⟨(Nat.le_of_ble_eq_true rfl), (Nat.le_of_ble_eq_true rfl)⟩ rfl (by assumption) rfl (Nat.le_of_ble_eq_true rfl) (c_uniteG G' (hq _ (by omega)) (hq _ (by omega)) ?_)
        refine AW.iinc1 64 dX8_joined_61 rfl (by rfl) rfl ?_
        refine AW.goto 31 dX8_joined_64 (by decide) ?_
        rw [hs_hs]
        exact ih (y + 1) (by omega) _ (mrg_lt hq (hq _ (by omega))) (ag.mrg g6 rn (by omega))
  have L : ∀ k x, x + k = n → AW X8_joined 2 [some (.ref 196), some (.int (nI a)), some (.int (nI b)), some (.int (nI x))] [] N (0, 0) (hs h 202 (iA 8 (lyF a x g))) P := by
    intro k
    induction k with
    | zero =>
      intro x hx
      have G' := G.cell (lyF_lt (c := a) (x := x) g7)
      obtain ⟨⟨ps, ty, la, ma, at_, fa, od, d, y1⟩, ⟨f', y2, y3⟩, y4, -, -, -⟩ := id G'
      refine AW.iload_n 3 dX8_joined_2 rfl (by rfl) ?_
      refine AW.aload_n 4 dX8_joined_3 rfl (by rfl) ?_
      refine AW.getfield 7 dX8_joined_4 rfl fl_X8_7 (by assumption) (by rfl) ?_
      refine AW.iconst 8 dX8_joined_7 rfl (nI 0) rfl ?_
      refine AW.iaload 9 _ dX8_joined_8 rfl (by assumption) (by first | exact Or.inl rfl | exact Or.inr rfl) (ix_nI (by omega)) (by omega) ?_
      rw [y3]
      refine AW.nge 29 12 dX8_joined_9 (by decide) rfl (by omega) (by omega) (fun c2 => ?_) (fun c2 => ?_)
      · obtain rfl : x = n := by omega
        refine AW.iconst 30 dX8_joined_29 rfl (nI 0) rfl ?_
        refine AW.istore_n 31 dX8_joined_30 rfl (Nat.le_of_ble_eq_true rfl) rfl ?_
        exact M x 0 (by omega) _ (lyF_lt g7) (fun i hi => by simp [lyF, hi, ujF])
      · omega
    | succ k ih =>
      intro x hx
      have G' := G.cell (lyF_lt (c := a) (x := x) g7)
      obtain ⟨⟨ps, ty, la, ma, at_, fa, od, d, y1⟩, ⟨f', y2, y3⟩, y4, -, -, -⟩ := id G'
      refine AW.iload_n 3 dX8_joined_2 rfl (by rfl) ?_
      refine AW.aload_n 4 dX8_joined_3 rfl (by rfl) ?_
      refine AW.getfield 7 dX8_joined_4 rfl fl_X8_7 (by assumption) (by rfl) ?_
      refine AW.iconst 8 dX8_joined_7 rfl (nI 0) rfl ?_
      refine AW.iaload 9 _ dX8_joined_8 rfl (by assumption) (by first | exact Or.inl rfl | exact Or.inr rfl) (ix_nI (by omega)) (by omega) ?_
      rw [y3]
      refine AW.nge 29 12 dX8_joined_9 (by decide) rfl (by omega) (by omega) (fun c2 => ?_) (fun c2 => ?_)
      · omega
      · refine AW.aload_n 13 dX8_joined_12 rfl (by rfl) ?_
        refine AW.getfield 16 dX8_joined_13 rfl fl_X8_25 (by assumption) (by rfl) ?_
        refine AW.iload_n 17 dX8_joined_16 rfl (by rfl) ?_
        refine AW.iload_n 18 dX8_joined_17 rfl (by rfl) ?_
        refine AW.iload_n 19 dX8_joined_18 rfl (by rfl) ?_
        refine AW.cS2 22 dX8_joined_19 rfl mi_X8_rowOf ms_X8_rowOf lk_X8_64 ⟨(Nat.le_of_ble_eq_true rfl), (Nat.le_of_ble_eq_true rfl)⟩ rfl (Nat.le_of_ble_eq_true rfl) (c_rowOf (by omega) ha ?_)
        refine AW.iastore 23 _ dX8_joined_22 rfl (by assumption) (ix_nI (by omega)) (by omega) ?_
        refine AW.iinc1 26 dX8_joined_23 rfl (by rfl) rfl ?_
        refine AW.goto 2 dX8_joined_26 (by decide) ?_
        rw [hs_hs, upd_nI, lyF_s]
        exact ih (x + 1) (by omega)
  have := L n 0 (by omega)
  rw [lyF_0, hs_self g4] at this
  exact this
end REF5
section REF5b
variable {N n : Nat} {h : aH} {P : aP}
/-- what the methods that only read see: the object and its n -/
def NowAt (h : aH) (n : Nat) : Prop := (∃ ps ty la ma at_ fa od d, h 196 = modO ps ty la ma at_ fa od d) ∧ (∃ f, h 197 = .inl (0, (15, .inl f)) ∧ f 0 = nI n) ∧ 1 ≤ n ∧ n ≤ 8
theorem GrpAt.now {g : Nat → Nat} (G : GrpAt h n g) : NowAt h n := ⟨G.1, G.2.1, G.2.2.2.1, G.2.2.2.2.1⟩
theorem c_rankOf {c : Nat} (G : NowAt h n) (hc : c < 16777216) (hP : P (some (.int (nI (rkM n c)))) N h) : AM X8_rankOf [.ref 196, .int (nI c)] N h P := by
  obtain ⟨⟨ps, ty, la, ma, at_, fa, od, d, g1⟩, ⟨f, g2, g3⟩, g5, g6⟩ := id G
  refine AM.of0 rfl (Nat.le_of_ble_eq_true rfl) rfl [some (.ref 196), some (.int (nI c)), none, none] rfl ?_
  refine AW.iconst 1 dX8_rankOf_0 rfl (nI 0) rfl ?_
  refine AW.istore_n 2 dX8_rankOf_1 rfl (Nat.le_of_ble_eq_true rfl) rfl ?_
  refine AW.iconst 3 dX8_rankOf_2 rfl (nI 0) rfl ?_
  refine AW.istore_n 4 dX8_rankOf_3 rfl (Nat.le_of_ble_eq_true rfl) rfl ?_
  have L : ∀ k x, x + k = n → AW X8_rankOf 4 [some (.ref 196), some (.int (nI c)), some (.int (nI (cnt (fun x => if rw8 c x = x then 0 else 1) x))), some (.int (nI x))] [] N (0, 0) h P := by
    intro k
    induction k with
    | zero =>
      intro x hx
      refine AW.iload_n 5 dX8_rankOf_4 rfl (by rfl) ?_
      refine AW.aload_n 6 dX8_rankOf_5 rfl (by rfl) ?_
      refine AW.getfield 9 dX8_rankOf_6 rfl fl_X8_7 (by assumption) (by rfl) ?_
      refine AW.iconst 10 dX8_rankOf_9 rfl (nI 0) rfl ?_
      refine AW.iaload 11 _ dX8_rankOf_10 rfl (by assumption) (by first | exact Or.inl rfl | exact Or.inr rfl) (ix_nI (by omega)) (by omega) ?_
      rw [g3]
      refine AW.nge 37 14 dX8_rankOf_11 (by decide) rfl (by omega) (by omega) (fun c2 => ?_) (fun c2 => ?_)
      · obtain rfl : x = n := by omega
        refine AW.iload_n 38 dX8_rankOf_37 rfl (by rfl) ?_
        refine AW.iret dX8_rankOf_38 rfl ?_
        exact hP
      · omega
    | succ k ih =>
      intro x hx
      have r1 := rw8_lt c x
      refine AW.iload_n 5 dX8_rankOf_4 rfl (by rfl) ?_
      refine AW.aload_n 6 dX8_rankOf_5 rfl (by rfl) ?_
      refine AW.getfield 9 dX8_rankOf_6 rfl fl_X8_7 (by assumption) (by rfl) ?_
      refine AW.iconst 10 dX8_rankOf_9 rfl (nI 0) rfl ?_
      refine AW.iaload 11 _ dX8_rankOf_10 rfl (by assumption) (by first | exact Or.inl rfl | exact Or.inr rfl) (ix_nI (by omega)) (by omega) ?_
      rw [g3]
      refine AW.nge 37 14 dX8_rankOf_11 (by decide) rfl (by omega) (by omega) (fun c2 => ?_) (fun c2 => ?_)
      · omega
      · refine AW.iload_n 15 dX8_rankOf_14 rfl (by rfl) ?_
        refine AW.iload_n 16 dX8_rankOf_15 rfl (by rfl) ?_
        refine AW.iload_n 17 dX8_rankOf_16 rfl (by rfl) ?_
        refine AW.cS2 20 dX8_rankOf_17 rfl mi_X8_rowOf ms_X8_rowOf lk_X8_64 ⟨(Nat.le_of_ble_eq_true rfl), (Nat.le_of_ble_eq_true rfl)⟩ rfl (Nat.le_of_ble_eq_true rfl) (c_rowOf (by omega) hc ?_)
        refine AW.iload_n 21 dX8_rankOf_20 rfl (by rfl) ?_
        have J : ∀ v, v = (if rw8 c x = x then 0 else 1) → AW X8_rankOf 29 [some (.ref 196), some (.int (nI c)), some (.int (nI (cnt (fun x => if rw8 c x = x then 0 else 1) x))), some (.int (nI x))] [.int (nI v), .int (nI (cnt (fun x => if rw8 c x = x then 0 else 1) x))] N (0, 0) h P := by
          intro v hv
          first | refine AW.iaddN 30 dX8_rankOf_29 rfl ?_ | refine AW.iadd 30 dX8_rankOf_29 rfl ?_
          refine AW.istore_n 31 dX8_rankOf_30 rfl (Nat.le_of_ble_eq_true rfl) rfl ?_
          refine AW.iinc1 34 dX8_rankOf_31 rfl (by rfl) rfl ?_
          refine AW.goto 4 dX8_rankOf_34 (by decide) ?_
          rw [hv]
          exact ih (x + 1) (by omega)
        refine AW.nne 28 24 dX8_rankOf_21 (by decide) rfl (by omega) (by omega) (fun c3 => ?_) (fun c3 => ?_)
        · refine AW.iconst 29 dX8_rankOf_28 rfl (nI 1) rfl ?_
          exact J _ (by rw [if_neg c3])
        · refine AW.iconst 25 dX8_rankOf_24 rfl (nI 0) rfl ?_
          refine AW.goto 29 dX8_rankOf_25 (by decide) ?_
          exact J _ (by rw [if_pos c3])
  exact L n 0 (by omega)
theorem c_isBelow {a b : Nat} (G : NowAt h n) (ha : a < 16777216) (hb : b < 16777216) (hP : P (some (.int (nI (b01 (blM n a b))))) N h) : AM X8_isBelow [.ref 196, .int (nI a), .int (nI b)] N h P := by
  obtain ⟨⟨ps, ty, la, ma, at_, fa, od, d, g1⟩, ⟨f, g2, g3⟩, g5, g6⟩ := id G
  refine AM.of0 rfl (Nat.le_of_ble_eq_true rfl) rfl [some (.ref 196), some (.int (nI a)), some (.int (nI b)), none, none] rfl ?_
  refine AW.iconst 1 dX8_isBelow_0 rfl (nI 1) rfl ?_
  refine AW.istore_n 2 dX8_isBelow_1 rfl (Nat.le_of_ble_eq_true rfl) rfl ?_
  refine AW.iconst 3 dX8_isBelow_2 rfl (nI 0) rfl ?_
  refine AW.istore 5 dX8_isBelow_3 rfl (Nat.le_of_ble_eq_true rfl) rfl ?_
  have fin : ∀ t v4, t = blM n a b → AW X8_isBelow 51 [some (.ref 196), some (.int (nI a)), some (.int (nI b)), some (.int (nI (b01 t))), v4] [] N (0, 0) h P := by
    intro t v4 e
    subst e
    refine AW.iload_n 52 dX8_isBelow_51 rfl (by rfl) ?_
    refine AW.zret dX8_isBelow_52 rfl (by first | exact z_0 | exact z_1 | exact z_b01 _ | assumption) ?_
    exact hP
  have L : ∀ k x, x + k = n → ∀ t, t = alln (fun x => rw8 b x == rw8 b (rw8 a x)) x → AW X8_isBelow 5 [some (.ref 196), some (.int (nI a)), some (.int (nI b)), some (.int (nI (b01 t))), some (.int (nI x))] [] N (0, 0) h P := by
    intro k
    induction k with
    | zero =>
      intro x hx t ht
      refine AW.iload 7 dX8_isBelow_5 rfl (by rfl) ?_
      refine AW.aload_n 8 dX8_isBelow_7 rfl (by rfl) ?_
      refine AW.getfield 11 dX8_isBelow_8 rfl fl_X8_7 (by assumption) (by rfl) ?_
      refine AW.iconst 12 dX8_isBelow_11 rfl (nI 0) rfl ?_
      refine AW.iaload 13 _ dX8_isBelow_12 rfl (by assumption) (by first | exact Or.inl rfl | exact Or.inr rfl) (ix_nI (by omega)) (by omega) ?_
      rw [g3]
      refine AW.nge 51 16 dX8_isBelow_13 (by decide) rfl (by omega) (by omega) (fun c2 => ?_) (fun c2 => ?_)
      · obtain rfl : x = n := by omega
        exact fin _ _ ht
      · omega
    | succ k ih =>
      intro x hx t ht
      have r1 := rw8_lt a x
      have r2 := rw8_lt b x
      have r3 := rw8_lt b (rw8 a x)
      refine AW.iload 7 dX8_isBelow_5 rfl (by rfl) ?_
      refine AW.aload_n 8 dX8_isBelow_7 rfl (by rfl) ?_
      refine AW.getfield 11 dX8_isBelow_8 rfl fl_X8_7 (by assumption) (by rfl) ?_
      refine AW.iconst 12 dX8_isBelow_11 rfl (nI 0) rfl ?_
      refine AW.iaload 13 _ dX8_isBelow_12 rfl (by assumption) (by first | exact Or.inl rfl | exact Or.inr rfl) (ix_nI (by omega)) (by omega) ?_
      rw [g3]
      refine AW.nge 51 16 dX8_isBelow_13 (by decide) rfl (by omega) (by omega) (fun c2 => ?_) (fun c2 => ?_)
      · omega
      · refine AW.iload_n 17 dX8_isBelow_16 rfl (by rfl) ?_
        refine AW.zeq 51 20 dX8_isBelow_17 (by decide) rfl (fun c3 => ?_) (fun c3 => ?_)
        · refine fin _ _ ?_
          rw [c3]
          exact (alln_0 (show x ≤ n by omega) (by rw [← ht, c3])).symm
        · refine AW.iload_n 21 dX8_isBelow_20 rfl (by rfl) ?_
          refine AW.iload 23 dX8_isBelow_21 rfl (by rfl) ?_
          refine AW.cS2 26 dX8_isBelow_23 rfl mi_X8_rowOf ms_X8_rowOf lk_X8_64 ⟨(Nat.le_of_ble_eq_true rfl), (Nat.le_of_ble_eq_true rfl)⟩ rfl (Nat.le_of_ble_eq_true rfl) (c_rowOf (by omega) hb ?_)
          refine AW.iload_n 27 dX8_isBelow_26 rfl (by rfl) ?_
          refine AW.iload_n 28 dX8_isBelow_27 rfl (by rfl) ?_
          refine AW.iload 30 dX8_isBelow_28 rfl (by rfl) ?_
          refine AW.cS2 33 dX8_isBelow_30 rfl mi_X8_rowOf ms_X8_rowOf lk_X8_64 ⟨(Nat.le_of_ble_eq_true rfl), (Nat.le_of_ble_eq_true rfl)⟩ rfl (Nat.le_of_ble_eq_true rfl) (c_rowOf (by omega) ha ?_)
          refine AW.cS2 36 dX8_isBelow_33 rfl mi_X8_rowOf ms_X8_rowOf lk_X8_64 ⟨(Nat.le_of_ble_eq_true rfl), (Nat.le_of_ble_eq_true rfl)⟩ rfl (Nat.le_of_ble_eq_true rfl) (c_rowOf (by omega) hb ?_)
          have J : ∀ v, v = (rw8 b x == rw8 b (rw8 a x)) → AW X8_isBelow 44 [some (.ref 196), some (.int (nI a)), some (.int (nI b)), some (.int (nI (b01 t))), some (.int (nI x))] [.int (nI (b01 v))] N (0, 0) h P := by
            intro v hv
            refine AW.istore_n 45 dX8_isBelow_44 rfl (Nat.le_of_ble_eq_true rfl) rfl ?_
            refine AW.iinc1 48 dX8_isBelow_45 rfl (by rfl) rfl ?_
            refine AW.goto 5 dX8_isBelow_48 (by decide) ?_
            refine ih (x + 1) (by omega) v ?_
            rw [alln, ← ht, c3, hv, Bool.true_and]
          refine AW.nne 43 39 dX8_isBelow_36 (by decide) rfl (by omega) (by omega) (fun c4 => ?_) (fun c4 => ?_)
          · refine AW.iconst 44 dX8_isBelow_43 rfl (nI 0) rfl ?_
            exact J false (by simp [c4])
          · refine AW.iconst 40 dX8_isBelow_39 rfl (nI 1) rfl ?_
            refine AW.goto 44 dX8_isBelow_40 (by decide) ?_
            exact J true (by simp [c4])
  exact L n 0 (by omega) true rfl
theorem r_isWell {c : Nat} {g : Nat → Nat} (G : GrpAt h n g) (hc : c < 16777216) (hP : ∀ g', (∀ i, i < 8 → g' i < 64) → P (some (.int (nI (b01 (wlM n c))))) N (hs h 202 (iA 8 g'))) : AM X8_isWell [.ref 196, .int (nI c)] N h P := by
  obtain ⟨⟨ps, ty, la, ma, at_, fa, od, d, g1⟩, ⟨f, g2, g3⟩, g4, g5, g6, g7⟩ := id G
  refine AM.of0 rfl (Nat.le_of_ble_eq_true rfl) rfl [some (.ref 196), some (.int (nI c)), none, none, none] rfl ?_
  refine AW.iconst 1 dX8_isWell_0 rfl (nI 1) rfl ?_
  refine AW.istore_n 2 dX8_isWell_1 rfl (Nat.le_of_ble_eq_true rfl) rfl ?_
  refine AW.iconst 3 dX8_isWell_2 rfl (nI 0) rfl ?_
  refine AW.istore_n 4 dX8_isWell_3 rfl (Nat.le_of_ble_eq_true rfl) rfl ?_
  have fin : ∀ t v3 v4, t = alln (fun x => decide (rw8 c x ≤ x) && rw8 c (rw8 c x) == rw8 c x) n → AW X8_isWell 54 [some (.ref 196), some (.int (nI c)), some (.int (nI (b01 t))), v3, v4] [] N (0, 0) h P := by
    intro t v3 v4 e
    refine AW.iload_n 55 dX8_isWell_54 rfl (by rfl) ?_
    refine AW.zeq 70 58 dX8_isWell_55 (by decide) rfl (fun c3 => ?_) (fun c3 => ?_)
    · rw [e] at c3
      refine AW.iconst 71 dX8_isWell_70 rfl (nI 0) rfl ?_
      refine AW.zret dX8_isWell_71 rfl (by first | exact z_0 | exact z_1 | exact z_b01 _ | assumption) ?_
      have := hP g g7
      rw [wlM, c3, hs_self g4] at this
      exact this
    · rw [e] at c3
      refine AW.aload_n 59 dX8_isWell_58 rfl (by rfl) ?_
      refine AW.iload_n 60 dX8_isWell_59 rfl (by rfl) ?_
      refine AW.cV1 63 dX8_isWell_60 rfl mi_X8_isCrossing mv_X8_isCrossing lk_X8_79 ⟨(Nat.le_of_ble_eq_true rfl), (Nat.le_of_ble_eq_true rfl)⟩ rfl (by assumption) rfl (Nat.le_of_ble_eq_true rfl) (c_isCrossing G hc ?_)
      intro g' hg'
      refine AW.zne 70 66 dX8_isWell_63 (by decide) rfl (fun c4 => ?_) (fun c4 => ?_)
      · refine AW.iconst 71 dX8_isWell_70 rfl (nI 0) rfl ?_
        refine AW.zret dX8_isWell_71 rfl (by first | exact z_0 | exact z_1 | exact z_b01 _ | assumption) ?_
        have := hP g' hg'
        rw [wlM, c3, c4] at this
        exact this
      · refine AW.iconst 67 dX8_isWell_66 rfl (nI 1) rfl ?_
        refine AW.goto 71 dX8_isWell_67 (by decide) ?_
        refine AW.zret dX8_isWell_71 rfl (by first | exact z_0 | exact z_1 | exact z_b01 _ | assumption) ?_
        have := hP g' hg'
        rw [wlM, c3, c4] at this
        exact this
  have L : ∀ k x, x + k = n → ∀ t v4, t = alln (fun x => decide (rw8 c x ≤ x) && rw8 c (rw8 c x) == rw8 c x) x → AW X8_isWell 4 [some (.ref 196), some (.int (nI c)), some (.int (nI (b01 t))), some (.int (nI x)), v4] [] N (0, 0) h P := by
    intro k
    induction k with
    | zero =>
      intro x hx t v4 ht
      refine AW.iload_n 5 dX8_isWell_4 rfl (by rfl) ?_
      refine AW.aload_n 6 dX8_isWell_5 rfl (by rfl) ?_
      refine AW.getfield 9 dX8_isWell_6 rfl fl_X8_7 (by assumption) (by rfl) ?_
      refine AW.iconst 10 dX8_isWell_9 rfl (nI 0) rfl ?_
      refine AW.iaload 11 _ dX8_isWell_10 rfl (by assumption) (by first | exact Or.inl rfl | exact Or.inr rfl) (ix_nI (by omega)) (by omega) ?_
      rw [g3]
      refine AW.nge 54 14 dX8_isWell_11 (by decide) rfl (by omega) (by omega) (fun c2 => ?_) (fun c2 => ?_)
      · obtain rfl : x = n := by omega
        exact fin _ _ _ ht
      · omega
    | succ k ih =>
      intro x hx t v4 ht
      have r1 := rw8_lt c x
      have r3 := rw8_lt c (rw8 c x)
      refine AW.iload_n 5 dX8_isWell_4 rfl (by rfl) ?_
      refine AW.aload_n 6 dX8_isWell_5 rfl (by rfl) ?_
      refine AW.getfield 9 dX8_isWell_6 rfl fl_X8_7 (by assumption) (by rfl) ?_
      refine AW.iconst 10 dX8_isWell_9 rfl (nI 0) rfl ?_
      refine AW.iaload 11 _ dX8_isWell_10 rfl (by assumption) (by first | exact Or.inl rfl | exact Or.inr rfl) (ix_nI (by omega)) (by omega) ?_
      rw [g3]
      refine AW.nge 54 14 dX8_isWell_11 (by decide) rfl (by omega) (by omega) (fun c2 => ?_) (fun c2 => ?_)
      · omega
      · refine AW.iload_n 15 dX8_isWell_14 rfl (by rfl) ?_
        refine AW.zeq 54 18 dX8_isWell_15 (by decide) rfl (fun c3 => ?_) (fun c3 => ?_)
        · refine fin _ _ _ ?_
          rw [c3]
          exact (alln_0 (show x ≤ n by omega) (by rw [← ht, c3])).symm
        · refine AW.iload_n 19 dX8_isWell_18 rfl (by rfl) ?_
          refine AW.iload_n 20 dX8_isWell_19 rfl (by rfl) ?_
          refine AW.cS2 23 dX8_isWell_20 rfl mi_X8_rowOf ms_X8_rowOf lk_X8_64 ⟨(Nat.le_of_ble_eq_true rfl), (Nat.le_of_ble_eq_true rfl)⟩ rfl (Nat.le_of_ble_eq_true rfl) (c_rowOf (by omega) hc ?_)
          refine AW.istore 25 dX8_isWell_23 rfl (Nat.le_of_ble_eq_true rfl) rfl ?_
          refine AW.iload 27 dX8_isWell_25 rfl (by rfl) ?_
          refine AW.iload_n 28 dX8_isWell_27 rfl (by rfl) ?_
          have J : ∀ v, v = (decide (rw8 c x ≤ x) && rw8 c (rw8 c x) == rw8 c x) → AW X8_isWell 47 [some (.ref 196), some (.int (nI c)), some (.int (nI (b01 t))), some (.int (nI x)), some (.int (nI (rw8 c x)))] [.int (nI (b01 v))] N (0, 0) h P := by
            intro v hv
            refine AW.istore_n 48 dX8_isWell_47 rfl (Nat.le_of_ble_eq_true rfl) rfl ?_
            refine AW.iinc1 51 dX8_isWell_48 rfl (by rfl) rfl ?_
            refine AW.goto 4 dX8_isWell_51 (by decide) ?_
            refine ih (x + 1) (by omega) v _ ?_
            rw [alln, ← ht, c3, hv, Bool.true_and]
          refine AW.ngt 46 31 dX8_isWell_28 (by decide) rfl (by omega) (by omega) (fun c4 => ?_) (fun c4 => ?_)
          · refine AW.iconst 47 dX8_isWell_46 rfl (nI 0) rfl ?_
            exact J false (by simp [show ¬ rw8 c x ≤ x by omega])
          · refine AW.iload_n 32 dX8_isWell_31 rfl (by rfl) ?_
            refine AW.iload 34 dX8_isWell_32 rfl (by rfl) ?_
            refine AW.cS2 37 dX8_isWell_34 rfl mi_X8_rowOf ms_X8_rowOf lk_X8_64 ⟨(Nat.le_of_ble_eq_true rfl), (Nat.le_of_ble_eq_true rfl)⟩ rfl (Nat.le_of_ble_eq_true rfl) (c_rowOf (by omega) hc ?_)
            refine AW.iload 39 dX8_isWell_37 rfl (by rfl) ?_
            refine AW.nne 46 42 dX8_isWell_39 (by decide) rfl (by omega) (by omega) (fun c5 => ?_) (fun c5 => ?_)
            · refine AW.iconst 47 dX8_isWell_46 rfl (nI 0) rfl ?_
              exact J false (by simp [c5])
            · refine AW.iconst 43 dX8_isWell_42 rfl (nI 1) rfl ?_
              refine AW.goto 47 dX8_isWell_43 (by decide) ?_
              exact J true (by simp [c4, c5])
  exact L n 0 (by omega) true _ rfl
end REF5b
