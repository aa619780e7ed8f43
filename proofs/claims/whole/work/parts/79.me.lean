/-! MATHEMATICS 14: chains -/
def c5Q (n : Nat) : Bool := allK (fun k => frc (tb n k) fun c => cond (Nat.ble 1 (copQ n c)) (Nat.ble (copQ n c) 1048576) false) (catN n)
theorem c5_all : ∀ n, n ≤ 8 → c5Q n = true := by decide +kernel
section ME
variable {n a b c d : Nat} {X : aX}
theorem cop_bd (h1 : 1 ≤ n) (h2 : n ≤ 8) (g : GdC n c) : 1 ≤ copQ n c ∧ copQ n c ≤ 1048576 := by
  obtain ⟨k, hk, rfl⟩ := tb_all h1 h2 g
  have := cond_and (frc_t (allK_iff (c5_all n h2) k hk))
  exact ⟨Nat.le_of_ble_eq_true this.1, Nat.le_of_ble_eq_true this.2⟩
theorem ws_sum {W : Nat → Int32} {k r : Nat} {mk : Option Nat} : ∀ J, wsT n W k r mk J = sumI (fun j => if rkM n (tb n j) = r ∧ 0 < W j ∧ blM n (tb n j) (tb n k) = true ∧ mkB mk (mkM n (tb n j) (tb n k)) = true then W j else 0) J
  | 0 => rfl
  | J + 1 => by
    rw [wsT, sumI, ws_sum J]
    by_cases c : rkM n (tb n J) = r ∧ 0 < W J ∧ blM n (tb n J) (tb n k) = true
    · rw [if_pos c]
      by_cases e : mkB mk (mkM n (tb n J) (tb n k)) = true
      · rw [if_pos e, if_pos ⟨c.1, c.2.1, c.2.2, e⟩]
      · rw [if_neg e, if_neg (fun t => e t.2.2.2)]
        rfl
    · rw [if_neg c, if_neg (fun t => c ⟨t.1, t.2.1, t.2.2.1⟩), Int32.add_zero]
theorem ws_congr {W W' : Nat → Int32} {k r : Nat} {mk : Option Nat} (J : Nat) (h : ∀ j, j < J → rkM n (tb n j) = r → W j = W' j) : wsT n W k r mk J = wsT n W' k r mk J := by
  rw [ws_sum, ws_sum]
  refine sumI_congr J (fun j hj => ?_)
  by_cases e : rkM n (tb n j) = r
  · rw [h j hj e]
  · rw [if_neg (fun t => e t.1), if_neg (fun t => e t.1)]
theorem wyK_no {W : Nat → Int32} {r : Nat} {mk : Option Nat} : ∀ m k, (rkM n (tb n k) ≠ r + 1 ∨ m ≤ k) → wyK n b r mk m W k = W k
  | 0, _, _ => rfl
  | m + 1, k, h => by
    rw [wyK]
    split
    · rename_i c
      unfold upd
      rw [if_neg (fun e => by
        subst e
        rcases h with h | h
        · exact h c.1
        · omega)]
      exact wyK_no m k (by omega)
    · exact wyK_no m k (by omega)
theorem wyK_yes {W : Nat → Int32} {r : Nat} {mk : Option Nat} : ∀ m k, k < m → rkM n (tb n k) = r + 1 → blM n (tb n k) b = true → wyK n b r mk m W k = wsT n W k r mk (catN n)
  | 0, k, h, _, _ => by omega
  | m + 1, k, h, e1, e2 => by
    rw [wyK]
    by_cases e : k = m
    · subst e
      rw [if_pos ⟨e1, e2⟩]
      unfold upd
      rw [if_pos rfl]
      exact ws_congr _ (fun j _ hj => wyK_no k j (Or.inl (by omega)))
    · split
      · unfold upd
        rw [if_neg e]
        exact wyK_yes m k (by omega) e1 e2
      · exact wyK_yes m k (by omega) e1 e2
theorem nI_lt0 {x : Nat} (h : 1 ≤ x) (h2 : x ≤ 1048576) : (0 : Int32) < nI x := by
  rw [Int32.lt_iff_toInt_lt, nI_toInt (by omega), show (0 : Int32).toInt = 0 from rfl]
  omega
/-- the ways to what lies at the rank r, below b -/
def WyC (n a b r : Nat) (W : Nat → Int32) : Prop := ∀ j, j < catN n → rkM n (tb n j) = r → blM n (tb n j) b = true → W j = if blM n a (tb n j) = true then nI (copQ n (La n a (tb n j))) else 0
theorem wyC_step (h1 : 1 ≤ n) (h2 : n ≤ 8) (ga : GdC n a) (gb : GdC n b) {r : Nat} {W : Nat → Int32} (hr : rkM n a ≤ r) (h : WyC n a b r W) : WyC n a b (r + 1) (wyK n b r none (catN n) W) := by
  intro k hk ek lk
  have gk := GdC_tb h1 h2 hk
  have lkb := (bl_iff gk).mp lk
  rw [wyK_yes _ k hk ek lk, ws_sum]
  have E : sumI (fun j => if rkM n (tb n j) = r ∧ 0 < W j ∧ blM n (tb n j) (tb n k) = true ∧ mkB none (mkM n (tb n j) (tb n k)) = true then W j else 0) (catN n) = sumI (fun j => nI (if ((blM n a (tb n j) && blM n (tb n j) (tb n k)) && decide (rkM n (tb n j) = r)) = true then copQ n (La n a (tb n j)) else 0)) (catN n) := by
    refine sumI_congr _ (fun j hj => ?_)
    have gj := GdC_tb h1 h2 hj
    by_cases e1 : rkM n (tb n j) = r
    · by_cases e2 : blM n (tb n j) (tb n k) = true
      · have ljb : blM n (tb n j) b = true := (bl_iff gj).mpr (Le.trans ((bl_iff gj).mp e2) lkb)
        rw [h j hj e1 ljb, e2, decide_eq_true e1]
        by_cases e3 : blM n a (tb n j) = true
        · have bd := cop_bd h1 h2 (La_good h1 h2 ga gj)
          rw [if_pos e3, if_pos ⟨e1, nI_lt0 bd.1 bd.2, rfl, rfl⟩, e3]
          rfl
        · rw [if_neg e3, if_neg (fun t => absurd t.2.1 (by decide)), show blM n a (tb n j) = false by simpa using e3]
          rfl
      · rw [if_neg (fun t => e2 t.2.2.1), show blM n (tb n j) (tb n k) = false by simpa using e2, Bool.and_false, Bool.false_and]
        rfl
    · rw [if_neg (fun t => e1 t.1), decide_eq_false e1, Bool.and_false]
      rfl
  rw [E, sumI_nat]
  by_cases e : blM n a (tb n k) = true
  · have lak := (bl_iff ga).mp e
    have gl := La_good h1 h2 ga gk
    have pk := pair_rk h1 h2 ga gk lak
    rw [if_pos e]
    congr 1
    have q := int_re h1 h2 ga gk lak (fun c => lcB n c (La n a (tb n k))) (copQ n)
    rw [(below_sums h1 h2 gl).2.2.2, if_neg (by omega)] at q
    rw [← q]
    refine cnt_congr _ (fun j hj => ?_)
    have gj := GdC_tb h1 h2 hj
    show (if ((blM n a (tb n j) && blM n (tb n j) (tb n k)) && decide (rkM n (tb n j) = r)) = true then _ else 0) = (if ((blM n a (tb n j) && blM n (tb n j) (tb n k)) && lcB n (La n a (tb n j)) (La n a (tb n k))) = true then _ else 0)
    rcases d1 : blM n a (tb n j)
    · rfl
    · have pj := pair_rk h1 h2 ga gj ((bl_iff ga).mp d1)
      rw [show decide (rkM n (tb n j) = r) = lcB n (La n a (tb n j)) (La n a (tb n k)) from decide_eq_decide.mpr (by omega)]
  · rw [if_neg e, cnt_zero]
    · rfl
    · intro j hj
      have gj := GdC_tb h1 h2 hj
      rw [if_neg]
      intro t
      rw [Bool.and_eq_true, Bool.and_eq_true, bl_iff ga, bl_iff gj] at t
      exact e ((bl_iff ga).mpr (Le.trans t.1.1 t.1.2))
theorem wyC_all (h1 : 1 ≤ n) (h2 : n ≤ 8) (ga : GdC n a) (gb : GdC n b) : ∀ j r W, rkM n a ≤ r → WyC n a b r W → WyC n a b (r + j) (wyR n b (rkM n b) none j r W) := by
  intro j
  induction j with
  | zero => intro r W _ h; exact h
  | succ j ih =>
    intro r W hr h
    rw [wyR, show r + (j + 1) = (r + 1) + j by omega]
    exact ih (r + 1) _ (by omega) (wyC_step h1 h2 ga gb hr h)
theorem ch_eq (h1 : 1 ≤ n) (h2 : n ≤ 8) (ga : GdC n a) (gb : GdC n b) (h : Le n a b) : chnF n a b = chM n a b none := by
  obtain ⟨t1, t2⟩ := tb_num h1 h2 gb
  have rr := rk_le ga gb h
  have W0 : WyC n a b (rkM n a) (wy0 n a) := by
    intro j hj ej lj
    have gj := GdC_tb h1 h2 hj
    unfold wy0
    by_cases e : tb n j = a
    · rw [if_pos e, e, if_pos ((bl_iff ga).mpr (Le.refl _ _)), La_aa h1 h2 ga, (mu_id n h2).2]
    · rw [if_neg e, if_neg]
      · rfl
      · intro q
        exact e (rk_eq h2 ga gj ((bl_iff ga).mp q) ej.symm).symm
  have W1 := wyC_all h1 h2 ga gb (rkM n b - rkM n a) (rkM n a) _ (Nat.le_refl _) W0
  have := W1 _ t1 (by rw [t2]; omega) (by rw [t2]; exact (bl_iff gb).mpr (Le.refl _ _))
  unfold chnF chM
  rw [this, t2, if_pos ((bl_iff ga).mpr h), ins_eq h1 h2 ga gb h]
  rfl
theorem E_chains (g : GdX X) (a b : Int32) : intR chnF X a b = intM (fun n a b => chM n a b none) X a b := E_int g _ _ (fun a b ga gb h => ch_eq g.1.1 g.1.2.1 ga gb h) a b
end ME
