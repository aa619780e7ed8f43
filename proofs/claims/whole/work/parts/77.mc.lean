/-! MATHEMATICS 12: the sums over what lies below; intervals -/
def fin9 (n d rd : Nat) (acc : Nat) (l : List Nat) : Bool := cond (fnQ n d rd acc l) (fn2 n d rd acc) false
theorem pg_use {n k m : Nat} (h : pgA n k m = true) : ∀ j, k ≤ j → j < k + m → pgQ n (tb n j) (mkQ n (tb n j)) (coM n (tb n j)) (rkQ n (coM n (tb n j))) (rkQ n (tb n j)) (fin9 n (coM n (tb n j)) (rkQ n (coM n (tb n j)))) (j + 1) 0 0 (clY n (tb n j) (n - 1) 1) = true := by
  intro j h1 h2
  have t := allK_iff h (j - k) (by omega)
  rw [frc_eq, show Nat.add k (j - k) = j by show k + (j - k) = j; omega, frc_eq, frc_eq, frc_eq, frc_eq, frc_eq] at t
  exact t
theorem pg_all {n j : Nat} (h1 : 1 ≤ n) (h2 : n ≤ 8) (hj : j < catN n) : pgQ n (tb n j) (mkQ n (tb n j)) (coM n (tb n j)) (rkQ n (coM n (tb n j))) (rkQ n (tb n j)) (fin9 n (coM n (tb n j)) (rkQ n (coM n (tb n j)))) (j + 1) 0 0 (clY n (tb n j) (n - 1) 1) = true := by
  have : n = 1 ∨ n = 2 ∨ n = 3 ∨ n = 4 ∨ n = 5 ∨ n = 6 ∨ n = 7 ∨ n = 8 := by omega
  rcases this with rfl | rfl | rfl | rfl | rfl | rfl | rfl | rfl
  · exact pg_use pg_1_0 j (Nat.zero_le _) (by rw [Nat.zero_add]; exact hj)
  · exact pg_use pg_2_0 j (Nat.zero_le _) (by rw [Nat.zero_add]; exact hj)
  · exact pg_use pg_3_0 j (Nat.zero_le _) (by rw [Nat.zero_add]; exact hj)
  · exact pg_use pg_4_0 j (Nat.zero_le _) (by rw [Nat.zero_add]; exact hj)
  · exact pg_use pg_5_0 j (Nat.zero_le _) (by rw [Nat.zero_add]; exact hj)
  · exact pg_use pg_6_0 j (Nat.zero_le _) (by rw [Nat.zero_add]; exact hj)
  · have hj : j < 429 := hj
    rcases Nat.lt_or_ge j 300 with z0 | z0
    · exact pg_use pg_7_0 j (by omega) (by omega)
    · skip
      exact pg_use pg_7_300 j (by omega) (by omega)
  · have hj : j < 1430 := hj
    rcases Nat.lt_or_ge j 171 with z0 | z0
    · exact pg_use pg_8_0 j (by omega) (by omega)
    · skip
      rcases Nat.lt_or_ge j 306 with z1 | z1
      · exact pg_use pg_8_171 j (by omega) (by omega)
      · skip
        rcases Nat.lt_or_ge j 404 with z2 | z2
        · exact pg_use pg_8_306 j (by omega) (by omega)
        · skip
          rcases Nat.lt_or_ge j 477 with z3 | z3
          · exact pg_use pg_8_404 j (by omega) (by omega)
          · skip
            rcases Nat.lt_or_ge j 561 with z4 | z4
            · exact pg_use pg_8_477 j (by omega) (by omega)
            · skip
              rcases Nat.lt_or_ge j 691 with z5 | z5
              · exact pg_use pg_8_561 j (by omega) (by omega)
              · skip
                rcases Nat.lt_or_ge j 788 with z6 | z6
                · exact pg_use pg_8_691 j (by omega) (by omega)
                · skip
                  rcases Nat.lt_or_ge j 854 with z7 | z7
                  · exact pg_use pg_8_788 j (by omega) (by omega)
                  · skip
                    rcases Nat.lt_or_ge j 913 with z8 | z8
                    · exact pg_use pg_8_854 j (by omega) (by omega)
                    · skip
                      rcases Nat.lt_or_ge j 990 with z9 | z9
                      · exact pg_use pg_8_913 j (by omega) (by omega)
                      · skip
                        rcases Nat.lt_or_ge j 1083 with z10 | z10
                        · exact pg_use pg_8_990 j (by omega) (by omega)
                        · skip
                          rcases Nat.lt_or_ge j 1148 with z11 | z11
                          · exact pg_use pg_8_1083 j (by omega) (by omega)
                          · skip
                            rcases Nat.lt_or_ge j 1192 with z12 | z12
                            · exact pg_use pg_8_1148 j (by omega) (by omega)
                            · skip
                              rcases Nat.lt_or_ge j 1247 with z13 | z13
                              · exact pg_use pg_8_1192 j (by omega) (by omega)
                              · skip
                                rcases Nat.lt_or_ge j 1312 with z14 | z14
                                · exact pg_use pg_8_1247 j (by omega) (by omega)
                                · skip
                                  rcases Nat.lt_or_ge j 1343 with z15 | z15
                                  · exact pg_use pg_8_1312 j (by omega) (by omega)
                                  · skip
                                    rcases Nat.lt_or_ge j 1388 with z16 | z16
                                    · exact pg_use pg_8_1343 j (by omega) (by omega)
                                    · skip
                                      rcases Nat.lt_or_ge j 1410 with z17 | z17
                                      · exact pg_use pg_8_1388 j (by omega) (by omega)
                                      · skip
                                        rcases Nat.lt_or_ge j 1427 with z18 | z18
                                        · exact pg_use pg_8_1410 j (by omega) (by omega)
                                        · skip
                                          exact pg_use pg_8_1427 j (by omega) (by omega)
theorem cvL_none {p : Nat → Bool} : ∀ k i, (∀ x, i ≤ x → x < i + k → p x = false) → cvL p k i = []
  | 0, _, _ => rfl
  | k + 1, i, h => by
    rw [cvL, if_neg (by rw [h i (Nat.le_refl _) (by omega)]; decide)]
    exact cvL_none k (i + 1) (fun x h1 h2 => h x (by omega) (by omega))
theorem cvL_ext {p : Nat → Bool} : ∀ m k i, (∀ x, i + m ≤ x → x < i + m + k → p x = false) → cvL p (m + k) i = cvL p m i := by
  intro m
  induction m with
  | zero => intro k i h; rw [Nat.zero_add]; exact cvL_none k i (fun x h1 h2 => h x (by omega) (by omega))
  | succ m ih =>
    intro k i h
    rw [show m + 1 + k = (m + k) + 1 by omega, cvL, cvL, ih k (i + 1) (fun x h1 h2 => h x (by omega) (by omega))]
theorem cvL_congr {p q : Nat → Bool} : ∀ m i, (∀ x, i ≤ x → x < i + m → p x = q x) → cvL p m i = cvL q m i := by
  intro m
  induction m with
  | zero => intro i _; rfl
  | succ m ih => intro i h; rw [cvL, cvL, h i (Nat.le_refl _) (by omega), ih (i + 1) (fun x h1 h2 => h x (by omega) (by omega))]
section MC
variable {n a b c d : Nat}
def lcB (n c d : Nat) : Bool := decide (rkM n c + 1 = rkM n d)
def La (n a b : Nat) : Nat := meM n b (coM n a)
def posQ (n c : Nat) : Nat := if moS (cr n c) n n = true then 0 else moN (cr n c) n n
def negQ (n c : Nat) : Nat := if moS (cr n c) n n = true then moN (cr n c) n n else 0
def wFn (n a k : Nat) : Nat := if blM n a (tb n k) = true then wtQ n (La n a (tb n k)) (rkM n (coM n a)) else 0
theorem wt_eq {r : Nat} : wtQ n c r = 1 + 4096 * (if decide (rkM n c + 1 = r) = true then 1 else 0) + 16777216 * posQ n c + 281474976710656 * negQ n c + 4722366482869645213696 * (if decide (rkM n c + 1 = r) = true then copQ n c else 0) := by
  show (cond (Nat.beq (rkQ n c + 1) r) (4097 + 4722366482869645213696 * copQ n c) 1) + (cond (moS (cr n c) n n) 281474976710656 16777216) * moN (cr n c) n n = _
  rw [rkQ_eq, nb_eq]
  unfold posQ negQ
  rcases moS (cr n c) n n <;> by_cases e : rkM n c + 1 = r <;> simp [e] <;> omega
theorem cnt_bound {f : Nat → Nat} {B : Nat} : ∀ n, (∀ i, i < n → f i ≤ B) → cnt f n ≤ n * B
  | 0, _ => Nat.zero_le _
  | n + 1, h => by
    rw [cnt, Nat.add_mul, Nat.one_mul]
    exact Nat.add_le_add (cnt_bound n (fun i hi => h i (by omega))) (h n (by omega))
/-- what the table gives of each partition a -/
theorem ab_all (h1 : 1 ≤ n) (h2 : n ≤ 8) (ga : GdC n a) : (∀ b, GdC n b → Le n a b → i2R n a b (La n a b) = true ∧ moN (cr n (La n a b)) n n ≤ 4095) ∧ (clY n a (n - 1) 1 = cvL (fun k => blM n a (tb n k) && decide (rkM n (tb n k) = rkM n a + 1)) (catN n) 0) ∧ ∃ l', niQ l' = true ∧ fnQ n (coM n a) (rkM n (coM n a)) (cnt (wFn n a) (catN n)) l' = true ∧ fn2 n (coM n a) (rkM n (coM n a)) (cnt (wFn n a) (catN n)) = true := by
  obtain ⟨j, hj, rfl⟩ := tb_all h1 h2 ga
  obtain ⟨l', q1, q2, q3⟩ := pgQ_ok _ _ _ _ (pg_all h1 h2 hj)
  have F : ∀ k, Nat.beq (Nat.land (mkQ n (tb n j)) (mkT n k)) (mkQ n (tb n j)) = blM n (tb n j) (tb n k) := fun k => by
    rw [Bool.eq_iff_iff, mkT_iff h2, bl_iff ga]
  have Z : ∀ k, j + 1 ≤ k → k < catN n → blM n (tb n j) (tb n k) = false := by
    intro k k1 k2
    rcases e : blM n (tb n j) (tb n k)
    · rfl
    · have := idx_le h1 h2 k2 hj ((bl_iff ga).mp e)
      omega
  have q1 : fin9 n (coM n (tb n j)) (rkQ n (coM n (tb n j))) (0 + _) l' = true := q1
  rw [rkQ_eq, Nat.zero_add, sumU_cnt] at q1
  have S : cnt (fun k => if Nat.beq (Nat.land (mkQ n (tb n j)) (mkT n (0 + k))) (mkQ n (tb n j)) = true then wtQ n (meM n (tb n (0 + k)) (coM n (tb n j))) (rkM n (coM n (tb n j))) else 0) (j + 1) = cnt (wFn n (tb n j)) (catN n) := by
    obtain ⟨r, hr⟩ : ∃ r, catN n = (j + 1) + r := ⟨catN n - (j + 1), by omega⟩
    rw [hr, cnt_split (wFn n (tb n j)) (j + 1) r, cnt_zero (f := fun i => wFn n (tb n j) (j + 1 + i)) r (fun i hi => by
      show (if blM n (tb n j) (tb n (j + 1 + i)) = true then _ else 0) = 0
      exact if_neg (by rw [Z _ (by omega) (by omega)]; decide)), Nat.add_zero]
    refine cnt_congr _ (fun k _ => ?_)
    show (if Nat.beq (Nat.land (mkQ n (tb n j)) (mkT n (0 + k))) (mkQ n (tb n j)) = true then _ else 0) = _
    rw [F, Nat.zero_add]
    rfl
  rw [S] at q1
  obtain ⟨q4, q5⟩ := cond_and q1
  have hl : niQ l' = true := (cond_and q4).1
  refine ⟨fun b gb h => ?_, ?_, l', hl, q4, q5⟩
  · obtain ⟨k, hk, rfl⟩ := tb_all h1 h2 gb
    have := idx_le h1 h2 hk hj h
    exact q2 k (Nat.zero_le _) (by omega) (by rw [F]; exact (bl_iff ga).mpr h)
  · have : l' = [] := by
      cases l' with
      | nil => rfl
      | cons v t => exact absurd (show false = true from hl) (by decide)
    rw [q3, this, List.append_nil]
    obtain ⟨r, hr⟩ : ∃ r, catN n = (j + 1) + r := ⟨catN n - (j + 1), by omega⟩
    rw [hr, cvL_ext (j + 1) r 0 (fun x x1 x2 => by rw [Z x (by omega) (by omega), Bool.false_and])]
    refine cvL_congr _ _ (fun x _ _ => ?_)
    rw [F, rkQ_eq, rkQ_eq, nb_eq]
theorem pair_rk (h1 : 1 ≤ n) (h2 : n ≤ 8) (ga : GdC n a) (gb : GdC n b) (h : Le n a b) : rkM n (La n a b) + rkM n a = rkM n b := by
  have := Nat.eq_of_beq_eq_true (cond_and ((ab_all h1 h2 ga).1 b gb h).1).1
  rw [rkQ_eq, rkQ_eq, rkQ_eq] at this
  exact this
theorem La_good (h1 : 1 ≤ n) (h2 : n ≤ 8) (ga : GdC n a) (gb : GdC n b) : GdC n (La n a b) := meM_good h2 gb (co_good h1 h2 ga)
theorem ins_eq (h1 : 1 ≤ n) (h2 : n ≤ 8) (ga : GdC n a) (gb : GdC n b) (h : Le n a b) : inC n a b = La n a b := by
  refine cyc_code h2 (La_good h1 h2 ga gb) (fun x hx => ?_)
  have t := allK_iff (cond_and ((ab_all h1 h2 ga).1 b gb h).1).2 x hx
  rw [frc_eq] at t
  have t := Nat.eq_of_beq_eq_true t
  have hb : ∀ x, x < n → cr n b x < n := fun x hx => by rw [cr_rw8 hx]; exact gb.lt hx
  rw [nextQ_eq hx, nextQ_eq hx, prevQ_eq (nextF_lt hx (hb x hx))] at t
  exact t.symm
theorem La_mono (h2 : n ≤ 8) (h : Le n b c) : Le n (La n a b) (La n a c) := le_me h2 (Le.trans (me_le1 h2) h) (me_le2 h2)
theorem La_embed (h1 : 1 ≤ n) (h2 : n ≤ 8) (ga : GdC n a) (gb : GdC n b) (gc : GdC n c) (hb : Le n a b) (hc : Le n a c) (h : Le n (La n a b) (La n a c)) : Le n b c := by
  have gm := meM_good h2 gb gc
  have hm : Le n a (meM n b c) := le_me h2 hb hc
  have l1 : Le n (La n a b) (La n a (meM n b c)) := le_me h2 (le_me h2 (me_le1 h2) (Le.trans h (me_le1 h2))) (me_le2 h2)
  have l2 : Le n (La n a (meM n b c)) (La n a b) := La_mono h2 (me_le1 h2)
  have e := le_anti h2 (La_good h1 h2 ga gb) (La_good h1 h2 ga gm) l1 l2
  have r1 := pair_rk h1 h2 ga gb hb
  have r2 := pair_rk h1 h2 ga gm hm
  have : meM n b c = b := rk_eq h2 gm gb (me_le1 h2) (by rw [← r1, ← r2, e])
  have q : Le n (meM n b c) c := me_le2 h2
  rw [this] at q
  exact q
theorem La_le (h2 : n ≤ 8) : Le n (La n a b) (coM n a) := me_le2 h2
theorem La_surj (h1 : 1 ≤ n) (h2 : n ≤ 8) (ga : GdC n a) (gc : GdC n c) (h : Le n c (coM n a)) : ∃ b, GdC n b ∧ Le n a b ∧ La n a b = c := by
  have ca := co_good h1 h2 ga
  have cc := co_good h1 h2 gc
  have gj := jK_good h1 h2 ga gc
  have l1 := le_j1 h1 h2 ga gc
  have l2 : Le n c (La n a (jK n a c)) := le_me h2 (le_j2 h1 h2 ga gc) h
  refine ⟨jK n a c, gj, l1, ?_⟩
  have r1 := pair_rk h1 h2 ga gj l1
  have r2 := pair_rk h1 h2 gc ca h
  have r3 := rk_co h1 h2 gj
  have r4 := rk_co h1 h2 ga
  have e1 : coM n (jK n a c) = La n c (coM n a) := co_uc h1 h2 (meM_good h2 ca cc)
  rw [e1] at r3
  refine (rk_eq h2 gc (La_good h1 h2 ga gj) l2 ?_).symm
  omega
theorem fld {S1 S2 S3 S4 S5 A s p e x : Nat} (hA : A = S1 + 4096 * S2 + 16777216 * S3 + 281474976710656 * S4 + 4722366482869645213696 * S5) (b1 : S1 ≤ 4095) (b2 : S2 ≤ 4095) (b3 : S3 ≤ 16777215) (b4 : S4 ≤ 16777215) (hs : s ≤ 4095) (hp : p ≤ 4095) (e1 : A % 16777216 = s + 4096 * p) (e2 : A / 16777216 % 16777216 = A / 281474976710656 % 16777216 + e) (e3 : A / 4722366482869645213696 = x) : S1 = s ∧ S2 = p ∧ S3 = S4 + e ∧ S5 = x := by
  have a1 : A % 16777216 = S1 + 4096 * S2 := by omega
  have a2 : A / 16777216 = S3 + 16777216 * S4 + 281474976710656 * S5 := by omega
  have a3 : A / 281474976710656 = S4 + 16777216 * S5 := by omega
  have a4 : A / 4722366482869645213696 = S5 := by omega
  rw [a1] at e1
  rw [a2, a3] at e2
  refine ⟨by omega, by omega, by omega, by omega⟩
/-- the sums over what lies above a, of the parts in its complement -/
theorem ab_sums (h1 : 1 ≤ n) (h2 : n ≤ 8) (ga : GdC n a) : SumT n (fun b => blM n a b) (fun _ => 1) = sopF (cr n (coM n a)) n n ∧ SumT n (fun b => blM n a b && lcB n (La n a b) (coM n a)) (fun _ => 1) = prsF (cr n (coM n a)) n n ∧ SumT n (fun b => blM n a b) (fun b => posQ n (La n a b)) = SumT n (fun b => blM n a b) (fun b => negQ n (La n a b)) + (if rkM n (coM n a) = 0 then 1 else 0) ∧ SumT n (fun b => blM n a b && lcB n (La n a b) (coM n a)) (fun b => copQ n (La n a b)) = (if rkM n (coM n a) = 0 then 0 else copQ n (coM n a)) := by
  obtain ⟨A1, -, l', hl, q1, q2⟩ := ab_all h1 h2 ga
  have c8 := catN_le n h2
  obtain ⟨q3, q1⟩ := cond_and (cond_and q1).2
  obtain ⟨q4, q5⟩ := cond_and q1
  obtain ⟨q6, q7⟩ := cond_and q2
  have q3 := Nat.le_of_ble_eq_true q3
  have q4 := Nat.le_of_ble_eq_true q4
  have q5 : cnt (wFn n a) (catN n) % 16777216 = sopF (cr n (coM n a)) n n + 4096 * prsF (cr n (coM n a)) n n := Nat.eq_of_beq_eq_true q5
  have q6 : cnt (wFn n a) (catN n) / 16777216 % 16777216 = cnt (wFn n a) (catN n) / 281474976710656 % 16777216 + (if rkM n (coM n a) = 0 then 1 else 0) := by
    have := Nat.eq_of_beq_eq_true q6
    rw [nb_eq] at this
    rw [show (if rkM n (coM n a) = 0 then 1 else 0) = cond (decide (rkM n (coM n a) = 0)) 1 0 by by_cases e : rkM n (coM n a) = 0 <;> simp [e]]
    exact this
  have q7 : cnt (wFn n a) (catN n) / 4722366482869645213696 = (if rkM n (coM n a) = 0 then 0 else copQ n (coM n a)) := by
    have := Nat.eq_of_beq_eq_true q7
    rw [nb_eq] at this
    rw [show (if rkM n (coM n a) = 0 then 0 else copQ n (coM n a)) = cond (decide (rkM n (coM n a) = 0)) 0 (copQ n (coM n a)) by by_cases e : rkM n (coM n a) = 0 <;> simp [e]]
    exact this
  have E : cnt (wFn n a) (catN n) = SumT n (fun b => blM n a b) (fun _ => 1) + 4096 * SumT n (fun b => blM n a b && lcB n (La n a b) (coM n a)) (fun _ => 1) + 16777216 * SumT n (fun b => blM n a b) (fun b => posQ n (La n a b)) + 281474976710656 * SumT n (fun b => blM n a b) (fun b => negQ n (La n a b)) + 4722366482869645213696 * SumT n (fun b => blM n a b && lcB n (La n a b) (coM n a)) (fun b => copQ n (La n a b)) := by
    unfold SumT
    rw [← cnt_mul, ← cnt_mul, ← cnt_mul, ← cnt_mul, ← cnt_add, ← cnt_add, ← cnt_add, ← cnt_add]
    refine cnt_congr _ (fun k _ => ?_)
    show (if blM n a (tb n k) = true then wtQ n (La n a (tb n k)) (rkM n (coM n a)) else 0) = (if blM n a (tb n k) = true then 1 else 0) + 4096 * (if (blM n a (tb n k) && lcB n (La n a (tb n k)) (coM n a)) = true then 1 else 0) + 16777216 * (if blM n a (tb n k) = true then posQ n (La n a (tb n k)) else 0) + 281474976710656 * (if blM n a (tb n k) = true then negQ n (La n a (tb n k)) else 0) + 4722366482869645213696 * (if (blM n a (tb n k) && lcB n (La n a (tb n k)) (coM n a)) = true then copQ n (La n a (tb n k)) else 0)
    rcases blM n a (tb n k)
    · rfl
    · rw [wt_eq, Bool.true_and]
      rfl
  have B1 : ∀ (P : Nat → Bool), SumT n P (fun _ => 1) ≤ 4095 := fun P => Nat.le_trans (cnt_bound (B := 1) _ (fun i _ => by show (if P (tb n i) = true then 1 else 0) ≤ 1; split <;> omega)) (by omega)
  have B3 : ∀ (w : Nat → Nat), (∀ b, GdC n b → blM n a b = true → w b ≤ 4095) → SumT n (fun b => blM n a b) w ≤ 16777215 := fun w hw => by
    refine Nat.le_trans (cnt_bound (B := 4095) _ (fun i hi => ?_)) (by omega)
    show (if blM n a (tb n i) = true then w (tb n i) else 0) ≤ 4095
    split
    · rename_i e
      exact hw _ (GdC_tb h1 h2 hi) e
    · exact Nat.zero_le _
  have hm : ∀ b, GdC n b → blM n a b = true → moN (cr n (La n a b)) n n ≤ 4095 := fun b gb e => (A1 b gb ((bl_iff ga).mp e)).2
  exact fld E (B1 _) (B1 _) (B3 _ (fun b gb e => by unfold posQ; split; exact Nat.zero_le _; exact hm b gb e)) (B3 _ (fun b gb e => by unfold negQ; split; exact hm b gb e; exact Nat.zero_le _)) q3 q4 q5 q6 q7
/-- the sums over what lies below d -/
theorem below_re (h1 : 1 ≤ n) (h2 : n ≤ 8) (ga : GdC n a) (R : Nat → Bool) (w : Nat → Nat) : SumT n (fun b => blM n a b && R (La n a b)) (fun b => w (La n a b)) = SumT n (fun c => blM n c (coM n a) && R c) w := by
  refine SumT_re h1 h2 (fun b => La n a b) w (fun b gb p => ?_) (fun b c gb gc p q e => ?_) (fun c gc q => ?_)
  · rw [Bool.and_eq_true] at p
    have g := La_good h1 h2 ga gb
    exact ⟨g, by rw [Bool.and_eq_true]; exact ⟨(bl_iff g).mpr (La_le h2), p.2⟩⟩
  · rw [Bool.and_eq_true, bl_iff ga] at p q
    have e : La n a b = La n a c := e
    exact le_anti h2 gb gc (La_embed h1 h2 ga gb gc p.1 q.1 (by rw [e]; exact Le.refl _ _)) (La_embed h1 h2 ga gc gb q.1 p.1 (by rw [e]; exact Le.refl _ _))
  · rw [Bool.and_eq_true, bl_iff gc] at q
    obtain ⟨b, gb, hb, e⟩ := La_surj h1 h2 ga gc q.1
    exact ⟨b, gb, by rw [Bool.and_eq_true, bl_iff ga, e]; exact ⟨hb, q.2⟩, e⟩
theorem SumT_tt {P : Nat → Bool} {w : Nat → Nat} : SumT n (fun b => P b && true) w = SumT n P w := cnt_congr _ (fun i _ => by show (if (P (tb n i) && true) = true then _ else 0) = _; rw [Bool.and_true])
theorem below_sums (h1 : 1 ≤ n) (h2 : n ≤ 8) (gd : GdC n d) : SumT n (fun c => blM n c d) (fun _ => 1) = sopF (cr n d) n n ∧ SumT n (fun c => blM n c d && lcB n c d) (fun _ => 1) = prsF (cr n d) n n ∧ SumT n (fun c => blM n c d) (posQ n) = SumT n (fun c => blM n c d) (negQ n) + (if rkM n d = 0 then 1 else 0) ∧ SumT n (fun c => blM n c d && lcB n c d) (copQ n) = (if rkM n d = 0 then 0 else copQ n d) := by
  have ga := uc_good h1 h2 gd
  obtain ⟨s1, s2, s3, s4⟩ := ab_sums h1 h2 ga
  have r1 := below_re h1 h2 ga (fun _ => true) (fun _ => 1)
  have r2 := below_re h1 h2 ga (fun c => lcB n c (coM n (ucM n d))) (fun _ => 1)
  have r3 := below_re h1 h2 ga (fun _ => true) (posQ n)
  have r4 := below_re h1 h2 ga (fun _ => true) (negQ n)
  have r5 := below_re h1 h2 ga (fun c => lcB n c (coM n (ucM n d))) (copQ n)
  rw [SumT_tt, SumT_tt] at r1 r3 r4
  rw [s1] at r1
  rw [s2] at r2
  rw [s3, r4] at r3
  rw [s4] at r5
  rw [co_uc h1 h2 gd] at r1 r2 r3 r5
  exact ⟨r1.symm, r2.symm, r3.symm, r5.symm⟩
/-- intervals -/
theorem int_re (h1 : 1 ≤ n) (h2 : n ≤ 8) (ga : GdC n a) (gb : GdC n b) (h : Le n a b) (R : Nat → Bool) (w : Nat → Nat) : SumT n (fun k => (blM n a k && blM n k b) && R (La n a k)) (fun k => w (La n a k)) = SumT n (fun c => blM n c (La n a b) && R c) w := by
  refine SumT_re h1 h2 (fun k => La n a k) w (fun k gk p => ?_) (fun k c gk gc p q e => ?_) (fun c gc q => ?_)
  · rw [Bool.and_eq_true, Bool.and_eq_true, bl_iff ga, bl_iff gk] at p
    have g := La_good h1 h2 ga gk
    exact ⟨g, by rw [Bool.and_eq_true]; exact ⟨(bl_iff g).mpr (La_mono h2 p.1.2), p.2⟩⟩
  · rw [Bool.and_eq_true, Bool.and_eq_true, bl_iff ga] at p q
    have e : La n a k = La n a c := e
    exact le_anti h2 gk gc (La_embed h1 h2 ga gk gc p.1.1 q.1.1 (by rw [e]; exact Le.refl _ _)) (La_embed h1 h2 ga gc gk q.1.1 p.1.1 (by rw [e]; exact Le.refl _ _))
  · rw [Bool.and_eq_true, bl_iff gc] at q
    obtain ⟨k, gk, hk, e⟩ := La_surj h1 h2 ga gc (Le.trans q.1 (La_le h2))
    exact ⟨k, gk, by rw [Bool.and_eq_true, Bool.and_eq_true, bl_iff ga, bl_iff gk, e]; exact ⟨⟨hk, La_embed h1 h2 ga gk gb hk h (by rw [e]; exact q.1)⟩, q.2⟩, e⟩
theorem bt_eq (h1 : 1 ≤ n) (h2 : n ≤ 8) (ga : GdC n a) (gb : GdC n b) (h : Le n a b) : btwF n a b = btM n a b := by
  have r := int_re h1 h2 ga gb h (fun _ => true) (fun _ => 1)
  rw [SumT_tt, SumT_tt, (below_sums h1 h2 (La_good h1 h2 ga gb)).1] at r
  unfold btwF btM
  rw [ins_eq h1 h2 ga gb h, ← r]
  refine congrArg nI (cnt_congr _ (fun i _ => ?_))
  show (if (blM n a (tb n i) && blM n (tb n i) b) = true then 1 else 0) = b01 (blM n a (tb n i) && blM n (tb n i) b)
  rcases (blM n a (tb n i) && blM n (tb n i) b) <;> rfl
end MC
