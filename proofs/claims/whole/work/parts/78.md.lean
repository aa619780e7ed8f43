/-! MATHEMATICS 13: queries: of, between, signed, chains -/
def sumI (f : Nat → Int32) : Nat → Int32
  | 0 => 0
  | n + 1 => sumI f n + f n
theorem sumI_congr {f g : Nat → Int32} : ∀ n, (∀ i, i < n → f i = g i) → sumI f n = sumI g n
  | 0, _ => rfl
  | n + 1, h => by rw [sumI, sumI, sumI_congr n (fun i hi => h i (by omega)), h n (by omega)]
theorem sumI_nat (f : Nat → Nat) : ∀ n, sumI (fun i => nI (f i)) n = nI (cnt f n)
  | 0 => rfl
  | n + 1 => by rw [sumI, sumI_nat f n, cnt, nI_add]
theorem i_mix (s a b N : Int32) : (s + (a - b)) + (N + b) = (s + N) + a := by
  have e : (s + (a - b)) + (N + b) = (s + N) + ((a - b) + b) := by ac_rfl
  rw [e, Int32.sub_add_cancel]
theorem sumI_pn (f g : Nat → Nat) : ∀ n, sumI (fun i => nI (f i) - nI (g i)) n + nI (cnt g n) = nI (cnt f n)
  | 0 => rfl
  | n + 1 => by
    rw [sumI, cnt, cnt, ← nI_add, ← nI_add, i_mix, sumI_pn f g n]
theorem sumI_at {f : Nat → Int32} {j : Nat} : ∀ n, j < n → sumI f n = sumI (fun i => if i = j then 0 else f i) n + f j
  | 0, h => by omega
  | n + 1, h => by
    rw [sumI, sumI]
    by_cases e : j = n
    · subst e
      rw [if_pos rfl, Int32.add_zero, sumI_congr j (fun i hi => (if_neg (show ¬ i = j by omega)).symm)]
    · rw [sumI_at (f := f) (j := j) n (by omega), if_neg (fun q => e q.symm)]
      have : ∀ s x y : Int32, s + x + y = s + y + x := fun s x y => by ac_rfl
      exact this _ _ _
theorem i_zero {A N : Int32} (h : A + N = N) : A = 0 := by
  have e : A + N - N = N - N := by rw [h]
  rwa [Int32.add_sub_cancel, Int32.sub_self] at e
theorem i_cancel {a b s : Int32} (h1 : a + s = 0) (h2 : b + s = 0) : a = b := by
  have e : a + s - s = b + s - s := by rw [h1, h2]
  rwa [Int32.add_sub_cancel, Int32.add_sub_cancel] at e
section MD
variable {n a b c d : Nat} {X : aX}
theorem E_int (g : GdX X) (f f' : Nat → Nat → Nat → Int32) (h : ∀ a b, GdC X.1.1 a → GdC X.1.1 b → Le X.1.1 a b → f X.1.1 a b = f' X.1.1 a b) (a b : Int32) : intR f X a b = intM f' X a b := by
  unfold intR intM
  by_cases c : (inB 6 a && inB 6 b) = true
  · rw [if_pos c, if_pos c]
    rw [Bool.and_eq_true] at c
    have ga := g.1.2.2.1 _ (inB_cl (by omega) c.1)
    have gb := g.1.2.2.1 _ (inB_cl (by omega) c.2)
    rw [und_eq ga]
    by_cases e : blM X.1.1 (X.1.2.1 (cl a)) (X.1.2.1 (cl b)) = true
    · rw [if_pos e, if_pos e, h _ _ ga gb ((bl_iff ga).mp e)]
    · rw [if_neg e, if_neg e]
  · rw [if_neg c, if_neg c]
theorem E_between (g : GdX X) (a b : Int32) : intR btwF X a b = intM btM X a b := E_int g _ _ (fun a b ga gb h => bt_eq g.1.1 g.1.2.1 ga gb h) a b
/-! covers, counted -/
theorem cv_dn (h1 : 1 ≤ n) (h2 : n ≤ 8) (g : GdC n c) : cvM n c false = prsF (cr n c) n n := by
  rw [← (below_sums h1 h2 g).2.1]
  refine cnt_congr _ (fun k _ => ?_)
  show b01 (decide (rkM n (tb n k) + 1 = rkM n c) && blM n (tb n k) c) = if (blM n (tb n k) c && decide (rkM n (tb n k) + 1 = rkM n c)) = true then 1 else 0
  rw [Bool.and_comm]
  rfl
theorem cv_up (h1 : 1 ≤ n) (h2 : n ≤ 8) (g : GdC n c) : cvM n c true = prsF (cr n (coM n c)) n n := by
  have gk := co_good h1 h2 g
  rw [← (below_sums h1 h2 gk).2.1]
  have r := SumT_re h1 h2 (P := fun b => blM n c b && decide (rkM n b = rkM n c + 1)) (Q := fun e => blM n e (coM n c) && lcB n e (coM n c)) (coM n) (fun _ => 1) (fun b gb p => ?_) (fun b b' gb gb' _ _ e => ?_) (fun e ge q => ?_)
  · rw [← r]
    refine cnt_congr _ (fun k _ => ?_)
    show b01 (decide (rkM n (tb n k) = rkM n c + 1) && blM n c (tb n k)) = if (blM n c (tb n k) && decide (rkM n (tb n k) = rkM n c + 1)) = true then 1 else 0
    rw [Bool.and_comm]
    rfl
  · rw [Bool.and_eq_true, bl_iff g, decide_eq_true_iff] at p
    have gc := co_good h1 h2 gb
    have r1 := rk_co h1 h2 gb
    have r2 := rk_co h1 h2 g
    refine ⟨gc, ?_⟩
    rw [Bool.and_eq_true, bl_iff gc, lcB, decide_eq_true_iff]
    exact ⟨co_anti h1 h2 g gb p.1, by omega⟩
  · rw [← uc_co h1 h2 gb, ← uc_co h1 h2 gb', e]
  · rw [Bool.and_eq_true, bl_iff ge, lcB, decide_eq_true_iff] at q
    have gu := uc_good h1 h2 ge
    have eu := co_uc h1 h2 ge
    have r1 := rk_co h1 h2 gu
    have r2 := rk_co h1 h2 g
    have l := uc_anti h1 h2 ge gk q.1
    rw [uc_co h1 h2 g] at l
    rw [eu] at r1
    refine ⟨ucM n e, gu, ?_, eu⟩
    rw [Bool.and_eq_true, bl_iff g, decide_eq_true_iff]
    exact ⟨l, by omega⟩
theorem prop_eq (h1 : 1 ≤ n) (h2 : n ≤ 8) (g : GdC n c) {w : Nat} (hw : w < 6) : propF n c w = propM n c w := by
  have : w = 0 ∨ w = 1 ∨ w = 2 ∨ w = 3 ∨ w = 4 ∨ w = 5 := by omega
  rcases this with rfl | rfl | rfl | rfl | rfl | rfl
  · exact plc_eq h1 h2 g
  · exact rank_eq
  · exact (sgl_eq h1 h2 g).1
  · exact (sgl_eq h1 h2 g).2
  · show prsF (cr n (coC n c)) n n = cvM n c true
    rw [coC_eq h1 h2 g, cv_up h1 h2 g]
  · exact (cv_dn h1 h2 g).symm
theorem E_of (g : GdX X) (s w : Int32) : ofR X s w = ofM X s w := by
  unfold ofR ofM
  by_cases c : (inB 6 s && inB 6 w) = true
  · rw [if_pos c, if_pos c]
    rw [Bool.and_eq_true] at c
    rw [prop_eq g.1.1 g.1.2.1 (g.1.2.2.1 _ (inB_cl (by omega) c.1)) (inB_cl (by omega) c.2)]
  · rw [if_neg c, if_neg c]
/-! Moebius values -/
def muQ (n c : Nat) : Int32 := mopF (cr n c) n n
theorem mop_eq (r : Nat → Nat) (n : Nat) : ∀ x, mopF r n x = if moS r n x = true then - nI (moN r n x) else nI (moN r n x) := by
  intro x
  induction x with
  | zero => rfl
  | succ x ih =>
    rw [mopF, moS, moN]
    by_cases e : (r x == x) = true
    · rw [if_pos e, if_pos e, if_pos e, ih]
      by_cases o : szF r n x % 2 = 1
      · rw [if_pos o, if_pos o]
        by_cases s : moS r n x = true
        · rw [if_pos s, if_pos s, Int32.neg_mul, pk_mul]
        · rw [if_neg s, if_neg s, pk_mul]
      · rw [if_neg o, if_neg o]
        by_cases s : moS r n x = true
        · rw [if_pos s, if_neg (by rw [s]; decide), Int32.neg_mul, Int32.mul_neg, Int32.neg_neg, pk_mul]
        · rw [if_neg s, if_pos (by rw [show moS r n x = false by simpa using s]; rfl), Int32.mul_neg, pk_mul]
    · rw [if_neg e, if_neg e, if_neg e, ih]
theorem mu_pn : muQ n c = nI (posQ n c) - nI (negQ n c) := by
  unfold muQ posQ negQ
  rw [mop_eq]
  by_cases s : moS (cr n c) n n = true
  · rw [if_pos s, if_pos s, if_pos s, show nI 0 = 0 from rfl, Int32.zero_sub]
  · rw [if_neg s, if_neg s, if_neg s, show nI 0 = 0 from rfl, Int32.sub_zero]
theorem cnt_0 {f : Nat → Nat} : ∀ n, cnt f n = 0 → ∀ i, i < n → f i = 0
  | 0, _, i, hi => by omega
  | n + 1, h, i, hi => by
    rw [cnt] at h
    rcases Nat.lt_or_ge i n with z | z
    · exact cnt_0 n (by omega) i z
    · rw [show i = n by omega]; omega
theorem rk0 (h2 : n ≤ 8) (g : GdC n c) (h : rkM n c = 0) : c = idC n := by
  refine code_ext h2 g (id_good n h2) (fun x hx => ?_)
  have e := cnt_0 n h x hx
  have e2 := congrFun (cr_id h2) x
  rw [cr_rw8 hx, idn, if_pos (by omega)] at e2
  rw [e2]
  rcases Nat.decEq (rw8 c x) x with z | z
  · rw [if_neg z] at e; omega
  · exact z
theorem mu_id : ∀ n, n ≤ 8 → muQ n (idC n) = 1 ∧ copQ n (idC n) = 1 := by decide +kernel
theorem La_aa (h1 : 1 ≤ n) (h2 : n ≤ 8) (ga : GdC n a) : La n a a = idC n := by
  have := pair_rk h1 h2 ga ga (Le.refl _ _)
  exact rk0 h2 (La_good h1 h2 ga ga) (by omega)
/-- Moebius values of an interval make nought -/
theorem mu_sum (h1 : 1 ≤ n) (h2 : n ≤ 8) (ga : GdC n a) (gb : GdC n b) (h : Le n a b) (hr : rkM n a < rkM n b) : sumI (fun j => if (blM n a (tb n j) && blM n (tb n j) b) = true then muQ n (La n a (tb n j)) else 0) (catN n) = 0 := by
  have gl := La_good h1 h2 ga gb
  have r := pair_rk h1 h2 ga gb h
  have rp := int_re h1 h2 ga gb h (fun _ => true) (posQ n)
  have rn := int_re h1 h2 ga gb h (fun _ => true) (negQ n)
  rw [SumT_tt, SumT_tt] at rp rn
  have e := (below_sums h1 h2 gl).2.2.1
  rw [if_neg (by omega), Nat.add_zero, ← rp, ← rn] at e
  have q := sumI_pn (fun j => if (blM n a (tb n j) && blM n (tb n j) b) = true then posQ n (La n a (tb n j)) else 0) (fun j => if (blM n a (tb n j) && blM n (tb n j) b) = true then negQ n (La n a (tb n j)) else 0) (catN n)
  have e : cnt (fun j => if (blM n a (tb n j) && blM n (tb n j) b) = true then posQ n (La n a (tb n j)) else 0) (catN n) = cnt (fun j => if (blM n a (tb n j) && blM n (tb n j) b) = true then negQ n (La n a (tb n j)) else 0) (catN n) := e
  rw [e] at q
  have z : sumI (fun j => if (blM n a (tb n j) && blM n (tb n j) b) = true then muQ n (La n a (tb n j)) else 0) (catN n) = sumI (fun i => nI (if (blM n a (tb n i) && blM n (tb n i) b) = true then posQ n (La n a (tb n i)) else 0) - nI (if (blM n a (tb n i) && blM n (tb n i) b) = true then negQ n (La n a (tb n i)) else 0)) (catN n) := by
    refine sumI_congr _ (fun j _ => ?_)
    show (if (blM n a (tb n j) && blM n (tb n j) b) = true then muQ n (La n a (tb n j)) else 0) = nI (if (blM n a (tb n j) && blM n (tb n j) b) = true then posQ n (La n a (tb n j)) else 0) - nI (if (blM n a (tb n j) && blM n (tb n j) b) = true then negQ n (La n a (tb n j)) else 0)
    by_cases e : (blM n a (tb n j) && blM n (tb n j) b) = true
    · rw [if_pos e, if_pos e, if_pos e, mu_pn]
    · rw [if_neg e, if_neg e, if_neg e]
      exact (Int32.sub_self _).symm
  rw [z]
  exact i_zero q
theorem sgT_sum {S : Nat → Int32} {k : Nat} : ∀ J, sgT n S k J + sumI (fun j => if S j ≠ 0 ∧ j ≠ k ∧ blM n (tb n j) (tb n k) = true then S j else 0) J = 0
  | 0 => rfl
  | J + 1 => by
    rw [sgT, sumI]
    have e : ∀ s t u : Int32, (s - t) + (u + t) = s + u := fun s t u => by
      have : (s - t) + (u + t) = (s - t + t) + u := by ac_rfl
      rw [this, Int32.sub_add_cancel]
    rw [show (nI 0 : Int32) = 0 from rfl, e]
    exact sgT_sum J
def inI (n a b k : Nat) : Bool := blM n a (tb n k) && blM n (tb n k) b
theorem sgK_eq (h1 : 1 ≤ n) (h2 : n ≤ 8) (ga : GdC n a) (gb : GdC n b) {r : Nat} {S : Nat → Int32} (hS : ∀ k, k < catN n → S k = if (inI n a b k && decide (rkM n (tb n k) < r)) = true then muQ n (La n a (tb n k)) else 0) : ∀ m, m ≤ catN n → ∀ k, k < catN n → sgK n a b r m S k = if (inI n a b k && (decide (rkM n (tb n k) < r) || (decide (rkM n (tb n k) = r) && decide (k < m)))) = true then muQ n (La n a (tb n k)) else 0 := by
  intro m
  induction m with
  | zero =>
    intro _ k hk
    rw [sgK, hS k hk, decide_eq_false (show ¬ k < 0 by omega), Bool.and_false, Bool.or_false]
  | succ m ih =>
    intro hm k hk
    have ih := ih (by omega)
    rw [sgK]
    have gm := GdC_tb h1 h2 (show m < catN n by omega)
    by_cases c : rkM n (tb n m) = r ∧ blM n a (tb n m) = true ∧ blM n (tb n m) b = true
    · rw [if_pos c]
      obtain ⟨c1, c2, c3⟩ := c
      unfold upd
      by_cases e : k = m
      · subst e
        have hc : (inI n a b k && (decide (rkM n (tb n k) < r) || (decide (rkM n (tb n k) = r) && decide (k < k + 1)))) = true := by
          unfold inI
          rw [c2, c3, decide_eq_true c1, decide_eq_true (show k < k + 1 by omega)]
          simp
        rw [if_pos hc, if_pos rfl]
        by_cases e2 : tb n k = a
        · rw [if_pos e2, e2, La_aa h1 h2 ga, (mu_id n h2).1]
          rfl
        · rw [if_neg e2]
          have l1 := (bl_iff ga).mp c2
          have l3 := (bl_iff gm).mp c3
          have rr : rkM n a < rkM n (tb n k) := by
            rcases Nat.lt_or_ge (rkM n a) (rkM n (tb n k)) with z | z
            · exact z
            · exact absurd (rk_eq h2 ga gm l1 (Nat.le_antisymm (rk_le ga gm l1) z)).symm e2
          have q := mu_sum h1 h2 ga gm l1 rr
          rw [sumI_at (j := k) _ hk, show (blM n a (tb n k) && blM n (tb n k) (tb n k)) = true by rw [c2, (bl_iff gm).mpr (Le.refl _ _)]; rfl, if_pos rfl, Int32.add_comm] at q
          refine i_cancel (sgT_sum (n := n) (S := sgK n a b r k S) (k := k) (catN n)) ?_
          refine Eq.trans ?_ q
          congr 1
          refine sumI_congr _ (fun j hj => ?_)
          have gj := GdC_tb h1 h2 hj
          by_cases ej : j = k
          · rw [if_pos ej, if_neg (fun t => t.2.1 ej)]
          · rw [if_neg ej]
            by_cases d1 : blM n (tb n j) (tb n k) = true
            · have ljk := (bl_iff gj).mp d1
              have lb : blM n (tb n j) b = true := (bl_iff gj).mpr (Le.trans ljk l3)
              have rj : rkM n (tb n j) < r := by
                rcases Nat.lt_or_ge (rkM n (tb n j)) r with z | z
                · exact z
                · exact absurd (tb_inj h2 hj hk (rk_eq h2 gj gm ljk (Nat.le_antisymm (rk_le gj gm ljk) (by omega)))) ej
              rw [ih j hj, inI, lb, d1, decide_eq_true rj]
              by_cases d2 : blM n a (tb n j) = true
              · rw [d2]
                simp only [Bool.and_self, Bool.true_or, if_true]
                by_cases d3 : muQ n (La n a (tb n j)) = 0
                · rw [d3]; simp
                · simp [d3, ej]
              · rw [show blM n a (tb n j) = false by simpa using d2]
                simp
            · rw [if_neg (fun t => d1 t.2.2), if_neg (by rw [show blM n (tb n j) (tb n k) = false by simpa using d1, Bool.and_false]; decide)]
      · rw [if_neg e, ih k hk]
        congr 1
        rw [show decide (k < m + 1) = decide (k < m) from decide_eq_decide.mpr (by omega)]
    · rw [if_neg c, ih k hk]
      by_cases e : k = m
      · subst e
        rw [decide_eq_false (show ¬ k < k by omega), decide_eq_true (show k < k + 1 by omega)]
        congr 1
        unfold inI
        rcases d1 : blM n a (tb n k) <;> rcases d2 : blM n (tb n k) b <;> rcases d3 : decide (rkM n (tb n k) = r) <;> simp_all
      · congr 1
        rw [show decide (k < m + 1) = decide (k < m) from decide_eq_decide.mpr (by omega)]
theorem sgR_eq (h1 : 1 ≤ n) (h2 : n ≤ 8) (ga : GdC n a) (gb : GdC n b) : ∀ j r S, (∀ k, k < catN n → S k = if (inI n a b k && decide (rkM n (tb n k) < r)) = true then muQ n (La n a (tb n k)) else 0) → ∀ k, k < catN n → sgR n a b j r S k = if (inI n a b k && decide (rkM n (tb n k) < r + j)) = true then muQ n (La n a (tb n k)) else 0 := by
  intro j
  induction j with
  | zero => intro r S h k hk; exact h k hk
  | succ j ih =>
    intro r S h k hk
    rw [sgR, ih (r + 1) _ (fun k hk => ?_) k hk, show r + 1 + j = r + (j + 1) by omega]
    rw [sgK_eq h1 h2 ga gb h (catN n) (Nat.le_refl _) k hk, decide_eq_true hk, Bool.and_true, ← Bool.decide_or]
    congr 1
    rw [show decide (rkM n (tb n k) < r ∨ rkM n (tb n k) = r) = decide (rkM n (tb n k) < r + 1) from decide_eq_decide.mpr (by omega)]
theorem sg_eq (h1 : 1 ≤ n) (h2 : n ≤ 8) (ga : GdC n a) (gb : GdC n b) (h : Le n a b) : sgnF n a b = sgM n a b := by
  obtain ⟨t1, t2⟩ := tb_num h1 h2 gb
  have rr := rk_le ga gb h
  unfold sgnF sgM
  rw [sgR_eq h1 h2 ga gb _ (rkM n a) _ (fun k hk => ?_) _ t1, t2, if_pos, ins_eq h1 h2 ga gb h]
  · rfl
  · rw [inI, t2, (bl_iff ga).mpr h, (bl_iff gb).mpr (Le.refl _ _), decide_eq_true (by omega)]
    rfl
  · have gk := GdC_tb h1 h2 hk
    rw [if_neg]
    · rfl
    · rw [inI, Bool.and_eq_true, Bool.and_eq_true, bl_iff ga, decide_eq_true_iff]
      intro t
      have := rk_le ga gk t.1.1
      omega
theorem E_signed (g : GdX X) (a b : Int32) : intR sgnF X a b = intM sgM X a b := E_int g _ _ (fun a b ga gb h => sg_eq g.1.1 g.1.2.1 ga gb h) a b
end MD
