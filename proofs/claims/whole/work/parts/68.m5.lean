/-! MATHEMATICS 5: complements and joins -/
theorem frc_t {n : Nat} {f : Nat → Bool} (h : frc n f = true) : f n = true := by rw [frc_eq] at h; exact h
theorem cond_and {a b : Bool} (h : cond a b false = true) : a = true ∧ b = true := by
  cases a
  · exact absurd (show false = true from h) (by decide)
  · exact ⟨rfl, h⟩
theorem t1_use {n k m : Nat} (h : t1A n k m = true) : ∀ j, k ≤ j → j < k + m → t1Q n (tb n j) (coM n (tb n j)) = true := by
  intro j h1 h2
  have := frc_t (frc_t (allK_iff h (j - k) (by omega)))
  rw [show Nat.add k (j - k) = j by show k + (j - k) = j; omega] at this
  exact this
theorem t3_use {n k m : Nat} (h : t3A n k m = true) : ∀ j, k ≤ j → j < k + m → t3Q n (tb n j) (tuM n (tb n j)) (coM n (tuM n (tb n j))) (coM n (tb n j)) = true := by
  intro j h1 h2
  have := frc_t (frc_t (frc_t (frc_t (allK_iff h (j - k) (by omega)))))
  rw [show Nat.add k (j - k) = j by show k + (j - k) = j; omega] at this
  exact this
theorem t1_all {n c : Nat} (h1 : 1 ≤ n) (h2 : n ≤ 8) (g : GdC n c) : t1Q n c (coM n c) = true := by
  obtain ⟨k, hk, rfl⟩ := tb_all h1 h2 g
  have : n = 1 ∨ n = 2 ∨ n = 3 ∨ n = 4 ∨ n = 5 ∨ n = 6 ∨ n = 7 ∨ n = 8 := by omega
  rcases this with rfl | rfl | rfl | rfl | rfl | rfl | rfl | rfl
  · exact t1_use t1_1 k (by omega) hk
  · exact t1_use t1_2 k (by omega) hk
  · exact t1_use t1_3 k (by omega) hk
  · exact t1_use t1_4 k (by omega) hk
  · exact t1_use t1_5 k (by omega) hk
  · exact t1_use t1_6 k (by omega) hk
  · exact t1_use t1_7 k (by omega) hk
  · have hk : k < 1430 := hk
    rcases Nat.lt_or_ge k 360 with z | z
    · exact t1_use t1_8a k (by omega) (by omega)
    · rcases Nat.lt_or_ge k 720 with z2 | z2
      · exact t1_use t1_8b k (by omega) (by omega)
      · rcases Nat.lt_or_ge k 1080 with z3 | z3
        · exact t1_use t1_8c k (by omega) (by omega)
        · exact t1_use t1_8d k (by omega) (by omega)
theorem t3_all {n c : Nat} (h1 : 1 ≤ n) (h2 : n ≤ 8) (g : GdC n c) : t3Q n c (tuM n c) (coM n (tuM n c)) (coM n c) = true := by
  obtain ⟨k, hk, rfl⟩ := tb_all h1 h2 g
  have : n = 1 ∨ n = 2 ∨ n = 3 ∨ n = 4 ∨ n = 5 ∨ n = 6 ∨ n = 7 ∨ n = 8 := by omega
  rcases this with rfl | rfl | rfl | rfl | rfl | rfl | rfl | rfl
  · exact t3_use t3_1 k (by omega) hk
  · exact t3_use t3_2 k (by omega) hk
  · exact t3_use t3_3 k (by omega) hk
  · exact t3_use t3_4 k (by omega) hk
  · exact t3_use t3_5 k (by omega) hk
  · exact t3_use t3_6 k (by omega) hk
  · exact t3_use t3_7 k (by omega) hk
  · have hk : k < 1430 := hk
    rcases Nat.lt_or_ge k 360 with z | z
    · exact t3_use t3_8a k (by omega) (by omega)
    · rcases Nat.lt_or_ge k 720 with z2 | z2
      · exact t3_use t3_8b k (by omega) (by omega)
      · rcases Nat.lt_or_ge k 1080 with z3 | z3
        · exact t3_use t3_8c k (by omega) (by omega)
        · exact t3_use t3_8d k (by omega) (by omega)
section M5
variable {n a b c : Nat}
theorem co_good (h1 : 1 ≤ n) (h2 : n ≤ 8) (g : GdC n c) : GdC n (coM n c) := by
  have t := (cond_and (t1_all h1 h2 g)).1
  rw [wlQ_eq] at t
  exact ⟨pkF_lt h2 _, pkF_low h2, t⟩
theorem co_step (h1 : 1 ≤ n) (h2 : n ≤ 8) (g : GdC n c) {x : Nat} (hx : x < n) : prevF (cr n c) n (aft n x) = nextF (cr n (coM n c)) n x := by
  have t := Nat.eq_of_beq_eq_true (allK_iff (cond_and (cond_and (cond_and (t1_all h1 h2 g)).2).2).1 x hx)
  rw [aftQ_eq, prevQ_eq (aft_lt (by omega)), nextQ_eq hx] at t
  exact t
theorem coC_eq (h1 : 1 ≤ n) (h2 : n ≤ 8) (g : GdC n c) : coC n c = coM n c := cyc_code h2 (co_good h1 h2 g) (fun y hy => co_step h1 h2 g hy)
def Cmp (n c x y : Nat) : Prop := ∀ p, x < p → p < n → (p ≤ y → x < rw8 c p) ∧ (y < p → rw8 c p ≤ x ∨ y < rw8 c p)
theorem ble_f {a b : Nat} (h : Nat.ble a b = false) : b < a := by
  rcases Nat.lt_or_ge b a with z | z
  · exact z
  · rw [Nat.ble_eq_true_of_le z] at h; cases h
theorem cm_iff {x y : Nat} : cmQ n c x y = true ↔ Cmp n c x y := by
  constructor
  · intro h p hx hp
    have q := allK_iff h p hp
    rcases e1 : Nat.ble p x
    · rw [e1, cond_false] at q
      rcases e2 : Nat.ble p y
      · rw [e2, cond_false] at q
        refine ⟨fun z => absurd (ble_f e2) (by omega), fun _ => ?_⟩
        rcases e3 : Nat.ble (rwQ c p) x
        · rw [e3, cond_false] at q
          exact Or.inr (Nat.le_of_ble_eq_true q)
        · exact Or.inl (Nat.le_of_ble_eq_true e3)
      · rw [e2, cond_true] at q
        have := Nat.le_of_ble_eq_true e2
        exact ⟨fun _ => Nat.le_of_ble_eq_true q, fun z => absurd z (by omega)⟩
    · have := Nat.le_of_ble_eq_true e1; omega
  · intro h
    have L : ∀ m, m ≤ n → allK (fun p => cond (Nat.ble p x) true (cond (Nat.ble p y) (Nat.ble (Nat.succ x) (rwQ c p)) (cond (Nat.ble (rwQ c p) x) true (Nat.ble (Nat.succ y) (rwQ c p))))) m = true := by
      intro m
      induction m with
      | zero => intro _; rfl
      | succ m ih =>
        intro hm
        show cond (cond (Nat.ble m x) true (cond (Nat.ble m y) (Nat.ble (Nat.succ x) (rwQ c m)) (cond (Nat.ble (rwQ c m) x) true (Nat.ble (Nat.succ y) (rwQ c m))))) (allK _ m) false = true
        rw [ih (by omega)]
        rcases e1 : Nat.ble m x
        · have hx := ble_f e1
          obtain ⟨q1, q2⟩ := h m hx (by omega)
          rcases e2 : Nat.ble m y
          · have q2 := q2 (ble_f e2)
            rw [rwQ_eq]
            rcases q2 with q | q
            · rw [Nat.ble_eq_true_of_le q]; rfl
            · rw [Nat.ble_eq_true_of_le q]
              rcases Nat.ble (rw8 c m) x <;> rfl
          · have q1 := q1 (Nat.le_of_ble_eq_true e2)
            rw [rwQ_eq, Nat.ble_eq_true_of_le q1]
            rfl
        · rfl
    exact L n (Nat.le_refl _)
theorem bqB_iff {p q : Bool} (h : bqB p q = true) : p = true ↔ q = true := by
  cases p <;> cases q <;> first | exact ⟨fun h => h, fun h => h⟩ | exact absurd (show false = true from h) (by decide)
theorem co_rel (h1 : 1 ≤ n) (h2 : n ≤ 8) (g : GdC n c) {x y : Nat} (hxy : x < y) (hy : y < n) : rw8 (coM n c) x = rw8 (coM n c) y ↔ Cmp n c x y := by
  have t := allK_iff (allK_iff (cond_and (cond_and (cond_and (t1_all h1 h2 g)).2).2).2 y hy) x hxy
  rw [← cm_iff, ← bqB_iff t, rwQ_eq, rwQ_eq]
  exact ⟨fun e => by rw [e]; exact Nat.beq_refl _, Nat.eq_of_beq_eq_true⟩
theorem cmp_anti (ga : GdC n a) (gb : GdC n b) (h : Le n a b) {x y : Nat} (hc : Cmp n b x y) : Cmp n a x y := by
  intro p hx hp
  have ra := ga.lt hp
  have e : rw8 b (rw8 a p) = rw8 b p := h _ _ ra hp (ga.idem hp)
  have l := ga.le hp
  obtain ⟨q1, q2⟩ := hc p hx hp
  refine ⟨fun z => ?_, fun z => ?_⟩
  · have q1 := q1 z
    have := gb.le ra
    omega
  · rcases Nat.lt_or_ge x (rw8 a p) with w | w
    · rcases Nat.lt_or_ge y (rw8 a p) with v | v
      · exact Or.inr v
      · obtain ⟨r1, -⟩ := hc _ w ra
        have r1 := r1 v
        have := gb.le ra
        rcases q2 z with q | q <;> omega
    · exact Or.inl w
theorem co_anti (h1 : 1 ≤ n) (h2 : n ≤ 8) (ga : GdC n a) (gb : GdC n b) (h : Le n a b) : Le n (coM n b) (coM n a) := by
  intro x y hx hy e
  rcases Nat.lt_trichotomy x y with z | z | z
  · exact (co_rel h1 h2 ga z hy).mpr (cmp_anti ga gb h ((co_rel h1 h2 gb z hy).mp e))
  · rw [z]
  · exact ((co_rel h1 h2 ga z hx).mpr (cmp_anti ga gb h ((co_rel h1 h2 gb z hx).mp e.symm))).symm
def ucM (n c : Nat) : Nat := coM n (tuM n c)
theorem uc_good (h1 : 1 ≤ n) (h2 : n ≤ 8) (g : GdC n c) : GdC n (ucM n c) := co_good h1 h2 (tuM_good h2 g)
theorem uc_anti (h1 : 1 ≤ n) (h2 : n ≤ 8) (ga : GdC n a) (gb : GdC n b) (h : Le n a b) : Le n (ucM n b) (ucM n a) := co_anti h1 h2 (tuM_good h2 ga) (tuM_good h2 gb) (tu_mono h2 h)
theorem bfoQ_eq (n x : Nat) : bfoQ n x = bef n x := by
  unfold bfoQ bef
  rw [nb_eq]
  by_cases e : x = 0 <;> simp [e]
theorem bef_lt {x : Nat} (hx : x < n) : bef n x < n := by unfold bef; split <;> omega
theorem tuC_eq (h1 : 1 ≤ n) (h2 : n ≤ 8) (g : GdC n c) : tuC n c = tuM n c := by
  refine cyc_code h2 (tuM_good h2 g) (fun y hy => ?_)
  have t := Nat.eq_of_beq_eq_true (allK_iff (cond_and (t3_all h1 h2 g)).1 y hy)
  rw [aftQ_eq, bfoQ_eq, nextQ_eq (bef_lt hy), nextQ_eq hy] at t
  exact t
theorem ucC_eq (h1 : 1 ≤ n) (h2 : n ≤ 8) (g : GdC n c) : enc (unF (cr n c) n) n = ucM n c := by
  refine cyc_code h2 (uc_good h1 h2 g) (fun y hy => ?_)
  have t := Nat.eq_of_beq_eq_true (allK_iff (cond_and (cond_and (t3_all h1 h2 g)).2).1 y hy)
  rw [aftQ_eq, prevQ_eq hy, nextQ_eq hy] at t
  exact t
theorem rkQ_eq (n c : Nat) : rkQ n c = rkM n c := by
  unfold rkM
  induction n with
  | zero => rfl
  | succ n ih =>
    show cond (Nat.beq (rwQ c n) n) (rkQ n c) (Nat.succ (rkQ n c)) = cnt _ n + _
    rw [ih, rwQ_eq, nb_eq]
    by_cases e : rw8 c n = n <;> simp [e]
theorem rk_co (h1 : 1 ≤ n) (h2 : n ≤ 8) (g : GdC n c) : rkM n c + rkM n (coM n c) + 1 = n := by
  have t := Nat.eq_of_beq_eq_true (cond_and (cond_and (cond_and (t3_all h1 h2 g)).2).2).1
  rw [rkQ_eq, rkQ_eq] at t
  exact t
theorem co_uc (h1 : 1 ≤ n) (h2 : n ≤ 8) (g : GdC n c) : coM n (ucM n c) = c := Nat.eq_of_beq_eq_true (cond_and (cond_and (cond_and (cond_and (t3_all h1 h2 g)).2).2).2).1
theorem uc_co (h1 : 1 ≤ n) (h2 : n ≤ 8) (g : GdC n c) : ucM n (coM n c) = c := Nat.eq_of_beq_eq_true (cond_and (cond_and (cond_and (cond_and (t3_all h1 h2 g)).2).2).2).2
/-- the join, by way of the complements -/
def jK (n a b : Nat) : Nat := ucM n (meM n (coM n a) (coM n b))
theorem joC_eq (h1 : 1 ≤ n) (h2 : n ≤ 8) (ga : GdC n a) (gb : GdC n b) : joC n a b = jK n a b := by
  have ca := co_good h1 h2 ga
  have cb := co_good h1 h2 gb
  have e1 : compF (cr n a) n = cr n (coM n a) := by rw [← coC_eq h1 h2 ga]; exact (cr_comp h2).symm
  have e2 : compF (cr n b) n = cr n (coM n b) := by rw [← coC_eq h1 h2 gb]; exact (cr_comp h2).symm
  have e3 : meetF (cr n (coM n a)) (cr n (coM n b)) n = cr n (meM n (coM n a) (coM n b)) := by rw [← meC_eq h2 ca cb]; exact (cr_meet h2).symm
  show enc (unF (meetF (compF (cr n a) n) (compF (cr n b) n) n) n) n = _
  rw [e1, e2, e3]
  exact ucC_eq h1 h2 (meM_good h2 ca cb)
theorem jK_good (h1 : 1 ≤ n) (h2 : n ≤ 8) (ga : GdC n a) (gb : GdC n b) : GdC n (jK n a b) := uc_good h1 h2 (meM_good h2 (co_good h1 h2 ga) (co_good h1 h2 gb))
theorem le_j1 (h1 : 1 ≤ n) (h2 : n ≤ 8) (ga : GdC n a) (gb : GdC n b) : Le n a (jK n a b) := by
  have ca := co_good h1 h2 ga
  have cb := co_good h1 h2 gb
  have := uc_anti h1 h2 (meM_good h2 ca cb) ca (me_le1 h2)
  rw [uc_co h1 h2 ga] at this
  exact this
theorem le_j2 (h1 : 1 ≤ n) (h2 : n ≤ 8) (ga : GdC n a) (gb : GdC n b) : Le n b (jK n a b) := by
  have ca := co_good h1 h2 ga
  have cb := co_good h1 h2 gb
  have := uc_anti h1 h2 (meM_good h2 ca cb) cb (me_le2 h2)
  rw [uc_co h1 h2 gb] at this
  exact this
theorem j_le (h1 : 1 ≤ n) (h2 : n ≤ 8) (ga : GdC n a) (gb : GdC n b) (gc : GdC n c) (p : Le n a c) (q : Le n b c) : Le n (jK n a b) c := by
  have ca := co_good h1 h2 ga
  have cb := co_good h1 h2 gb
  have cc := co_good h1 h2 gc
  have := uc_anti h1 h2 cc (meM_good h2 ca cb) (le_me h2 (co_anti h1 h2 ga gc p) (co_anti h1 h2 gb gc q))
  rw [uc_co h1 h2 gc] at this
  exact this
/-! the reference's join -/
def Ext (n : Nat) (g g' : Nat → Nat) : Prop := ∀ x y, x < n → y < n → g x = g y → g' x = g' y
def Sub (n : Nat) (g : Nat → Nat) (c : Nat) : Prop := ∀ x y, x < n → y < n → g x = g y → rw8 c x = rw8 c y
theorem Ext.trans {g g' g'' : Nat → Nat} (h : Ext n g g') (h' : Ext n g' g'') : Ext n g g'' := fun x y hx hy e => h' x y hx hy (h x y hx hy e)
theorem mrg_ext {g : Nat → Nat} {u v : Nat} (hn : n ≤ 8) : Ext n g (mrgF g u v) := by
  intro x y hx hy e
  rw [mrgF_i hn hx, mrgF_i hn hy, e]
theorem mrg_sub {g : Nat → Nat} {p q : Nat} (hn : n ≤ 8) (hp : p < n) (hq : q < n) (s : Sub n g c) (e : rw8 c p = rw8 c q) : Sub n (mrgF g (g p) (g q)) c := by
  intro x y hx hy h
  rw [mrgF_i hn hx, mrgF_i hn hy] at h
  by_cases c1 : g x = g q
  · rw [if_pos c1] at h
    by_cases c2 : g y = g q
    · rw [s x q hx hq c1, s y q hy hq c2]
    · rw [if_neg c2] at h
      rw [s x q hx hq c1, ← e, s p y hp hy h]
  · rw [if_neg c1] at h
    by_cases c2 : g y = g q
    · rw [if_pos c2] at h
      rw [s y q hy hq c2, ← e, s x p hx hp h]
    · rw [if_neg c2] at h
      exact s x y hx hy h
theorem uj_ext {g : Nat → Nat} (hn : n ≤ 8) : ∀ m, Ext n g (ujF n b g m) := by
  intro m
  induction m with
  | zero => intro x y _ _ e; exact e
  | succ m ih => exact Ext.trans ih (mrg_ext hn)
theorem uj_edge {g : Nat → Nat} (hn : n ≤ 8) (gb : GdC n b) : ∀ m, m ≤ n → ∀ x, x < m → ujF n b g m x = ujF n b g m (rw8 b x) := by
  intro m
  induction m with
  | zero => intro _ x hx; omega
  | succ m ih =>
    intro hm x hx
    have hxn : x < n := by omega
    rcases Nat.lt_or_ge x m with z | z
    · exact mrg_ext hn x (rw8 b x) hxn (gb.lt hxn) (ih (by omega) x z)
    · obtain rfl : x = m := by omega
      show mrgF _ _ _ x = mrgF _ _ _ (rw8 b x)
      rw [mrgF_i hn hxn, mrgF_i hn (gb.lt hxn), if_pos rfl]
      split
      · rfl
      · rfl
theorem uj_sub {g : Nat → Nat} (hn : n ≤ 8) (gb : GdC n b) (s : Sub n g c) (h : Le n b c) : ∀ m, m ≤ n → Sub n (ujF n b g m) c := by
  intro m
  induction m with
  | zero => intro _; exact s
  | succ m ih =>
    intro hm
    exact mrg_sub hn (gb.lt (by omega)) (by omega) (ih (by omega)) (h _ _ (gb.lt (by omega)) (by omega) (gb.idem (by omega)))
theorem xi_ext (hn : n ≤ 8) : ∀ m g, Ext n g (xiF n m g) := by
  intro m
  induction m with
  | zero => intro g x y _ _ e; exact e
  | succ m ih =>
    intro g
    rw [xiF]
    rcases e : crsF n g with _ | ⟨a, b⟩
    · intro x y _ _ e; exact e
    · exact Ext.trans (mrg_ext hn) (ih _)
theorem xi_sub (hn : n ≤ 8) (gc : GdC n c) : ∀ m g, Sub n g c → Sub n (xiF n m g) c := by
  intro m
  induction m with
  | zero => intro g s; exact s
  | succ m ih =>
    intro g s
    rw [xiF]
    rcases e : crsF n g with _ | ⟨a, b⟩
    · exact s
    · obtain ⟨q1, q2, x, y, q3, q4, q5, q6, q7⟩ := crs_some e
      refine ih _ (mrg_sub hn (by omega) (by omega) s ?_)
      exact gc.nc a b x y q1 q3 q4 q5 (s a x (by omega) (by omega) q6) (s b y (by omega) (by omega) q7)
theorem joM_good (hn : n ≤ 8) : GdC n (joM n a b) := GdC_pk hn (NC_crs.mpr (xi_none hn 8 _ (Nat.le_trans (dsF_le n _) hn)))
theorem le_jo1 (hn : n ≤ 8) : Le n a (joM n a b) := fun x y hx hy e => (pk_rel hn hx hy).mpr (xi_ext hn 8 _ x y hx hy (uj_ext hn n x y hx hy e))
theorem le_jo2 (hn : n ≤ 8) (gb : GdC n b) : Le n b (joM n a b) := by
  intro x y hx hy e
  refine (pk_rel hn hx hy).mpr (xi_ext hn 8 _ x y hx hy ?_)
  rw [uj_edge hn gb n (Nat.le_refl _) x hx, uj_edge hn gb n (Nat.le_refl _) y hy, e]
theorem jo_le (hn : n ≤ 8) (gb : GdC n b) (gc : GdC n c) (p : Le n a c) (q : Le n b c) : Le n (joM n a b) c := fun x y hx hy e => xi_sub hn gc 8 _ (uj_sub hn gb p q n (Nat.le_refl _)) x y hx hy ((pk_rel hn hx hy).mp e)
theorem joM_eq (h1 : 1 ≤ n) (h2 : n ≤ 8) (ga : GdC n a) (gb : GdC n b) : joC n a b = joM n a b := by
  rw [joC_eq h1 h2 ga gb]
  exact le_anti h2 (jK_good h1 h2 ga gb) (joM_good h2) (j_le h1 h2 ga gb (joM_good h2) (le_jo1 h2) (le_jo2 h2 gb)) (jo_le h2 gb (jK_good h1 h2 ga gb) (le_j1 h1 h2 ga gb) (le_j2 h1 h2 ga gb))
end M5
