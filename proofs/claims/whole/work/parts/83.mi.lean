/-! MATHEMATICS 18: chains with given labels, second half -/
theorem ex_max {P : Nat → Prop} : ∀ n, (∃ y, y < n ∧ P y) → ∃ w, w < n ∧ P w ∧ ∀ p, w < p → p < n → ¬ P p
  | 0, ⟨y, h, _⟩ => absurd h (Nat.not_lt_zero _)
  | n + 1, ⟨y, h1, h2⟩ => by
    rcases Classical.em (P n) with e | e
    · exact ⟨n, by omega, e, fun p p1 p2 => by omega⟩
    · have : y ≠ n := fun q => e (q ▸ h2)
      obtain ⟨w, w1, w2, w3⟩ := ex_max n ⟨y, by omega, h2⟩
      refine ⟨w, by omega, w2, fun p p1 p2 => ?_⟩
      rcases Nat.lt_or_ge p n with z | z
      · exact w3 p p1 z
      · rw [show p = n by omega]; exact e
theorem ex_min {P : Nat → Prop} (y : Nat) (h : P y) : ∃ w, w ≤ y ∧ P w ∧ ∀ p, p < w → ¬ P p := by
  induction y using Nat.strongRecOn with
  | ind y ih =>
    rcases Classical.em (∃ z, z < y ∧ P z) with ⟨z, z1, z2⟩ | q
    · obtain ⟨w, w1, w2, w3⟩ := ih z z1 z2
      exact ⟨w, by omega, w2, w3⟩
    · exact ⟨y, Nat.le_refl _, h, fun p hp hP => q ⟨p, hp, hP⟩⟩
section MI
variable {n a b c j k : Nat} {X : aX}
theorem step_of (gj : GdC n j) (gk : GdC n k) (h : Le n j k) (hr : rkM n k = rkM n j + 1) : ∃ x y w, StepR n (rw8 j) (rw8 k) x y (mkM n j k) w := by
  obtain ⟨x, y, hxy, hy, xa, ya, hb⟩ := cov_str gj gk h hr
  obtain ⟨m1, m2, m3, m4⟩ := mk_spec gj hxy hy xa ya hb
  obtain ⟨w, w1, w2, w3⟩ := ex_max (P := fun p => rw8 j p = y) n ⟨y, hy, ya⟩
  have yw : y ≤ w := by
    rcases Nat.lt_or_ge w y with z | z
    · exact absurd ya (w3 y z hy)
    · exact z
  refine ⟨x, y, w, ⟨m1, m2, yw, w1⟩, ⟨xa, ya, m3, w2⟩, hb, fun p hp => gj.le hp, fun p p1 p2 e => ?_, w3⟩
  rcases Nat.lt_trichotomy p y with z | z | z
  · exact m4 p p1 z e
  · rw [z, ya] at e; omega
  · rcases Nat.decEq p w with q | q
    · have := gj.nc (mkM n j k) y p w m2 z (by omega) w1 (by rw [m3, e]) (by rw [ya, w2])
      rw [m3, ya] at this
      omega
    · rw [q, w2] at e; omega
/-- the step is told by k, t and w -/
theorem step_row {rj rk : Nat → Nat} {x y t w : Nat} (S : StepR n rj rk x y t w) : x = rk t ∧ (rk y = x ∧ ∀ p, rk p = x → t < p → p ≤ w → y ≤ p) ∧ ∀ p, p < n → rj p = if rk p = x ∧ t < p ∧ p ≤ w then y else rk p := by
  obtain ⟨⟨a1, a2, a3, a4⟩, ⟨b1, b2, b3, b4⟩, c, d, e, f⟩ := S
  have A : ∀ p, p < n → rk p = x → t < p → p ≤ w → rj p = y := by
    intro p hp h1 h2 h3
    rw [c p hp] at h1
    by_cases q : rj p = y
    · exact q
    · rw [if_neg q] at h1; exact absurd h1 (e p h2 h3)
  refine ⟨by rw [c t (by omega), if_neg (by omega), b3], ⟨by rw [c y (by omega), if_pos b2], fun p h1 h2 h3 => by have := A p (by omega) h1 h2 h3; have := d p (by omega); omega⟩, fun p hp => ?_⟩
  by_cases q : rk p = x ∧ t < p ∧ p ≤ w
  · rw [if_pos q]; exact A p hp q.1 q.2.1 q.2.2
  · rw [if_neg q]
    by_cases z : rj p = y
    · exfalso
      have h1 : rk p = x := by rw [c p hp, if_pos z]
      have h2 := d p hp
      refine q ⟨h1, by omega, ?_⟩
      rcases Nat.lt_or_ge w p with v | v
      · exact absurd z (f p v hp)
      · exact v
    · rw [c p hp, if_neg z]
/-- and w by the labels -/
theorem step_w {rj rk m : Nat → Nat} {x y t w : Nat} (S : StepR n rj rk x y t w) (P : PF n rj m) : rk w = x ∧ t < w ∧ w < n ∧ eS rk m x (w + 1) < eS rk m x (t + 1) ∧ ∀ p, t < p → p < w → rk p = x → eS rk m x (t + 1) ≤ eS rk m x (p + 1) := by
  obtain ⟨-, C1, C2⟩ := (step_pf S).mp P
  have K := cnd_k (m := m) S
  have R := step_row S
  obtain ⟨⟨a1, a2, a3, a4⟩, ⟨b1, b2, b3, b4⟩, c, d, e, f⟩ := S
  refine ⟨by rw [c w a4, if_pos b4], by omega, a4, ?_, fun p p1 p2 p3 => ?_⟩
  · have := K w b4 (Nat.le_refl _)
    omega
  · have hj : rj p = y := by
      rw [R.2.2 p (by omega), if_pos ⟨p3, p1, by omega⟩]
    have := K p hj (by omega)
    have := C2 p hj p2
    omega
theorem step_uni {rj rj' rk m : Nat → Nat} {x y w x' y' w' t : Nat} (S : StepR n rj rk x y t w) (S' : StepR n rj' rk x' y' t w') (P : PF n rj m) (P' : PF n rj' m) : ∀ p, p < n → rj p = rj' p := by
  have R := step_row S
  have R' := step_row S'
  have ex : x = x' := R.1.trans R'.1.symm
  subst ex
  obtain ⟨q1, q2, q3, q4, q5⟩ := step_w S P
  obtain ⟨r1, r2, r3, r4, r5⟩ := step_w S' P'
  have ew : w = w' := by
    rcases Nat.lt_trichotomy w w' with z | z | z
    · have := r5 w q2 z q1; omega
    · exact z
    · have := q5 w' r2 z r1; omega
  subst ew
  have y1 := S.1
  have y2 := S'.1
  have ey : y = y' := by
    have i1 := R.2.1.2 y' R'.2.1.1 (by omega) (by omega)
    have i2 := R'.2.1.2 y R.2.1.1 (by omega) (by omega)
    omega
  subst ey
  intro p hp
  rw [R.2.2 p hp, R'.2.2 p hp]
/-- the labels that park make up the rank -/
theorem eS_cnt {r m : Nat → Nat} {b : Nat} : ∀ z, eS r m b z = ((cnt (fun q => if r q = b then m q else 0) z : Nat) : Int) - ((cnt (fun q => if r q = b then 1 else 0) z : Nat) : Int)
  | 0 => rfl
  | z + 1 => by
    rw [eS, eS_cnt z, cnt, cnt]
    by_cases e : r z = b
    · rw [if_pos e, if_pos e, if_pos e]; push_cast; omega
    · rw [if_neg e, if_neg e, if_neg e]; push_cast; omega
theorem pf_tot {m : Nat → Nat} (g : GdC n c) (P : PF n (rw8 c) m) : cnt m n = rkM n c := by
  have e1 : cnt m n = cnt (fun b => cnt (fun q => if rw8 c q = b then m q else 0) n) n := by
    rw [cnt_comm]
    refine cnt_congr n (fun q hq => ?_)
    show m q = cnt (fun b => if rw8 c q = b then m q else 0) n
    rw [cnt_one (j := rw8 c q) n (g.lt hq) (fun i _ hi => if_neg (fun e => hi e.symm)), if_pos rfl]
  have e2 : cnt (fun _ => 1) n = cnt (fun b => cnt (fun q => if rw8 c q = b then 1 else 0) n) n := by
    rw [cnt_comm]
    refine cnt_congr n (fun q hq => ?_)
    show 1 = cnt (fun b => if rw8 c q = b then 1 else 0) n
    rw [cnt_one (j := rw8 c q) n (g.lt hq) (fun i _ hi => if_neg (fun e => hi e.symm)), if_pos rfl]
  have e3 : cnt (fun b => cnt (fun q => if rw8 c q = b then m q else 0) n + (if rw8 c b = b then 1 else 0)) n = cnt (fun b => cnt (fun q => if rw8 c q = b then 1 else 0) n) n := by
    refine cnt_congr n (fun b hb => ?_)
    show cnt (fun q => if rw8 c q = b then m q else 0) n + (if rw8 c b = b then 1 else 0) = cnt (fun q => if rw8 c q = b then 1 else 0) n
    by_cases e : rw8 c b = b
    · rw [if_pos e]
      obtain ⟨M, M1, M2, M3⟩ := ex_max (P := fun p => rw8 c p = b) n ⟨b, hb, e⟩
      have p := (P M M1).2 (fun z z1 z2 h => M3 z z1 z2 (h.trans M2))
      rw [M2, ← eS_fl (u := M + 1) (v := n) (by omega) (fun q q1 q2 => M3 q (by omega) q2), eS_cnt] at p
      omega
    · rw [if_neg e]
      have no : ∀ q, q < n → rw8 c q ≠ b := fun q hq h => e (by rw [← h]; exact g.idem hq)
      rw [cnt_zero n (fun q hq => if_neg (no q hq)), cnt_zero n (fun q hq => if_neg (no q hq))]
  have e4 : cnt (fun b => if rw8 c b = b then 1 else 0) n + rkM n c = cnt (fun _ => 1) n := by
    unfold rkM
    rw [← cnt_add]
    refine cnt_congr n (fun q _ => ?_)
    show (if rw8 c q = q then 1 else 0) + (if rw8 c q = q then 0 else 1) = 1
    by_cases e : rw8 c q = q
    · rw [if_pos e, if_pos e]
    · rw [if_neg e, if_neg e]
  rw [cnt_add, ← e1, ← e2] at e3
  omega
/-- where the labels park in k, the last one has been set by just one step -/
theorem step_ex (h1 : 1 ≤ n) (h2 : n ≤ 8) (gk : GdC n k) {m : Nat → Nat} {t : Nat} (ht : t < n) (P : PF n (rw8 k) (plU m t)) : ∃ j, GdC n j ∧ Le n j k ∧ rkM n k = rkM n j + 1 ∧ mkM n j k = t ∧ PF n (rw8 j) m := by
  obtain ⟨x, ex⟩ : ∃ x, x = rw8 k t := ⟨_, rfl⟩
  have E : ∀ z, eS (rw8 k) (plU m t) x z = eS (rw8 k) m x z + (if t < z then 1 else 0) := by
    intro z
    rw [eS_up]
    by_cases q : t < z
    · rw [if_pos ⟨q, ex.symm⟩, if_pos q]
    · rw [if_neg (fun h => q h.1), if_neg q]
  have xt : x ≤ t := by rw [ex]; exact gk.le ht
  have xx : rw8 k x = x := by rw [ex]; exact gk.idem ht
  have E0 : ∀ z, z ≤ t → 0 ≤ eS (rw8 k) m x z := by
    intro z
    induction z with
    | zero => intro _; exact Int.le_refl _
    | succ z ih =>
      intro hz
      by_cases q : rw8 k z = x
      · have := (P z (by omega)).1 ⟨t, by omega, ht, by rw [← ex, q]⟩
        rw [q, E, if_neg (by omega)] at this
        omega
      · rw [eS, if_neg q, Int.add_zero]; exact ih (by omega)
  have et : eS (rw8 k) m x (t + 1) = eS (rw8 k) m x t + ((m t : Int) - 1) := by rw [eS, if_pos ex.symm]
  have et0 := E0 t (Nat.le_refl _)
  have nx : ∃ z, t < z ∧ z < n ∧ rw8 k z = x := by
    rcases Classical.em (∃ z, t < z ∧ z < n ∧ rw8 k z = x) with q | q
    · exact q
    · exfalso
      have := (P t ht).2 (fun z z1 z2 z3 => q ⟨z, z1, z2, by rw [z3, ex]⟩)
      rw [← ex, E, if_pos (by omega)] at this
      omega
  obtain ⟨M, M1, ⟨M2, M4⟩, M3⟩ := ex_max (P := fun p => rw8 k p = x ∧ t < p) n (by obtain ⟨z, z1, z2, z3⟩ := nx; exact ⟨z, z2, z3, z1⟩)
  have eM : eS (rw8 k) m x (M + 1) = -2 := by
    have := (P M M1).2 (fun z z1 z2 z3 => M3 z z1 z2 ⟨by rw [z3, M2], by omega⟩)
    rw [M2, E, if_pos (by omega)] at this
    omega
  obtain ⟨w, w1, ⟨w2, w3, w4⟩, w5⟩ := ex_min (P := fun p => rw8 k p = x ∧ t < p ∧ eS (rw8 k) m x (p + 1) < eS (rw8 k) m x (t + 1)) M ⟨M2, M4, by omega⟩
  obtain ⟨y, y1, ⟨y2, y3⟩, y4⟩ := ex_min (P := fun p => rw8 k p = x ∧ t < p) w ⟨w2, w3⟩
  have wn : w < n := by omega
  have yx : rw8 k y = x := y2
  obtain ⟨g, hg⟩ : ∃ g : Nat → Nat, g = fun p => if rw8 k p = x ∧ t < p ∧ p ≤ w then y else rw8 k p := ⟨_, rfl⟩
  have g1 : ∀ p, rw8 k p = x → t < p → p ≤ w → g p = y := fun p q1 q2 q3 => by rw [hg]; exact if_pos ⟨q1, q2, q3⟩
  have g2 : ∀ p, ¬ (rw8 k p = x ∧ t < p ∧ p ≤ w) → g p = rw8 k p := fun p q => by rw [hg]; exact if_neg q
  have ny : ∀ p, p < n → rw8 k p ≠ y := fun p hp q => by
    have := gk.idem hp
    rw [q, yx] at this
    omega
  have gc : ∀ p, p < n → (rw8 k p = x ∧ t < p ∧ p ≤ w ∧ g p = y) ∨ (¬ (rw8 k p = x ∧ t < p ∧ p ≤ w) ∧ g p = rw8 k p) := fun p hp => by
    by_cases q : rw8 k p = x ∧ t < p ∧ p ≤ w
    · exact Or.inl ⟨q.1, q.2.1, q.2.2, g1 p q.1 q.2.1 q.2.2⟩
    · exact Or.inr ⟨q, g2 p q⟩
  have gle : ∀ p, p < n → g p ≤ p := by
    intro p hp
    rcases gc p hp with ⟨q1, q2, q3, q4⟩ | ⟨q, q4⟩
    · rw [q4]
      rcases Nat.lt_or_ge p y with z | z
      · exact absurd ⟨q1, q2⟩ (y4 p z)
      · exact z
    · rw [q4]; exact gk.le hp
  have gx : g x = x := by rw [g2 x (fun q => by omega), xx]
  have gy : g y = y := g1 y yx y3 y1
  have gt : g t = x := by rw [g2 t (fun q => by omega), ex]
  have gw : g w = y := g1 w w2 w3 (Nat.le_refl _)
  have S : StepR n g (rw8 k) x y t w := by
    refine ⟨⟨xt, y3, y1, wn⟩, ⟨gx, gy, gt, gw⟩, fun p hp => ?_, gle, fun p p1 p2 => ?_, fun p p1 p2 => ?_⟩
    · rcases gc p hp with ⟨q1, q2, q3, q4⟩ | ⟨q, q4⟩
      · rw [q4, if_pos rfl, q1]
      · rw [q4, if_neg (ny p hp)]
    · rcases gc p (by omega) with ⟨q1, q2, q3, q4⟩ | ⟨q, q4⟩
      · omega
      · rw [q4]; exact fun e => q ⟨e, p1, p2⟩
    · rcases gc p p2 with ⟨q1, q2, q3, q4⟩ | ⟨q, q4⟩
      · omega
      · rw [q4]; exact ny p p2
  have gid : ∀ p, p < n → g (g p) = g p := by
    intro p hp
    rcases gc p hp with ⟨q1, q2, q3, q4⟩ | ⟨q, q4⟩
    · rw [q4, gy]
    · rw [q4]
      by_cases e : rw8 k p = x
      · rw [e, gx]
      · rw [g2 _ (fun h => e (by rw [gk.idem hp] at h; exact h.1)), gk.idem hp]
  have gnc : NC n g := by
    intro p q r s h1' h2' h3' h4' h5' h6'
    have rel : ∀ u v, u < n → v < n → g u = g v → rw8 k u = rw8 k v := fun u v hu hv e => by rw [S.2.2.1 u hu, S.2.2.1 v hv, e]
    have kpq := gk.nc p q r s h1' h2' h3' h4' (rel p r (by omega) (by omega) h5') (rel q s (by omega) (by omega) h6')
    have kpr := rel p r (by omega) (by omega) h5'
    have kqs := rel q s (by omega) (by omega) h6'
    rcases gc p (by omega) with ⟨p1, p2, p3, p4⟩ | ⟨pn, p4⟩
    · rcases gc r (by omega) with ⟨r1, r2, r3, r4⟩ | ⟨rn, r4⟩
      · rw [p4, g1 q (by rw [← kpq, p1]) (by omega) (by omega)]
      · exact absurd (by rw [← h5', p4] at r4; exact r4.symm) (ny r (by omega))
    · rcases gc q (by omega) with ⟨q1, q2, q3, q4⟩ | ⟨qn, q4⟩
      · exfalso
        rcases gc s (by omega) with ⟨s1, s2, s3, s4⟩ | ⟨sn, s4⟩
        · have gr : g r = y := g1 r (by rw [← kpr, kpq, q1]) (by omega) (by omega)
          rw [← h5', p4] at gr
          exact ny p (by omega) gr
        · rw [← h6', q4] at s4
          exact ny s (by omega) s4.symm
      · rw [p4, q4, kpq]
  have g8 : ∀ i, i < n → g i < 8 := fun i hi => by have := gle i hi; omega
  have rj : ∀ p, p < n → rw8 (enc g n) p = g p := fun p hp => rw8_enc h2 g8 hp
  have gj : GdC n (enc g n) := by
    refine GdC.mk ?_ (enc_low h2) (fun p hp => ?_) ?_
    · have := @enc_lt g n h2 g8
      have h2 : 0 < 8 ^ (8 - n) := Nat.pow_pos (by decide)
      omega
    · have := gle p hp
      rw [rj p hp, rj _ (by omega)]
      exact ⟨this, gid p hp⟩
    · intro p q r s h1' h2' h3' h4' h5' h6'
      rw [rj p (by omega), rj r (by omega)] at h5'
      rw [rj q (by omega), rj s (by omega)] at h6'
      rw [rj p (by omega), rj q (by omega)]
      exact gnc p q r s h1' h2' h3' h4' h5' h6'
  have Sj : StepR n (rw8 (enc g n)) (rw8 k) x y t w := by
    obtain ⟨⟨a1, a2, a3, a4⟩, ⟨b1, b2, b3, b4⟩, c, d, e, f⟩ := S
    refine ⟨⟨a1, a2, a3, a4⟩, ⟨by rw [rj x (by omega), b1], by rw [rj y (by omega), b2], by rw [rj t ht, b3], by rw [rj w wn, b4]⟩, fun p hp => by rw [rj p hp]; exact c p hp, fun p hp => by rw [rj p hp]; exact d p hp, fun p p1 p2 => by rw [rj p (by omega)]; exact e p p1 p2, fun p p1 p2 => by rw [rj p p2]; exact f p p1 p2⟩
  have Ew : ∀ z, t < z → z ≤ w → eS (rw8 k) m x (t + 1) ≤ eS (rw8 k) m x z := by
    intro z
    induction z with
    | zero => intro h; omega
    | succ z ih =>
      intro h hz
      by_cases q : z = t
      · rw [q]; exact Int.le_refl _
      · by_cases c : rw8 k z = x
        · have := w5 z (by omega)
          rcases Int.lt_or_le (eS (rw8 k) m x (z + 1)) (eS (rw8 k) m x (t + 1)) with v | v
          · exact absurd ⟨c, by omega, v⟩ this
          · exact v
        · have e1 : eS (rw8 k) m x (z + 1) = eS (rw8 k) m x z := by rw [eS, if_neg c, Int.add_zero]
          rw [e1]; exact ih (by omega) (by omega)
  have K := cnd_k (m := m) Sj
  have Cw : CndW (rw8 (enc g n)) m y w := by
    refine ⟨?_, fun p hp hw => ?_⟩
    · rw [K w (by rw [rj w wn, gw]) (Nat.le_refl _)]
      have e1 : eS (rw8 k) m x (w + 1) = eS (rw8 k) m x w + ((m w : Int) - 1) := by rw [eS, if_pos w2]
      have := Ew w w3 (Nat.le_refl _)
      omega
    · rw [K p hp (by omega)]
      have hp2 := hp
      rw [rj p (by omega)] at hp2
      rcases gc p (by omega) with ⟨q1, q2, q3, q4⟩ | ⟨q, q4⟩
      · have := Ew (p + 1) (by omega) (by omega)
        omega
      · exact absurd (by rw [← q4, hp2]) (ny p (by omega))
  have lejk : Le n (enc g n) k := fun p q hp hq e => by rw [Sj.2.2.1 p hp, Sj.2.2.1 q hq, e]
  have rnk : rkM n k = rkM n (enc g n) + 1 := by
    have e : rkM n k = cnt (fun i => (if rw8 (enc g n) i = i then 0 else 1) + (if i = y then 1 else 0)) n := by
      refine cnt_congr n (fun i hi => ?_)
      show (if rw8 k i = i then 0 else 1) = (if rw8 (enc g n) i = i then 0 else 1) + (if i = y then 1 else 0)
      rw [rj i hi]
      by_cases z : i = y
      · rw [z, if_neg (by omega), if_pos gy, if_pos rfl]
      · rw [if_neg z, Nat.add_zero]
        rcases gc i hi with ⟨q1, q2, q3, q4⟩ | ⟨q, q4⟩
        · rw [q4, if_neg (by omega), if_neg (by omega)]
        · rw [q4]
    rw [e, cnt_add, cnt_one (j := y) n (by omega) (fun i _ hi => if_neg hi), if_pos rfl]
    rfl
  refine ⟨enc g n, gj, lejk, rnk, ?_, (step_pf Sj).mpr ⟨P, Cw⟩⟩
  obtain ⟨⟨a1, a2, a3, a4⟩, ⟨b1, b2, b3, b4⟩, c, d, e, f⟩ := Sj
  obtain ⟨m1, m2, m3, m4⟩ := mk_spec gj (show x < y by omega) (by omega) b1 b2 c
  rcases Nat.lt_trichotomy (mkM n (enc g n) k) t with z | z | z
  · exact absurd b3 (m4 t z y3)
  · exact z
  · exact absurd m3 (e _ z (by omega))
end MI
