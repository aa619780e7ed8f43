/-! MATHEMATICS 17: chains with given labels -/
def eS (r m : Nat → Nat) (b : Nat) : Nat → Int
  | 0 => 0
  | z + 1 => eS r m b z + (if r z = b then (m z : Int) - 1 else 0)
/-- the labels park in each block -/
def PF (n : Nat) (r m : Nat → Nat) : Prop := ∀ p, p < n → ((∃ z, p < z ∧ z < n ∧ r z = r p) → 0 ≤ eS r m (r p) (p + 1)) ∧ ((∀ z, p < z → z < n → r z ≠ r p) → eS r m (r p) (p + 1) = -1)
def plU (m : Nat → Nat) (t : Nat) : Nat → Nat := fun i => if i = t then m i + 1 else m i
theorem eS_flat {r m : Nat → Nat} {b u : Nat} : ∀ d, (∀ q, u ≤ q → q < u + d → r q ≠ b) → eS r m b (u + d) = eS r m b u
  | 0, _ => rfl
  | d + 1, h => by
    rw [← Nat.add_assoc, eS, if_neg (h (u + d) (by omega) (by omega)), Int.add_zero, eS_flat d (fun q h1 h2 => h q h1 (by omega))]
theorem eS_fl {r m : Nat → Nat} {b u v : Nat} (huv : u ≤ v) (h : ∀ q, u ≤ q → q < v → r q ≠ b) : eS r m b v = eS r m b u := by
  have := eS_flat (r := r) (m := m) (b := b) (u := u) (v - u) (fun q h1 h2 => h q h1 (by omega))
  rwa [show u + (v - u) = v by omega] at this
theorem eS_congr {r r' m : Nat → Nat} {b : Nat} : ∀ z, (∀ q, q < z → (r q = b ↔ r' q = b)) → eS r m b z = eS r' m b z
  | 0, _ => rfl
  | z + 1, h => by
    rw [eS, eS, eS_congr z (fun q hq => h q (by omega))]
    have := h z (by omega)
    by_cases e : r z = b
    · rw [if_pos e, if_pos (this.mp e)]
    · rw [if_neg e, if_neg (fun q => e (this.mpr q))]
theorem eS_two {r r' m : Nat → Nat} {x y : Nat} (hxy : x ≠ y) : ∀ z, (∀ q, q < z → (r' q = x ↔ r q = x ∨ r q = y)) → eS r' m x z = eS r m x z + eS r m y z
  | 0, _ => rfl
  | z + 1, h => by
    have e := eS_two (r := r) (r' := r') (m := m) hxy z (fun q hq => h q (by omega))
    have := h z (by omega)
    rw [eS, eS, eS, e]
    by_cases c1 : r z = x
    · rw [if_pos (this.mpr (Or.inl c1)), if_pos c1, if_neg (by omega)]
      omega
    · by_cases c2 : r z = y
      · rw [if_pos (this.mpr (Or.inr c2)), if_neg c1, if_pos c2]
        omega
      · rw [if_neg (fun q => (this.mp q).elim c1 c2), if_neg c1, if_neg c2]
        omega
theorem eS_up {r m : Nat → Nat} {b t : Nat} : ∀ z, eS r (plU m t) b z = eS r m b z + (if t < z ∧ r t = b then 1 else 0)
  | 0 => by rw [if_neg (by omega)]; rfl
  | z + 1 => by
    rw [eS, eS, eS_up z]
    unfold plU
    by_cases c : z = t
    · subst c
      rw [if_pos rfl, if_neg (show ¬ (z < z ∧ r z = b) by omega)]
      by_cases e : r z = b
      · rw [if_pos e, if_pos e, if_pos ⟨by omega, e⟩]
        push_cast
        omega
      · rw [if_neg e, if_neg e, if_neg (fun q => e q.2)]
    · rw [if_neg c, show (if t < z + 1 ∧ r t = b then (1 : Int) else 0) = (if t < z ∧ r t = b then 1 else 0) from by
        by_cases e : t < z ∧ r t = b
        · rw [if_pos e, if_pos (show t < z + 1 ∧ r t = b from ⟨by omega, e.2⟩)]
        · rw [if_neg e, if_neg (show ¬ (t < z + 1 ∧ r t = b) from fun q => e ⟨by omega, q.2⟩)]]
      omega
/-- the step from j to k: the blocks of x and y are made one, t is the label, w the last point of y's block -/
def StepR (n : Nat) (rj rk : Nat → Nat) (x y t w : Nat) : Prop := (x ≤ t ∧ t < y ∧ y ≤ w ∧ w < n) ∧ (rj x = x ∧ rj y = y ∧ rj t = x ∧ rj w = y) ∧ (∀ p, p < n → rk p = if rj p = y then x else rj p) ∧ (∀ p, p < n → rj p ≤ p) ∧ (∀ p, t < p → p ≤ w → rj p ≠ x) ∧ (∀ p, w < p → p < n → rj p ≠ y)
def CndW (rj m : Nat → Nat) (y w : Nat) : Prop := eS rj m y (w + 1) = -1 ∧ ∀ p, rj p = y → p < w → 0 ≤ eS rj m y (p + 1)
theorem step_pf {n : Nat} {rj rk m : Nat → Nat} {x y t w : Nat} (S : StepR n rj rk x y t w) : PF n rj m ↔ PF n rk (plU m t) ∧ CndW rj m y w := by
  obtain ⟨⟨a1, a2, a3, a4⟩, ⟨b1, b2, b3, b4⟩, c, d, e, f⟩ := S
  have kx : ∀ p, p < n → (rk p = x ↔ rj p = x ∨ rj p = y) := by
    intro p hp
    rw [c p hp]
    by_cases q : rj p = y
    · rw [if_pos q]; exact ⟨fun _ => Or.inr q, fun _ => rfl⟩
    · rw [if_neg q]; exact ⟨fun h => Or.inl h, fun h => h.elim id (fun h => absurd h q)⟩
  have kt : rk t = x := (kx t (by omega)).mpr (Or.inl b3)
  have ob : ∀ p, p < n → rj p ≠ x → rj p ≠ y → rk p = rj p ∧ (∀ q, q < n → (rk q = rj p ↔ rj q = rj p)) := by
    intro p hp p1 p2
    refine ⟨by rw [c p hp, if_neg p2], fun q hq => ?_⟩
    rw [c q hq]
    by_cases z : rj q = y
    · rw [if_pos z]; exact ⟨fun h => absurd h.symm p1, fun h => absurd (h.symm.trans z) p2⟩
    · rw [if_neg z]
  have E2 : ∀ z, z ≤ n → eS rk (plU m t) x z = eS rj m x z + eS rj m y z + (if t < z then 1 else 0) := by
    intro z hz
    rw [eS_up, eS_two (r := rj) (by omega) z (fun q hq => kx q (by omega)), kt]
    by_cases q : t < z
    · rw [if_pos ⟨q, rfl⟩, if_pos q]
    · rw [if_neg (fun h => q h.1), if_neg q]
  have Eo : ∀ p, p < n → rj p ≠ x → rj p ≠ y → eS rk (plU m t) (rk p) (p + 1) = eS rj m (rj p) (p + 1) := by
    intro p hp p1 p2
    obtain ⟨q1, q2⟩ := ob p hp p1 p2
    rw [eS_up, q1, kt, if_neg (fun h => p1 h.2.symm), Int.add_zero]
    exact eS_congr _ (fun q hq => q2 q (by omega))
  have Y0 : ∀ z, z ≤ y → eS rj m y z = 0 := by
    intro z hz
    rw [eS_fl (u := 0) (Nat.zero_le _) (fun q _ hq h => by have := d q (by omega); omega)]
    rfl
  have Xt : ∀ p, t ≤ p → p ≤ w → eS rj m x (p + 1) = eS rj m x (t + 1) := fun p h1 h2 => eS_fl (by omega) (fun q q1 q2 => e q (by omega) (by omega))
  have Yw : ∀ p, w ≤ p → p < n → eS rj m y (p + 1) = eS rj m y (w + 1) := fun p h1 h2 => eS_fl (by omega) (fun q q1 q2 => f q (by omega) (by omega))
  have xp : ∀ p, p < n → rj p = x → p ≤ t ∨ w < p := by
    intro p hp h
    rcases Nat.lt_or_ge t p with z | z
    · rcases Nat.lt_or_ge w p with z2 | z2
      · exact Or.inr z2
      · exact absurd h (e p z z2)
    · exact Or.inl z
  have yp : ∀ p, p < n → rj p = y → y ≤ p ∧ p ≤ w := by
    intro p hp h
    have := d p hp
    rcases Nat.lt_or_ge w p with z | z
    · exact absurd h (f p z hp)
    · omega
  constructor
  · intro P
    have Pw : eS rj m y (w + 1) = -1 := by
      have := (P w a4).2 (by rw [b4]; exact f)
      rwa [b4] at this
    refine ⟨fun p hp => ?_, Pw, fun p h1 h2 => ?_⟩
    · by_cases c1 : rj p = x
      · have hk : rk p = x := (kx p hp).mpr (Or.inl c1)
        rw [hk, E2 (p + 1) (by omega)]
        rcases xp p hp c1 with z | z
        · rw [Y0 (p + 1) (by omega)]
          by_cases z2 : p = t
          · subst z2
            rw [if_pos (by omega)]
            have lo : -1 ≤ eS rj m x (p + 1) := by
              rcases Classical.em (∃ z, p < z ∧ z < n ∧ rj z = rj p) with q | q
              · have := (P p hp).1 q; rw [c1] at this; omega
              · have := (P p hp).2 (fun z h1 h2 h3 => q ⟨z, h1, h2, h3⟩); rw [c1] at this; omega
            exact ⟨fun _ => by omega, fun q => absurd ((kx y (by omega)).mpr (Or.inr b2)) (q y (by omega) (by omega))⟩
          · rw [if_neg (by omega)]
            have := (P p hp).1 ⟨t, by omega, by omega, by rw [b3, c1]⟩
            rw [c1] at this
            exact ⟨fun _ => by omega, fun q => absurd kt (q t (by omega) (by omega))⟩
        · rw [Yw p (by omega) hp, Pw, if_pos (by omega)]
          refine ⟨fun ⟨v, v1, v2, v3⟩ => ?_, fun q => ?_⟩
          · have v4 : rj v = x := ((kx v v2).mp v3).elim id (fun h => absurd h (f v (by omega) v2))
            have := (P p hp).1 ⟨v, v1, v2, by rw [v4, c1]⟩
            rw [c1] at this
            omega
          · have := (P p hp).2 (fun v v1 v2 v3 => q v v1 v2 ((kx v v2).mpr (Or.inl (by rw [v3, c1]))))
            rw [c1] at this
            omega
      · by_cases c2 : rj p = y
        · have hk : rk p = x := (kx p hp).mpr (Or.inr c2)
          obtain ⟨y1, y2⟩ := yp p hp c2
          rw [hk, E2 (p + 1) (by omega), Xt p (by omega) y2, if_pos (by omega)]
          have lo : -1 ≤ eS rj m x (t + 1) := by
            rcases Classical.em (∃ z, t < z ∧ z < n ∧ rj z = rj t) with q | q
            · have := (P t (by omega)).1 q; rw [b3] at this; omega
            · have := (P t (by omega)).2 (fun z h1 h2 h3 => q ⟨z, h1, h2, h3⟩); rw [b3] at this; omega
          by_cases z : p = w
          · subst z
            rw [Pw]
            refine ⟨fun ⟨v, v1, v2, v3⟩ => ?_, fun q => ?_⟩
            · have v4 : rj v = x := ((kx v v2).mp v3).elim id (fun h => absurd h (f v v1 v2))
              have := (P t (by omega)).1 ⟨v, by omega, v2, by rw [v4, b3]⟩
              rw [b3] at this
              omega
            · have := (P t (by omega)).2 (fun v v1 v2 v3 => by
                rw [b3] at v3
                rcases xp v v2 v3 with h | h
                · omega
                · exact q v h v2 ((kx v v2).mpr (Or.inl v3)))
              rw [b3] at this
              omega
          · have := (P p hp).1 ⟨w, by omega, a4, by rw [b4, c2]⟩
            rw [c2] at this
            exact ⟨fun _ => by omega, fun q => absurd ((kx w a4).mpr (Or.inr b4)) (q w (by omega) a4)⟩
        · obtain ⟨o1, o2⟩ := ob p hp c1 c2
          rw [Eo p hp c1 c2]
          refine ⟨fun ⟨v, v1, v2, v3⟩ => (P p hp).1 ⟨v, v1, v2, (o2 v v2).mp (v3.trans o1)⟩, fun q => (P p hp).2 (fun v v1 v2 v3 => q v v1 v2 (((o2 v v2).mpr v3).trans o1.symm))⟩
    · have := (P p (by omega)).1 ⟨w, h2, a4, by rw [b4, h1]⟩
      rwa [h1] at this
  · rintro ⟨P, Pw, Pc⟩ p hp
    have wE : eS rk (plU m t) x (w + 1) = eS rj m x (t + 1) := by
      rw [E2 (w + 1) (by omega), Xt w (by omega) (Nat.le_refl _), Pw, if_pos (by omega)]
      omega
    have kw : rk w = x := (kx w a4).mpr (Or.inr b4)
    by_cases c1 : rj p = x
    · have hk : rk p = x := (kx p hp).mpr (Or.inl c1)
      have Pp := P p hp
      rw [hk, E2 (p + 1) (by omega)] at Pp
      rw [c1]
      rcases xp p hp c1 with z | z
      · rw [Y0 (p + 1) (by omega)] at Pp
        by_cases z2 : p = t
        · subst z2
          have Pk := P w a4
          rw [kw, wE] at Pk
          refine ⟨fun ⟨v, v1, v2, v3⟩ => ?_, fun q => ?_⟩
          · rcases xp v v2 v3 with h | h
            · omega
            · exact Pk.1 ⟨v, h, v2, (kx v v2).mpr (Or.inl v3)⟩
          · refine Pk.2 (fun v v1 v2 v3 => ?_)
            rcases (kx v v2).mp v3 with h | h
            · exact q v (by omega) v2 h
            · exact f v v1 v2 h
        · rw [if_neg (by omega)] at Pp
          have := Pp.1 ⟨t, by omega, by omega, kt⟩
          exact ⟨fun _ => by omega, fun q => absurd b3 (q t (by omega) (by omega))⟩
      · rw [Yw p (by omega) hp, Pw, if_pos (by omega)] at Pp
        refine ⟨fun ⟨v, v1, v2, v3⟩ => ?_, fun q => ?_⟩
        · have := Pp.1 ⟨v, v1, v2, (kx v v2).mpr (Or.inl v3)⟩
          omega
        · have := Pp.2 (fun v v1 v2 v3 => ((kx v v2).mp v3).elim (q v v1 v2) (f v (by omega) v2))
          omega
    · by_cases c2 : rj p = y
      · rw [c2]
        obtain ⟨y1, y2⟩ := yp p hp c2
        by_cases z : p = w
        · subst z
          exact ⟨fun ⟨v, v1, v2, v3⟩ => absurd v3 (f v v1 v2), fun _ => Pw⟩
        · exact ⟨fun _ => Pc p c2 (by omega), fun q => absurd b4 (q w (by omega) a4)⟩
      · obtain ⟨o1, o2⟩ := ob p hp c1 c2
        have Pp := P p hp
        rw [Eo p hp c1 c2] at Pp
        exact ⟨fun ⟨v, v1, v2, v3⟩ => Pp.1 ⟨v, v1, v2, ((o2 v v2).mpr v3).trans o1.symm⟩, fun q => Pp.2 (fun v v1 v2 v3 => q v v1 v2 ((o2 v v2).mp (v3.trans o1)))⟩
/-- what a step's last point is, told of k alone -/
theorem cnd_k {n : Nat} {rj rk m : Nat → Nat} {x y t w : Nat} (S : StepR n rj rk x y t w) : ∀ p, rj p = y → p ≤ w → eS rj m y (p + 1) = eS rk m x (p + 1) - eS rk m x (t + 1) := by
  obtain ⟨⟨a1, a2, a3, a4⟩, ⟨b1, b2, b3, b4⟩, c, d, e, f⟩ := S
  have kx : ∀ p, p < n → (rk p = x ↔ rj p = x ∨ rj p = y) := by
    intro p hp
    rw [c p hp]
    by_cases q : rj p = y
    · rw [if_pos q]; exact ⟨fun _ => Or.inr q, fun _ => rfl⟩
    · rw [if_neg q]; exact ⟨fun h => Or.inl h, fun h => h.elim id (fun h => absurd h q)⟩
  intro p h1 h2
  have := d p (by omega)
  rw [eS_two (r := rj) (by omega) (p + 1) (fun q hq => kx q (by omega)), eS_two (r := rj) (by omega) (t + 1) (fun q hq => kx q (by omega)), eS_fl (b := x) (u := t + 1) (v := p + 1) (by omega) (fun q q1 q2 => e q (by omega) (by omega)), eS_fl (b := y) (u := 0) (v := t + 1) (Nat.zero_le _) (fun q _ hq h => by have := d q (by omega); omega)]
  show _ = _ - (_ + (0 : Int))
  omega
