/-! THE MODEL, third part: what crossings are; joined, met, turned, complement -/
def AG (n : Nat) (g g' : Nat → Nat) : Prop := ∀ i, i < n → g i = g' i
theorem lsD_congr {g g' : Nat → Nat} {v : Nat} : ∀ k acc, AG k g g' → lsD g v k acc = lsD g' v k acc := by
  intro k
  induction k with
  | zero => intro _ _; rfl
  | succ k ih => intro acc e; rw [lsD, lsD, e k (by omega)]; exact ih _ (fun i hi => e i (by omega))
theorem cnt_congr {f f' : Nat → Nat} : ∀ n, AG n f f' → cnt f n = cnt f' n := by
  intro n
  induction n with
  | zero => intro _; rfl
  | succ n ih => intro e; rw [cnt, cnt, ih (fun i hi => e i (by omega)), e n (by omega)]
theorem pkR_congr {g g' : Nat → Nat} {n x : Nat} (e : AG n g g') (hx : x < n) : pkR g x = pkR g' x := by rw [pkR, pkR, e x hx]; exact lsD_congr _ _ (fun i hi => e i (by omega))
theorem pkF_congr {g g' : Nat → Nat} {n : Nat} (e : AG n g g') : pkF n g = pkF n g' := cnt_congr n (fun x hx => by rw [pkR_congr e hx])
theorem x4F_congr {n b : Nat} {g g' : Nat → Nat} (e : AG n g g') (hb : b < n) : ∀ k d, d + k = n → x4F g b k d = x4F g' b k d := by
  intro k
  induction k with
  | zero => intro d _; rfl
  | succ k ih => intro d hd; rw [x4F, x4F, ih (d + 1) (by omega), e b hb, e d (by omega)]
theorem x3F_congr {n a b : Nat} {g g' : Nat → Nat} (e : AG n g g') (ha : a < n) (hb : b < n) : ∀ k d, d + k = n → x3F g a b k d = x3F g' a b k d := by
  intro k
  induction k with
  | zero => intro d _; rfl
  | succ k ih => intro d hd; rw [x3F, x3F, ih (d + 1) (by omega), x4F_congr e hb k (d + 1) (by omega), e b hb, e d (by omega), e a ha]
theorem x2F_congr {n a : Nat} {g g' : Nat → Nat} (e : AG n g g') (ha : a < n) : ∀ k d, d + k = n → x2F g a k d = x2F g' a k d := by
  intro k
  induction k with
  | zero => intro d _; rfl
  | succ k ih => intro d hd; rw [x2F, x2F, ih (d + 1) (by omega), x3F_congr e ha (show d < n by omega) k (d + 1) (by omega)]
theorem x1F_congr {n : Nat} {g g' : Nat → Nat} (e : AG n g g') : ∀ k d, d + k = n → x1F g k d = x1F g' k d := by
  intro k
  induction k with
  | zero => intro d _; rfl
  | succ k ih => intro d hd; rw [x1F, x1F, ih (d + 1) (by omega), x2F_congr e (show d < n by omega) k (d + 1) (by omega)]
theorem crsF_congr {n : Nat} {g g' : Nat → Nat} (e : AG n g g') : crsF n g = crsF n g' := x1F_congr e n 0 (by omega)
theorem x4F_iff {g : Nat → Nat} {b : Nat} : ∀ k d, x4F g b k d = true ↔ ∃ e, d ≤ e ∧ e < d + k ∧ g b = g e := by
  intro k
  induction k with
  | zero => intro d; exact ⟨fun q => absurd q (by rw [x4F]; decide), fun ⟨e, q1, q2, _⟩ => by omega⟩
  | succ k ih =>
    intro d
    rw [x4F]
    by_cases c : g b = g d
    · rw [if_pos c]; exact ⟨fun _ => ⟨d, by omega, by omega, c⟩, fun _ => rfl⟩
    · rw [if_neg c, ih]
      exact ⟨fun ⟨e, q1, q2, q3⟩ => ⟨e, by omega, by omega, q3⟩, fun ⟨e, q1, q2, q3⟩ => ⟨e, by rcases Nat.lt_or_ge d e with z | z; omega; exact absurd (show g b = g d by rw [q3, show e = d by omega]) c, by omega, q3⟩⟩
theorem x3F_iff {g : Nat → Nat} {a b : Nat} : ∀ k c, x3F g a b k c = true ↔ g a ≠ g b ∧ ∃ e f, c ≤ e ∧ e < f ∧ f < c + k ∧ g a = g e ∧ g b = g f := by
  intro k
  induction k with
  | zero => intro d; exact ⟨fun q => absurd q (by rw [x3F]; decide), fun ⟨_, e, f, q1, q2, q3, _⟩ => by omega⟩
  | succ k ih =>
    intro d
    rw [x3F]
    by_cases c : g a = g b
    · rw [if_pos c]; exact ⟨fun q => absurd q (by decide), fun q => absurd c q.1⟩
    · rw [if_neg c]
      by_cases c2 : g a = g d ∧ x4F g b k (d + 1) = true
      · rw [if_pos c2]
        obtain ⟨e, q1, q2, q3⟩ := (x4F_iff k (d + 1)).mp c2.2
        exact ⟨fun _ => ⟨c, d, e, by omega, by omega, by omega, c2.1, q3⟩, fun _ => rfl⟩
      · rw [if_neg c2, ih]
        refine ⟨fun ⟨_, e, f, q1, q2, q3, q4, q5⟩ => ⟨c, e, f, by omega, by omega, by omega, q4, q5⟩, fun ⟨_, e, f, q1, q2, q3, q4, q5⟩ => ⟨c, e, f, ?_, q2, by omega, q4, q5⟩⟩
        rcases Nat.lt_or_ge d e with z | z
        · omega
        · have : e = d := by omega
          subst this
          exact absurd ⟨q4, (x4F_iff k (e + 1)).mpr ⟨f, by omega, by omega, q5⟩⟩ c2
/-- a crossing of two groups -/
def Crs (n : Nat) (g : Nat → Nat) (a b : Nat) : Prop := a < b ∧ g a ≠ g b ∧ ∃ e f, b < e ∧ e < f ∧ f < n ∧ g a = g e ∧ g b = g f
theorem x2F_some {g : Nat → Nat} {a : Nat} : ∀ k b n, b + k = n → ∀ z, x2F g a k b = some z → b ≤ z ∧ g a ≠ g z ∧ ∃ e f, z < e ∧ e < f ∧ f < n ∧ g a = g e ∧ g z = g f := by
  intro k
  induction k with
  | zero => intro b n _ z q; rw [x2F] at q; exact absurd q (by simp)
  | succ k ih =>
    intro b n hb z q
    rw [x2F] at q
    by_cases c : x3F g a b k (b + 1) = true
    · rw [if_pos c] at q
      injection q with q
      subst q
      obtain ⟨q0, e, f, q1, q2, q3, q4, q5⟩ := (x3F_iff k (b + 1)).mp c
      exact ⟨Nat.le_refl _, q0, e, f, by omega, q2, by omega, q4, q5⟩
    · rw [if_neg c] at q
      obtain ⟨q0, q1⟩ := ih (b + 1) n (by omega) z q
      exact ⟨by omega, q1⟩
theorem x2F_none {g : Nat → Nat} {a : Nat} : ∀ k b n, b + k = n → x2F g a k b = none → ∀ z, b ≤ z → ¬ (g a ≠ g z ∧ ∃ e f, z < e ∧ e < f ∧ f < n ∧ g a = g e ∧ g z = g f) := by
  intro k
  induction k with
  | zero => intro b n hb _ z hz ⟨_, e, f, q1, q2, q3, _⟩; omega
  | succ k ih =>
    intro b n hb q z hz ⟨q0, e, f, q1, q2, q3, q4, q5⟩
    rw [x2F] at q
    by_cases c : x3F g a b k (b + 1) = true
    · rw [if_pos c] at q; exact absurd q (by simp)
    · rw [if_neg c] at q
      rcases Nat.lt_or_ge b z with w | w
      · exact ih (b + 1) n (by omega) q z w ⟨q0, e, f, q1, q2, q3, q4, q5⟩
      · have : z = b := by omega
        subst this
        exact c ((x3F_iff k (z + 1)).mpr ⟨q0, e, f, by omega, q2, by omega, q4, q5⟩)
theorem x1F_some {g : Nat → Nat} : ∀ k a n, a + k = n → ∀ w z, x1F g k a = some (w, z) → Crs n g w z := by
  intro k
  induction k with
  | zero => intro a n _ w z q; rw [x1F] at q; exact absurd q (by simp)
  | succ k ih =>
    intro a n ha w z q
    rw [x1F] at q
    rcases c : x2F g a k (a + 1) with _ | b
    · rw [c] at q
      exact ih (a + 1) n (by omega) w z q
    · rw [c] at q
      injection q with q
      injection q with e1 e2
      subst e1 e2
      obtain ⟨q0, q1, q2⟩ := x2F_some k (a + 1) n (by omega) b c
      exact ⟨by omega, q1, q2⟩
theorem x1F_none {g : Nat → Nat} : ∀ k a n, a + k = n → x1F g k a = none → ∀ w z, a ≤ w → ¬ Crs n g w z := by
  intro k
  induction k with
  | zero => intro a n _ _ w z hw ⟨q0, _, e, f, q1, q2, q3, _⟩; omega
  | succ k ih =>
    intro a n ha q w z hw ⟨q0, q1, q2⟩
    rw [x1F] at q
    rcases c : x2F g a k (a + 1) with _ | b
    · rw [c] at q
      rcases Nat.lt_or_ge a w with y | y
      · exact ih (a + 1) n (by omega) q w z y ⟨q0, q1, q2⟩
      · have : w = a := by omega
        subst this
        exact x2F_none k (w + 1) n (by omega) c z (by omega) ⟨q1, q2⟩
    · rw [c] at q; exact absurd q (by simp)
theorem crs_some {n a b : Nat} {g : Nat → Nat} (q : crsF n g = some (a, b)) : Crs n g a b := x1F_some n 0 n (by omega) a b q
theorem crs_none {n : Nat} {g : Nat → Nat} (q : crsF n g = none) (a b : Nat) : ¬ Crs n g a b := x1F_none n 0 n (by omega) q a b (by omega)
/-- so many points that are least of their group -/
def lstB (g : Nat → Nat) (x : Nat) : Bool := alln (fun y => !(g y == g x)) x
def dsF (n : Nat) (g : Nat → Nat) : Nat := cnt (fun x => b01 (lstB g x)) n
theorem cnt_le {f f' : Nat → Nat} : ∀ n, (∀ i, i < n → f i ≤ f' i) → cnt f n ≤ cnt f' n := by
  intro n
  induction n with
  | zero => intro _; exact Nat.le_refl _
  | succ n ih => intro e; have := ih (fun i hi => e i (by omega)); have := e n (by omega); rw [cnt, cnt]; omega
theorem cnt_lt {f f' : Nat → Nat} {j : Nat} : ∀ n, j < n → (∀ i, i < n → f i ≤ f' i) → f j < f' j → cnt f n < cnt f' n := by
  intro n
  induction n with
  | zero => intro h; omega
  | succ n ih =>
    intro hj e w
    rw [cnt, cnt]
    have e1 := e n (by omega)
    rcases Nat.lt_or_ge j n with z | z
    · have := ih z (fun i hi => e i (by omega)) w; omega
    · have : j = n := by omega
      subst this
      have := @cnt_le f f' j (fun i hi => e i (by omega))
      omega
theorem lstB_iff {g : Nat → Nat} {x : Nat} : lstB g x = true ↔ ∀ y, y < x → g y ≠ g x := by
  rw [lstB, alln_iff]
  exact ⟨fun q y hy e => by have := q y hy; rw [e] at this; simp at this, fun q y hy => by have := q y hy; simp [this]⟩
theorem mrgF_i {g : Nat → Nat} {n a b i : Nat} (hn : n ≤ 8) (hi : i < n) : mrgF g a b i = if g i = b then a else g i := by
  unfold mrgF
  by_cases c : g i = b
  · rw [if_pos ⟨by omega, c⟩, if_pos c]
  · rw [if_neg (fun q => c q.2), if_neg c]
theorem least_of {g : Nat → Nat} : ∀ x, ∃ y, y ≤ x ∧ g y = g x ∧ lstB g y = true := by
  intro x
  induction x using Nat.strongRecOn with
  | ind x ih =>
    by_cases c : lstB g x = true
    · exact ⟨x, Nat.le_refl _, rfl, c⟩
    · have : ¬ ∀ y, y < x → g y ≠ g x := fun q => c (lstB_iff.mpr q)
      have ⟨y, hy⟩ := Classical.not_forall.mp this
      have ⟨h1, h2⟩ := Classical.not_imp.mp hy
      have h2 := Classical.not_not.mp h2
      obtain ⟨z, z1, z2, z3⟩ := ih y h1
      exact ⟨z, by omega, by rw [z2, h2], z3⟩
theorem dsF_mrg {n a b : Nat} {g : Nat → Nat} (hn : n ≤ 8) (ha : a < n) (hb : b < n) (hab : g a ≠ g b) : dsF n (mrgF g (g a) (g b)) < dsF n g := by
  have sub : ∀ x, x < n → lstB (mrgF g (g a) (g b)) x = true → lstB g x = true := by
    intro x hx q
    rw [lstB_iff] at q ⊢
    intro y hy e
    refine q y hy ?_
    rw [mrgF_i hn (show y < n by omega), mrgF_i hn hx, e]
  have hle : ∀ i, i < n → b01 (lstB (mrgF g (g a) (g b)) i) ≤ b01 (lstB g i) := by
    intro i hi
    rcases c : lstB (mrgF g (g a) (g b)) i
    · exact Nat.zero_le _
    · rw [sub i hi c]; exact Nat.le_refl _
  obtain ⟨p, p1, p2, p3⟩ := @least_of g a
  obtain ⟨q, q1, q2, q3⟩ := @least_of g b
  have key : ∀ u v, u < v → v < n → (g u = g a ∨ g u = g b) → (g v = g a ∨ g v = g b) → lstB g v = true → dsF n (mrgF g (g a) (g b)) < dsF n g := by
    intro u v huv hv c1 c2 c3
    refine @cnt_lt _ _ v n hv hle ?_
    have : lstB (mrgF g (g a) (g b)) v = false := by
      rcases c : lstB (mrgF g (g a) (g b)) v
      · rfl
      · have := lstB_iff.mp c u huv
        rw [mrgF_i hn (show u < n by omega), mrgF_i hn hv] at this
        rcases c1 with c1 | c1 <;> rcases c2 with c2 | c2 <;> simp [c1, c2] at this
    show b01 (lstB (mrgF g (g a) (g b)) v) < b01 (lstB g v)
    rw [this, c3]
    decide
  have hpq : p ≠ q := fun e => hab (by rw [← p2, ← q2, e])
  rcases Nat.lt_or_gt_of_ne hpq with z | z
  · exact key p q z (by omega) (Or.inl p2) (Or.inr q2) q3
  · exact key q p z (by omega) (Or.inr q2) (Or.inl p2) p3
theorem dsF_le (n : Nat) (g : Nat → Nat) : dsF n g ≤ n := by
  have : ∀ m, cnt (fun x => b01 (lstB g x)) m ≤ m := by
    intro m
    induction m with
    | zero => exact Nat.le_refl _
    | succ m ih => rw [cnt]; have := b01_lt (lstB g m); omega
  exact this n
/-- crossings united until none is left -/
def xiF (n : Nat) : Nat → (Nat → Nat) → (Nat → Nat)
  | 0, g => g
  | m + 1, g => match crsF n g with | none => g | some (a, b) => xiF n m (mrgF g (g a) (g b))
theorem xi_none {n : Nat} (hn : n ≤ 8) : ∀ m g, dsF n g ≤ m → crsF n (xiF n m g) = none := by
  intro m
  induction m with
  | zero =>
    intro g hg
    rw [xiF]
    rcases c : crsF n g with _ | ⟨a, b⟩
    · rfl
    · obtain ⟨q0, q1, e, f, q2, q3, q4, -⟩ := crs_some c
      have := dsF_mrg hn (show a < n by omega) (show b < n by omega) q1
      omega
  | succ m ih =>
    intro g hg
    rw [xiF]
    rcases c : crsF n g with _ | ⟨a, b⟩
    · exact c
    · obtain ⟨q0, q1, e, f, q2, q3, q4, -⟩ := crs_some c
      have := dsF_mrg hn (show a < n by omega) (show b < n by omega) q1
      exact ih _ (by omega)
theorem AG.mrg {n a b : Nat} {g g' : Nat → Nat} (hn : n ≤ 8) (e : AG n g g') (ha : a < n) (hb : b < n) : AG n (mrgF g (g a) (g b)) (mrgF g' (g' a) (g' b)) := by
  intro i hi
  rw [mrgF_i hn hi, mrgF_i hn hi, e i hi, e a ha, e b hb]
theorem mrg_lt {a b : Nat} {g : Nat → Nat} (h : ∀ i, i < 8 → g i < 64) (ha : a < 64) : ∀ i, i < 8 → mrgF g a b i < 64 := by
  intro i hi
  unfold mrgF
  split
  · exact ha
  · exact h i hi
