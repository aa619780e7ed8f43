/-! MATHEMATICS 2: meets, rotations, cycles -/
theorem fnd_spec {p : Nat → Bool} {d : Nat} : ∀ k s, (∃ y, s ≤ y ∧ y < s + k ∧ p y = true ∧ (∀ z, s ≤ z → z < y → p z = false) ∧ fnd p d k s = y) ∨ ((∀ y, s ≤ y → y < s + k → p y = false) ∧ fnd p d k s = d) := by
  intro k
  induction k with
  | zero => intro s; exact Or.inr ⟨fun y h1 h2 => by omega, rfl⟩
  | succ k ih =>
    intro s
    rw [fnd]
    rcases e : p s
    · rcases ih (s + 1) with ⟨y, h1, h2, h3, h4, h5⟩ | ⟨h1, h2⟩
      · refine Or.inl ⟨y, by omega, by omega, h3, fun z z1 z2 => ?_, by simpa using h5⟩
        rcases Nat.lt_or_ge s z with w | w
        · exact h4 z w z2
        · rw [show z = s by omega]; exact e
      · refine Or.inr ⟨fun y y1 y2 => ?_, by simpa using h2⟩
        rcases Nat.lt_or_ge s y with w | w
        · exact h1 y w (by omega)
        · rw [show y = s by omega]; exact e
    · exact Or.inl ⟨s, by omega, by omega, e, fun z z1 z2 => by omega, by simp⟩
theorem meetF_eq {ra rb g : Nat → Nat} {n x : Nat} (hx : x < n) (h : ∀ y, y ≤ x → (g y = g x ↔ ra y = ra x ∧ rb y = rb x)) : meetF ra rb n x = pkR g x := by
  rw [meetF, if_pos hx]
  have a1 := pkR_le g x
  have a2 := (h _ a1).mp (pkR_g g x)
  rcases @fnd_spec (fun y => ra x == ra y && rb x == rb y) x x 0 with ⟨y, h1, h2, h3, h4, h5⟩ | ⟨h1, h2⟩
  · rw [h5]
    rw [Bool.and_eq_true, beq_iff_eq, beq_iff_eq] at h3
    have b1 := pkR_min g x y (by omega) ((h y (by omega)).mpr ⟨h3.1.symm, h3.2.symm⟩)
    rcases Nat.lt_or_ge (pkR g x) y with z | z
    · have := h4 _ (by omega) z
      rw [a2.1, a2.2] at this
      simp at this
    · omega
  · rw [h2]
    rcases Nat.lt_or_ge (pkR g x) x with z | z
    · have := h1 (pkR g x) (by omega) (by omega)
      rw [a2.1, a2.2] at this
      simp at this
    · omega
theorem mk_iff {a b c d : Nat} (h1 : b < 8) (h2 : d < 8) : 8 * a + b = 8 * c + d ↔ a = c ∧ b = d := by omega
theorem meM_good {n a b : Nat} (hn : n ≤ 8) (ga : GdC n a) (gb : GdC n b) : GdC n (meM n a b) := by
  refine GdC_pk hn ?_
  intro p q r s h1 h2 h3 h4 h5 h6
  rw [mk_iff (rw8_lt _ _) (rw8_lt _ _)] at h5 h6 ⊢
  exact ⟨ga.nc p q r s h1 h2 h3 h4 h5.1 h6.1, gb.nc p q r s h1 h2 h3 h4 h5.2 h6.2⟩
theorem meM_rel {n a b x y : Nat} (hn : n ≤ 8) (hx : x < n) (hy : y < n) : rw8 (meM n a b) x = rw8 (meM n a b) y ↔ rw8 a x = rw8 a y ∧ rw8 b x = rw8 b y := by
  rw [meM, pk_rel hn hx hy, mk_iff (rw8_lt _ _) (rw8_lt _ _)]
theorem meC_eq {n a b : Nat} (hn : n ≤ 8) (ga : GdC n a) (gb : GdC n b) : meC n a b = meM n a b := by
  refine enc_eq hn (meM_good hn ga gb) (fun x hx => ?_)
  rw [meM, rw8_pk hn hx]
  refine meetF_eq hx (fun y hy => ?_)
  rw [mk_iff (rw8_lt _ _) (rw8_lt _ _), cr_rw8 hx, cr_rw8 hx, cr_rw8 (by omega), cr_rw8 (by omega)]
theorem me_le1 {n a b : Nat} (hn : n ≤ 8) : Le n (meM n a b) a := fun _ _ hx hy h => ((meM_rel hn hx hy).mp h).1
theorem me_le2 {n a b : Nat} (hn : n ≤ 8) : Le n (meM n a b) b := fun _ _ hx hy h => ((meM_rel hn hx hy).mp h).2
theorem le_me {n a b c : Nat} (hn : n ≤ 8) (h1 : Le n c a) (h2 : Le n c b) : Le n c (meM n a b) := fun x y hx hy h => (meM_rel hn hx hy).mpr ⟨h1 x y hx hy h, h2 x y hx hy h⟩
/-! rotations -/
theorem tuM_rel {n a x y : Nat} (hn : n ≤ 8) (hx : x < n) (hy : y < n) : rw8 (tuM n a) x = rw8 (tuM n a) y ↔ rw8 a (bfo n x) = rw8 a (bfo n y) := by rw [tuM, pk_rel hn hx hy]
theorem tuM_good {n a : Nat} (hn : n ≤ 8) (ga : GdC n a) : GdC n (tuM n a) := by
  refine GdC_pk hn ?_
  intro p q r s h1 h2 h3 h4 h5 h6
  have h5 : rw8 a (bfo n p) = rw8 a (bfo n r) := h5
  have h6 : rw8 a (bfo n q) = rw8 a (bfo n s) := h6
  show rw8 a (bfo n p) = rw8 a (bfo n q)
  have e1 : bfo n q = q - 1 := by unfold bfo; rw [if_neg (by omega)]
  have e2 : bfo n r = r - 1 := by unfold bfo; rw [if_neg (by omega)]
  have e3 : bfo n s = s - 1 := by unfold bfo; rw [if_neg (by omega)]
  rw [e2] at h5
  rw [e1, e3] at h6
  rw [e1]
  by_cases e : p = 0
  · have e4 : bfo n p = n - 1 := by unfold bfo; rw [if_pos e]
    rw [e4] at h5 ⊢
    rw [h5]
    exact (ga.nc (q - 1) (r - 1) (s - 1) (n - 1) (by omega) (by omega) (by omega) (by omega) h6 h5.symm).symm
  · have e4 : bfo n p = p - 1 := by unfold bfo; rw [if_neg e]
    rw [e4] at h5 ⊢
    exact ga.nc (p - 1) (q - 1) (r - 1) (s - 1) (by omega) (by omega) (by omega) (by omega) h5 h6
theorem tu_mono {n a b : Nat} (hn : n ≤ 8) (h : Le n a b) : Le n (tuM n a) (tuM n b) := fun x y hx hy e => (tuM_rel hn hx hy).mpr (h _ _ (bfo_lt hx) (bfo_lt hy) ((tuM_rel hn hx hy).mp e))
/-! cycles: where the steps are those to the next point of a block, the blocks come back -/
theorem next_spec {r : Nat → Nat} {n x : Nat} (hx : x < n) : (∃ y, x < y ∧ y < n ∧ r y = r x ∧ (∀ z, x < z → z < y → r z ≠ r x) ∧ nextF r n x = y) ∨ ((∀ y, x < y → y < n → r y ≠ r x) ∧ nextF r n x = r x) := by
  unfold nextF
  rcases @fnd_spec (fun y => r x == r y) (r x) (n - (x + 1)) (x + 1) with ⟨y, h1, h2, h3, h4, h5⟩ | ⟨h1, h2⟩
  · refine Or.inl ⟨y, by omega, by omega, (beq_iff_eq.mp h3).symm, fun z z1 z2 e => ?_, h5⟩
    have := h4 z z1 z2
    rw [e] at this
    simp at this
  · refine Or.inr ⟨fun y y1 y2 e => ?_, h2⟩
    have := h1 y y1 (by omega)
    rw [e] at this
    simp at this
theorem cycI_next {r s : Nat → Nat} {n x : Nat} (hs : ∀ y, y < n → s y = nextF r n y) : ∀ j y R, r y = x → x < y → y < n → n ≤ y + j → cycI s x j y R = fun i => if r i = x ∧ y ≤ i ∧ i < n then x else R i := by
  intro j
  induction j with
  | zero => intro y R h1 h2 h3 h4; omega
  | succ j ih =>
    intro y R h1 h2 h3 h4
    rw [cycI, if_neg (by omega), hs y h3]
    rcases @next_spec r n y h3 with ⟨z, z1, z2, z3, z4, z5⟩ | ⟨z1, z2⟩
    · rw [z5, ih z (upN R y x) (by rw [z3, h1]) (by omega) z2 (by omega)]
      funext i
      by_cases c : r i = x ∧ z ≤ i ∧ i < n
      · rw [if_pos c, if_pos ⟨c.1, by omega, c.2.2⟩]
      · rw [if_neg c]
        unfold upN
        by_cases e : i = y
        · rw [if_pos e, if_pos ⟨by rw [e, h1], by omega, by omega⟩]
        · rw [if_neg e, if_neg]
          intro ⟨q1, q2, q3⟩
          rcases Nat.lt_or_ge i z with w | w
          · exact z4 i (by omega) w (by rw [q1, h1])
          · exact c ⟨q1, w, q3⟩
    · rw [z2, h1]
      have : cycI s x j x (upN R y x) = upN R y x := by
        cases j with
        | zero => rfl
        | succ j => rw [cycI, if_pos rfl]
      rw [this]
      funext i
      unfold upN
      by_cases e : i = y
      · rw [if_pos e, if_pos ⟨by rw [e, h1], by omega, by omega⟩]
      · rw [if_neg e, if_neg]
        intro ⟨q1, q2, q3⟩
        exact z1 i (by omega) q3 (by rw [q1, h1])
theorem cyc_next {r s : Nat → Nat} {n : Nat} (hn : n ≤ 8) (hs : ∀ y, y < n → s y = nextF r n y) (hr : ∀ x, x < n → r x ≤ x ∧ r (r x) = r x) : ∀ x, x < n → cycF s n x = r x := by
  have L : ∀ m, m ≤ n → ∀ i, i < n → cycO s n m i = if r i < m then r i else i := by
    intro m
    induction m with
    | zero => intro _ i hi; rw [cycO, if_neg (by omega), idn, if_pos (by omega)]
    | succ m ih =>
      intro hm i hi
      have ih := ih (by omega)
      have rm := hr m (by omega)
      have ri := hr i hi
      rw [cycO]
      have em : cycO s n m m = m ↔ r m = m := by
        rw [ih m (by omega)]
        by_cases c : r m < m
        · rw [if_pos c]
        · rw [if_neg c]; exact ⟨fun _ => by omega, fun _ => rfl⟩
      by_cases c : r m = m
      · rw [if_pos (em.mpr c), hs m (by omega)]
        rcases @next_spec r n m (by omega) with ⟨z, z1, z2, z3, z4, z5⟩ | ⟨z1, z2⟩
        · rw [z5, cycI_next hs (n - 1) z _ (by rw [z3, c]) z1 z2 (by omega)]
          show (if r i = m ∧ z ≤ i ∧ i < n then m else cycO s n m i) = _
          rw [ih i hi]
          by_cases d : r i = m ∧ z ≤ i ∧ i < n
          · rw [if_pos d, if_pos (by omega), d.1]
          · rw [if_neg d]
            by_cases d2 : r i < m
            · rw [if_pos d2, if_pos (by omega)]
            · rw [if_neg d2]
              by_cases d3 : r i < m + 1
              · rw [if_pos d3]
                have e3 : r i = m := by omega
                rcases Nat.lt_or_ge i z with w | w
                · rcases Nat.lt_or_ge m i with w2 | w2
                  · exact absurd (by rw [e3, c]) (z4 i w2 w)
                  · omega
                · exact absurd ⟨e3, w, hi⟩ d
              · rw [if_neg d3]
        · rw [z2, c]
          have : cycI s m (n - 1) m (cycO s n m) = cycO s n m := by
            cases n - 1 with
            | zero => rfl
            | succ j => rw [cycI, if_pos rfl]
          rw [this, ih i hi]
          by_cases d2 : r i < m
          · rw [if_pos d2, if_pos (by omega)]
          · rw [if_neg d2]
            by_cases d3 : r i < m + 1
            · rw [if_pos d3]
              have e3 : r i = m := by omega
              rcases Nat.lt_or_ge m i with w2 | w2
              · exact absurd (by rw [e3, c]) (z1 i w2 hi)
              · omega
            · rw [if_neg d3]
      · rw [if_neg (fun q => c (em.mp q)), ih i hi]
        by_cases d2 : r i < m
        · rw [if_pos d2, if_pos (by omega)]
        · rw [if_neg d2, if_neg]
          intro q
          have e3 : r i = m := by omega
          have := ri.2
          rw [e3] at this
          exact c this
  intro x hx
  have h := hr x hx
  rw [cycF, L n (Nat.le_refl _) x hx, if_pos (by omega)]
/-! next and previous points, read fast -/
def nxQ (c d x : Nat) : Nat → Nat → Nat
  | 0, _ => d
  | k + 1, y => cond (Nat.beq (rwQ c x) (rwQ c y)) y (nxQ c d x k (Nat.succ y))
def nextQ (n c x : Nat) : Nat := nxQ c (rwQ c x) x (Nat.sub n (Nat.succ x)) (Nat.succ x)
def pvQ (c d x : Nat) : Nat → Nat → Nat
  | 0, _ => d
  | k + 1, y => cond (Nat.beq (rwQ c x) (rwQ c y)) y (pvQ c d x k (Nat.sub y 1))
def prevQ (n c x : Nat) : Nat := pvQ c (pvQ c x x (Nat.sub (Nat.sub n 1) x) (Nat.sub n 1)) x x (Nat.sub x 1)
def aftQ (n x : Nat) : Nat := cond (Nat.ble (Nat.succ (Nat.succ x)) n) (Nat.succ x) 0
theorem aftQ_eq (n x : Nat) : aftQ n x = aft n x := by
  unfold aftQ aft
  by_cases c : x + 1 < n
  · rw [if_pos c, Nat.ble_eq_true_of_le c]; rfl
  · rw [if_neg c]
    rcases e : Nat.ble (Nat.succ (Nat.succ x)) n
    · rfl
    · exact absurd (Nat.le_of_ble_eq_true e) c
theorem nxQ_eq {n c d x : Nat} (hx : x < n) : ∀ k y, y + k ≤ n → nxQ c d x k y = fnd (fun y => cr n c x == cr n c y) d k y := by
  intro k
  induction k with
  | zero => intro y _; rfl
  | succ k ih =>
    intro y hy
    rw [nxQ, fnd, ih (y + 1) (by omega), cr_rw8 hx, cr_rw8 (by omega), rwQ_eq, rwQ_eq, nb_eq]
    by_cases e : rw8 c x = rw8 c y <;> simp [e]
theorem nextQ_eq {n c x : Nat} (hx : x < n) : nextQ n c x = nextF (cr n c) n x := by
  unfold nextQ nextF
  rw [show Nat.sub n (Nat.succ x) = n - (x + 1) from rfl, show Nat.succ x = x + 1 from rfl, nxQ_eq hx (n - (x + 1)) (x + 1) (by omega), rwQ_eq, cr_rw8 hx]
theorem pvQ_eq {n c d x : Nat} (hx : x < n) : ∀ k y, y < n → pvQ c d x k y = fndD (fun y => cr n c x == cr n c y) d k y := by
  intro k
  induction k with
  | zero => intro y _; rfl
  | succ k ih =>
    intro y hy
    rw [pvQ, fndD, show Nat.sub y 1 = y - 1 from rfl, ih (y - 1) (by omega), cr_rw8 hx, cr_rw8 hy, rwQ_eq, rwQ_eq, nb_eq]
    by_cases e : rw8 c x = rw8 c y <;> simp [e]
theorem prevQ_eq {n c x : Nat} (hx : x < n) : prevQ n c x = prevF (cr n c) n x := by
  unfold prevQ prevF
  rw [show Nat.sub (Nat.sub n 1) x = n - 1 - x from rfl, show Nat.sub n 1 = n - 1 from rfl, show Nat.sub x 1 = x - 1 from rfl, pvQ_eq hx x (x - 1) (by omega), pvQ_eq hx (n - 1 - x) (n - 1) (by omega)]
/-- a class's cycles, where its steps are a good code's -/
theorem cyc_code {n d : Nat} {s : Nat → Nat} (hn : n ≤ 8) (g : GdC n d) (hs : ∀ y, y < n → s y = nextF (cr n d) n y) : enc (cycF s n) n = d := by
  refine enc_eq hn g (fun x hx => ?_)
  rw [cyc_next hn hs (fun x hx => ?_) x hx, cr_rw8 hx]
  rw [cr_rw8 hx, cr_rw8 (g.lt hx)]
  exact ⟨g.le hx, g.idem hx⟩
