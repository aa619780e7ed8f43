/-! MATHEMATICS 15: covers and marks -/
theorem cnt_lt2 {f f' : Nat → Nat} {j k n : Nat} (hj : j < n) (hk : k < n) (hjk : j ≠ k) (h : ∀ i, i < n → f i ≤ f' i) (h1 : f j < f' j) (h2 : f k < f' k) : cnt f n + 2 ≤ cnt f' n := by
  have a1 : cnt f n < cnt (fun i => if i = j then f' i else f i) n := by
    refine cnt_lt (j := j) n hj (fun i hi => ?_) ?_
    · by_cases e : i = j
      · rw [if_pos e]; exact h i hi
      · rw [if_neg e]; exact Nat.le_refl _
    · rw [if_pos rfl]; exact h1
  have a2 : cnt (fun i => if i = j then f' i else f i) n < cnt f' n := by
    refine cnt_lt (j := k) n hk (fun i hi => ?_) ?_
    · by_cases e : i = j
      · rw [if_pos e]; exact Nat.le_refl _
      · rw [if_neg e]; exact h i hi
    · rw [if_neg (fun e => hjk e.symm)]; exact h2
  omega
section MF
variable {n a b c d : Nat} {X : aX}
/-- a cover: two blocks are made one -/
theorem cov_str (ga : GdC n a) (gb : GdC n b) (h : Le n a b) (hr : rkM n b = rkM n a + 1) : ∃ x y, x < y ∧ y < n ∧ rw8 a x = x ∧ rw8 a y = y ∧ (∀ p, p < n → rw8 b p = if rw8 a p = y then x else rw8 a p) := by
  have mono : ∀ i, i < n → (if rw8 a i = i then 0 else 1) ≤ (if rw8 b i = i then 0 else 1) := by
    intro i hi
    have := low_le ga gb h hi
    have := ga.le hi
    by_cases e : rw8 a i = i
    · rw [if_pos e]; exact Nat.zero_le _
    · rw [if_neg e, if_neg (by omega)]; exact Nat.le_refl _
  have ex : ∃ y, y < n ∧ rw8 a y = y ∧ rw8 b y ≠ y := by
    rcases Classical.em (∃ y, y < n ∧ rw8 a y = y ∧ rw8 b y ≠ y) with q | q
    · exact q
    · exfalso
      have : rkM n b ≤ rkM n a := by
        refine cnt_le n (fun i hi => ?_)
        by_cases e : rw8 b i = i
        · rw [if_pos e]; exact Nat.zero_le _
        · rw [if_neg e, if_neg (fun e2 => q ⟨i, hi, e2, e⟩)]; exact Nat.le_refl _
      omega
  obtain ⟨y, hy, ya, yb⟩ := ex
  have un : ∀ z, z < n → rw8 a z = z → rw8 b z ≠ z → z = y := by
    intro z hz za zb
    rcases Nat.decEq z y with e | e
    · exfalso
      have : rkM n a + 2 ≤ rkM n b := cnt_lt2 (j := z) (k := y) hz hy e mono (by show (if rw8 a z = z then 0 else 1) < (if rw8 b z = z then 0 else 1); rw [if_pos za, if_neg zb]; exact Nat.zero_lt_one) (by show (if rw8 a y = y then 0 else 1) < (if rw8 b y = y then 0 else 1); rw [if_pos ya, if_neg yb]; exact Nat.zero_lt_one)
      omega
    · exact e
  have xl := gb.le hy
  have xn := gb.lt hy
  have xi := gb.idem hy
  have xa : rw8 a (rw8 b y) = rw8 b y := by
    have q1 := low_le ga gb h xn
    have q2 := ga.le xn
    omega
  refine ⟨rw8 b y, y, by omega, hy, xa, ya, fun p hp => ?_⟩
  have e := h _ _ (ga.lt hp) hp (ga.idem hp)
  by_cases c1 : rw8 a p = y
  · rw [if_pos c1, ← e, c1]
  · rw [if_neg c1, ← e]
    rcases Nat.decEq (rw8 b (rw8 a p)) (rw8 a p) with z | z
    · exact absurd (un _ (ga.lt hp) (ga.idem hp) z) c1
    · exact z
theorem lstF_at {p : Nat → Bool} {y : Nat} : ∀ n, y < n → p y = true → (∀ z, z < n → p z = true → z = y) → lstF p n = y
  | 0, h, _, _ => by omega
  | n + 1, h, h1, h2 => by
    unfold lstF
    by_cases e : p n = true
    · rw [if_pos e]; exact h2 n (by omega) e
    · rw [if_neg e]
      have : y ≠ n := fun q => e (by rw [← q]; exact h1)
      exact lstF_at n (by omega) h1 (fun z hz => h2 z (by omega))
theorem fndD_spec {p : Nat → Bool} {d : Nat} : ∀ k s, k = s + 1 → (∃ y, y ≤ s ∧ p y = true ∧ (∀ z, y < z → z ≤ s → p z = false) ∧ fndD p d k s = y) ∨ ((∀ y, y ≤ s → p y = false) ∧ fndD p d k s = d)
  | 0, s, h => by omega
  | k + 1, s, h => by
    rw [fndD]
    rcases e : p s
    · cases s with
      | zero =>
        obtain rfl : k = 0 := by omega
        exact Or.inr ⟨fun y hy => by rw [show y = 0 by omega]; exact e, rfl⟩
      | succ s =>
        rcases fndD_spec (p := p) (d := d) k s (by omega) with ⟨y, h1, h2, h3, h4⟩ | ⟨h1, h2⟩
        · refine Or.inl ⟨y, by omega, h2, fun z z1 z2 => ?_, by simpa using h4⟩
          rcases Nat.lt_or_ge s z with w | w
          · rw [show z = s + 1 by omega]; exact e
          · exact h3 z z1 w
        · refine Or.inr ⟨fun y hy => ?_, by simpa using h2⟩
          rcases Nat.lt_or_ge s y with w | w
          · rw [show y = s + 1 by omega]; exact e
          · exact h1 y w
    · exact Or.inl ⟨s, Nat.le_refl _, e, fun z z1 z2 => by omega, by simp⟩
theorem lblI_spec {r : Nat → Nat} {first d : Nat} : ∀ k, (∃ i, i < k ∧ r (first + i) = first ∧ (∀ z, i < z → z < k → r (first + z) ≠ first) ∧ lblI r first d k = first + i) ∨ ((∀ i, i < k → r (first + i) ≠ first) ∧ lblI r first d k = d)
  | 0 => Or.inr ⟨fun i hi => by omega, rfl⟩
  | k + 1 => by
    rw [lblI]
    by_cases e : r (first + k) = first
    · rw [if_pos (by rw [e]; exact beq_self_eq_true _)]
      exact Or.inl ⟨k, by omega, e, fun z z1 z2 => by omega, rfl⟩
    · rw [if_neg (by rw [beq_iff_eq]; exact e)]
      rcases lblI_spec (r := r) (first := first) (d := d) k with ⟨i, h1, h2, h3, h4⟩ | ⟨h1, h2⟩
      · refine Or.inl ⟨i, by omega, h2, fun z z1 z2 => ?_, h4⟩
        rcases Nat.lt_or_ge z k with w | w
        · exact h3 z z1 w
        · rw [show z = k by omega]; exact e
      · refine Or.inr ⟨fun i hi => ?_, h2⟩
        rcases Nat.lt_or_ge i k with w | w
        · exact h1 i w
        · rw [show i = k by omega]; exact e
/-- the mark of a cover: the greatest point of the first block below the second one's least -/
theorem mk_spec {x y : Nat} (ga : GdC n a) (hxy : x < y) (hy : y < n) (xa : rw8 a x = x) (ya : rw8 a y = y) (hb : ∀ p, p < n → rw8 b p = if rw8 a p = y then x else rw8 a p) : x ≤ mkM n a b ∧ mkM n a b < y ∧ rw8 a (mkM n a b) = x ∧ ∀ z, mkM n a b < z → z < y → rw8 a z ≠ x := by
  have by_ : rw8 b y = x := by rw [hb y hy, if_pos ya]
  have un : ∀ z, z < n → rw8 a z = z → rw8 b z ≠ z → z = y := by
    intro z hz z1 z2
    rcases Nat.decEq z y with e | e
    · rw [hb z hz, z1, if_neg e] at z2; exact absurd rfl z2
    · exact e
  have m1 : mk1 n a b = y := by
    unfold mk1
    rcases @fnd_spec (fun s => decide (rw8 a s = s) && !decide (rw8 b s = s)) n n 0 with ⟨s, h1, h2, h3, h4, h5⟩ | ⟨h1, h2⟩
    · rw [h5]
      rw [Bool.and_eq_true, Bool.not_eq_true', decide_eq_true_iff, decide_eq_false_iff_not] at h3
      exact un s (by omega) h3.1 h3.2
    · have := h1 y (by omega) (by omega)
      rw [decide_eq_true ya, decide_eq_false (by omega)] at this
      exact absurd this (by decide)
  unfold mkM
  rw [m1]
  rcases @fndD_spec (fun m => decide (rw8 a m = rw8 b y)) 0 y (y - 1) (by omega) with ⟨m, h1, h2, h3, h4⟩ | ⟨h1, h2⟩
  · rw [h4]
    rw [decide_eq_true_iff, by_] at h2
    refine ⟨?_, by omega, h2, fun z z1 z2 e => ?_⟩
    · rw [← h2]; exact ga.le (by omega)
    · have := h3 z z1 (by omega)
      rw [by_, decide_eq_false_iff_not] at this
      exact this e
  · have := h1 x (by omega)
    rw [by_, xa, decide_eq_true rfl] at this
    cases this
theorem mark_eq (ga : GdC n a) (gb : GdC n b) (h : Le n a b) (hr : rkM n b = rkM n a + 1) : lblF (cr n a) (cr n b) n = mkM n a b := by
  obtain ⟨x, y, hxy, hy, xa, ya, hb⟩ := cov_str ga gb h hr
  obtain ⟨m1, m2, m3, m4⟩ := mk_spec ga hxy hy xa ya hb
  have by_ : rw8 b y = x := by rw [hb y hy, if_pos ya]
  have s : lstF (fun x => cr n a x == x && !(cr n b x == x)) n = y := by
    refine lstF_at n hy ?_ (fun z hz e => ?_)
    · show (cr n a y == y && !(cr n b y == y)) = true
      rw [cr_rw8 hy, cr_rw8 hy, ya, by_]
      simp
      omega
    · have e : (cr n a z == z && !(cr n b z == z)) = true := e
      rw [cr_rw8 hz, cr_rw8 hz] at e
      simp at e
      rcases Nat.decEq z y with q | q
      · exact absurd (by rw [hb z hz, e.1, if_neg q]) e.2
      · exact q
  unfold lblF
  rw [s]
  dsimp only
  rw [cr_rw8 hy, by_]
  rcases @lblI_spec (cr n a) x x (y - x) with ⟨i, h1, h2, h3, h4⟩ | ⟨h1, h2⟩
  · rw [h4]
    rw [cr_rw8 (by omega)] at h2
    rcases Nat.lt_trichotomy (x + i) (mkM n a b) with z | z | z
    · have := h3 (mkM n a b - x) (by omega) (by omega)
      rw [show x + (mkM n a b - x) = mkM n a b by omega, cr_rw8 (by omega)] at this
      exact absurd m3 this
    · exact z
    · exact absurd h2 (m4 _ z (by omega))
  · have := h1 0 (by omega)
    rw [Nat.add_zero, cr_rw8 (by omega)] at this
    exact absurd xa this
theorem E_mark (g : GdX X) (s t : Int32) : markR X s t = markM X s t := by
  unfold markR markM
  by_cases c : (inB 6 s && inB 6 t) = true
  · rw [if_pos c, if_pos c]
    rw [Bool.and_eq_true] at c
    have ga := g.1.2.2.1 _ (inB_cl (by omega) c.1)
    have gb := g.1.2.2.1 _ (inB_cl (by omega) c.2)
    rw [und_eq ga, rank_eq, rank_eq]
    have e : (blM X.1.1 (X.1.2.1 (cl s)) (X.1.2.1 (cl t)) && (rkM X.1.1 (X.1.2.1 (cl t)) == rkM X.1.1 (X.1.2.1 (cl s)) + 1)) = (decide (rkM X.1.1 (X.1.2.1 (cl t)) = rkM X.1.1 (X.1.2.1 (cl s)) + 1) && blM X.1.1 (X.1.2.1 (cl s)) (X.1.2.1 (cl t))) := by
      rw [Bool.and_comm]
      congr 1
    rw [e]
    by_cases q : (decide (rkM X.1.1 (X.1.2.1 (cl t)) = rkM X.1.1 (X.1.2.1 (cl s)) + 1) && blM X.1.1 (X.1.2.1 (cl s)) (X.1.2.1 (cl t))) = true
    · rw [if_pos q, if_pos q]
      rw [Bool.and_eq_true, decide_eq_true_iff, bl_iff ga] at q
      rw [mark_eq ga gb q.2 q.1]
    · rw [if_neg q, if_neg q]
  · rw [if_neg c, if_neg c]
/-! covers, listed -/
def mgF (c x y p : Nat) : Nat := if rw8 c p = y then x else rw8 c p
theorem mgQ_enc {x y : Nat} : mgQ n c x y = enc (mgF c x y) n := by
  induction n with
  | zero => rfl
  | succ n ih =>
    show mgQ n c x y + cond (Nat.beq (rwQ c n) y) x (rwQ c n) * 8 ^ (7 - n) = enc (mgF c x y) n + mgF c x y n * 8 ^ (7 - n)
    rw [ih, rwQ_eq, nb_eq, mgF]
    by_cases e : rw8 c n = y <;> simp [e]
theorem mg_lt (g : GdC n c) {x y p : Nat} (hx : x < n) (hp : p < n) : mgF c x y p < n := by
  unfold mgF
  split
  · exact hx
  · exact g.lt hp
theorem mg_rw (h2 : n ≤ 8) (g : GdC n c) {x y p : Nat} (hx : x < n) (hp : p < n) : rw8 (mgQ n c x y) p = mgF c x y p := by
  rw [mgQ_enc]
  exact rw8_enc h2 (fun i hi => by have := mg_lt (y := y) g hx hi; omega) hp
/-- the union with a pair, where both blocks are free to be one -/
theorem gd_iff (h1 : 1 ≤ n) (h2 : n ≤ 8) (g : GdC n c) {x y : Nat} (hxy : x < y) (hy : y < n) (xa : rw8 c x = x) (ya : rw8 c y = y) : (rkM n (joM n c (puM n x y)) = rkM n c + 1 ↔ wlQ n (mgQ n c x y) = true) ∧ (wlQ n (mgQ n c x y) = true → joM n c (puM n x y) = mgQ n c x y) := by
  have hx : x < n := by omega
  have gp := puM_good (x := x) (y := y) h2
  have gj : GdC n (joM n c (puM n x y)) := joM_good h2
  have l1 : Le n c (joM n c (puM n x y)) := le_jo1 h2
  have l2 : Le n (puM n x y) (joM n c (puM n x y)) := le_jo2 h2 gp
  have rel : ∀ i, i < n → rw8 (puM n x y) i = if i = y then x else i := fun i hi => by
    rw [puM, rw8_pk h2 hi, pu_row, if_pos hxy]
  have jxy : rw8 (joM n c (puM n x y)) x = rw8 (joM n c (puM n x y)) y := l2 x y hx hy (by rw [rel x hx, rel y hy, if_pos rfl, if_neg (by omega)])
  have A : rkM n (joM n c (puM n x y)) = rkM n c + 1 → joM n c (puM n x y) = mgQ n c x y := by
    intro hr
    obtain ⟨x', y', q1, q2, q3, q4, q5⟩ := cov_str g gj l1 hr
    have ex := q5 x hx
    have ey := q5 y hy
    rw [xa] at ex
    rw [ya] at ey
    have e1 : y = y' := by
      rcases Nat.decEq y y' with z | z
      · exfalso
        rw [if_neg z] at ey
        by_cases w : x = y'
        · rw [if_pos w] at ex; omega
        · rw [if_neg w] at ex; omega
      · exact z
    have e2 : x = x' := by
      rw [if_pos e1] at ey
      rw [if_neg (by omega)] at ex
      omega
    subst e1
    subst e2
    rw [mgQ_enc]
    exact (enc_eq h2 gj (fun p hp => by rw [q5 p hp]; rfl)).symm
  have B : wlQ n (mgQ n c x y) = true → GdC n (mgQ n c x y) := by
    intro w
    rw [wlQ_eq] at w
    refine ⟨?_, ?_, w⟩
    · rw [mgQ_enc]
      have := @enc_lt (mgF c x y) n h2 (fun i hi => by have := mg_lt (y := y) g hx hi; omega)
      have h2 : 0 < 8 ^ (8 - n) := Nat.pow_pos (by decide)
      omega
    · rw [mgQ_enc]; exact enc_low h2
  have C : wlQ n (mgQ n c x y) = true → joM n c (puM n x y) = mgQ n c x y := by
    intro w
    have gu := B w
    refine le_anti h2 gj gu (jo_le h2 gp gu (fun p q hp hq e => ?_) (fun p q hp hq e => ?_)) (fun p q hp hq e => ?_)
    · rw [mg_rw h2 g hx hp, mg_rw h2 g hx hq, mgF, mgF, e]
    · rw [rel p hp, rel q hq] at e
      rw [mg_rw h2 g hx hp, mg_rw h2 g hx hq]
      have K : ∀ p, p < n → mgF c x y p = mgF c x y (if p = y then x else p) := by
        intro p _
        by_cases z : p = y
        · rw [if_pos z, z, mgF, mgF, ya, xa, if_pos rfl, if_neg (by omega)]
        · rw [if_neg z]
      rw [K p hp, K q hq, e]
    · rw [mg_rw h2 g hx hp, mg_rw h2 g hx hq] at e
      have K : ∀ p, p < n → rw8 (joM n c (puM n x y)) p = rw8 (joM n c (puM n x y)) (mgF c x y p) := by
        intro p hp
        have := l1 _ _ (g.lt hp) hp (g.idem hp)
        unfold mgF
        by_cases z : rw8 c p = y
        · rw [if_pos z, ← this, z, jxy]
        · rw [if_neg z, this]
      rw [K p hp, K q hq, e]
  refine ⟨⟨fun hr => ?_, fun w => ?_⟩, C⟩
  · rw [← A hr, wlQ_eq]; exact gj.2.2
  · have gu := B w
    rw [C w]
    have e : rkM n (mgQ n c x y) = cnt (fun i => (if rw8 c i = i then 0 else 1) + (if i = y then 1 else 0)) n := by
      refine cnt_congr n (fun i hi => ?_)
      show (if rw8 (mgQ n c x y) i = i then 0 else 1) = (if rw8 c i = i then 0 else 1) + (if i = y then 1 else 0)
      rw [mg_rw h2 g hx hi, mgF]
      have := g.le hi
      by_cases z : i = y
      · subst z
        rw [if_pos ya, if_neg (by omega), if_pos ya, if_pos rfl]
      · rw [if_neg z]
        by_cases w : rw8 c i = y
        · rw [if_pos w, if_neg (by omega), if_neg (by omega)]
        · rw [if_neg w, Nat.add_zero]
    rw [e, cnt_add, cnt_one (j := y) n hy (fun i _ hi => if_neg hi), if_pos rfl]
    rfl
theorem goodC_eq (h1 : 1 ≤ n) (h2 : n ≤ 8) (g : GdC n c) {x y : Nat} (hxy : x < y) (hy : y < n) : goodC (cr n c) n x y = (decide (rw8 c y = y) && (decide (rw8 c x = x) && wlQ n (mgQ n c x y))) ∧ (goodC (cr n c) n x y = true → plcF (joinF (cr n c) (pairF x y) n) n = numM n (mgQ n c x y)) := by
  have hx : x < n := by omega
  have e : joinF (cr n c) (pairF x y) n = cr n (joM n c (puM n x y)) := by
    rw [← puC_eq h1 h2 g hx hy]
    exact (cr_un h2).symm
  unfold goodC
  rw [e, rank_eq, rank_eq, cr_rw8 hx, cr_rw8 hy]
  by_cases ey : rw8 c y = y
  · by_cases ex : rw8 c x = x
    · obtain ⟨q1, q2⟩ := gd_iff h1 h2 g hxy hy ex ey
      rw [ex, ey, decide_eq_true rfl, decide_eq_true rfl, beq_self_eq_true, beq_self_eq_true, Bool.true_and, Bool.true_and, Bool.true_and, Bool.true_and]
      have q3 : (rkM n (joM n c (puM n x y)) == rkM n c + 1) = wlQ n (mgQ n c x y) := by rw [Bool.eq_iff_iff, beq_iff_eq, q1]
      refine ⟨q3, fun q => ?_⟩
      rw [q3] at q
      rw [q2 q, plc_eq h1 h2 (by rw [← q2 q]; exact joM_good h2)]
    · have : (rw8 c x == x) = false := by rw [beq_eq_false_iff_ne]; exact ex
      rw [this, decide_eq_false ex, Bool.false_and, Bool.false_and, Bool.false_and, Bool.and_false]
      exact ⟨rfl, fun q => by cases q⟩
  · have : (rw8 c y == y) = false := by rw [beq_eq_false_iff_ne]; exact ey
    rw [this, decide_eq_false ey, Bool.and_false, Bool.false_and, Bool.false_and]
    exact ⟨rfl, fun q => by cases q⟩
theorem clX_app {y : Nat} {rest : List Nat} : ∀ m x, clX n c y rest m x = clX n c y [] m x ++ rest := by
  intro m
  induction m with
  | zero => intro x; rfl
  | succ m ih =>
    intro x
    show cond (Nat.beq (rwQ c x) x) (frc (mgQ n c x y) fun u => cond (wlQ n u) (numM n u :: clX n c y rest m (x + 1)) (clX n c y rest m (x + 1))) (clX n c y rest m (x + 1)) = cond (Nat.beq (rwQ c x) x) (frc (mgQ n c x y) fun u => cond (wlQ n u) (numM n u :: clX n c y [] m (x + 1)) (clX n c y [] m (x + 1))) (clX n c y [] m (x + 1)) ++ rest
    rw [frc_eq, frc_eq, ih (x + 1)]
    rcases Nat.beq (rwQ c x) x
    · rfl
    · rcases wlQ n (mgQ n c x y) <;> rfl
theorem cvX_eq (h1 : 1 ≤ n) (h2 : n ≤ 8) (g : GdC n c) {y i : Nat} (hy : y < n) (ya : rw8 c y = y) : ∀ m x seen, x + m = y → seen ≤ i → cvX (cr n c) n i y m x seen = match (clX n c y [] m x)[i - seen]? with | some v => .inl v | none => .inr (seen + (clX n c y [] m x).length) := by
  intro m
  induction m with
  | zero => intro x seen _ _; rfl
  | succ m ih =>
    intro x seen hx hs
    obtain ⟨q1, q2⟩ := goodC_eq h1 h2 g (show x < y by omega) hy
    have eC : clX n c y [] (m + 1) x = if goodC (cr n c) n x y = true then numM n (mgQ n c x y) :: clX n c y [] m (x + 1) else clX n c y [] m (x + 1) := by
      show cond (Nat.beq (rwQ c x) x) (frc (mgQ n c x y) fun u => cond (wlQ n u) (numM n u :: clX n c y [] m (x + 1)) (clX n c y [] m (x + 1))) (clX n c y [] m (x + 1)) = _
      rw [frc_eq, rwQ_eq, nb_eq, q1, decide_eq_true ya, Bool.true_and]
      rcases decide (rw8 c x = x)
      · rfl
      · rcases wlQ n (mgQ n c x y) <;> rfl
    rw [cvX, eC]
    by_cases e : goodC (cr n c) n x y = true
    · rw [if_pos e, if_pos e, q2 e]
      by_cases z : seen = i
      · rw [if_pos z, z, Nat.sub_self]
        rfl
      · rw [if_neg z, ih (x + 1) (seen + 1) (by omega) (by omega)]
        obtain ⟨t, ht⟩ : ∃ t, i - seen = t + 1 := ⟨i - seen - 1, by omega⟩
        rw [ht, List.getElem?_cons_succ, show i - (seen + 1) = t by omega, List.length_cons]
        rcases (clX n c y [] m (x + 1))[t]? with _ | v
        · show Sum.inr _ = Sum.inr _
          congr 1
          omega
        · rfl
    · rw [if_neg e, if_neg e, ih (x + 1) seen (by omega) hs]
theorem cvX_no {y i : Nat} (hy : y < n) (ya : rw8 c y ≠ y) : ∀ m x seen, x + m = y → cvX (cr n c) n i y m x seen = .inr seen := by
  intro m
  induction m with
  | zero => intro x seen _; rfl
  | succ m ih =>
    intro x seen hx
    rw [cvX, if_neg, ih (x + 1) seen (by omega)]
    unfold goodC
    have : (rw8 c y == y) = false := by rw [beq_eq_false_iff_ne]; exact ya
    rw [cr_rw8 hy, this, Bool.and_false, Bool.false_and]
    decide
theorem cvY_eq (h1 : 1 ≤ n) (h2 : n ≤ 8) (g : GdC n c) {i : Nat} : ∀ m y seen, y + m = n → seen ≤ i → cvY (cr n c) n i m y seen = (clY n c m y)[i - seen]? := by
  intro m
  induction m with
  | zero => intro y seen _ _; rfl
  | succ m ih =>
    intro y seen hy hs
    have hyn : y < n := by omega
    rw [cvY]
    have eC : clY n c (m + 1) y = if rw8 c y = y then clX n c y (clY n c m (y + 1)) y 0 else clY n c m (y + 1) := by
      show cond (Nat.beq (rwQ c y) y) (clX n c y (clY n c m (y + 1)) y 0) (clY n c m (y + 1)) = _
      rw [rwQ_eq, nb_eq]
      by_cases e : rw8 c y = y <;> simp [e]
    rw [eC]
    by_cases e : rw8 c y = y
    · rw [if_pos e, cvX_eq h1 h2 g hyn e y 0 seen (by omega) hs, clX_app (rest := clY n c m (y + 1)) y 0]
      rcases q : (clX n c y [] y 0)[i - seen]? with _ | v
      · rw [List.getElem?_eq_none_iff] at q
        show cvY (cr n c) n i m (y + 1) (seen + (clX n c y [] y 0).length) = _
        rw [ih (y + 1) _ (by omega) (by omega), List.getElem?_append_right q]
        congr 1
        omega
      · have := (List.getElem?_eq_some_iff.mp q).1
        show some v = _
        rw [List.getElem?_append_left this, q]
    · rw [if_neg e, cvX_no hyn e y 0 seen (by omega)]
      dsimp only
      exact ih (y + 1) seen (by omega) hs
theorem clM_eq : ∀ m k left, clM n c m k left = (cvL (fun k => cvB n c true k) m k)[left]? := by
  intro m
  induction m with
  | zero => intro k left; rfl
  | succ m ih =>
    intro k left
    rw [clM, cvL]
    by_cases e : cvB n c true k = true
    · rw [if_pos e, if_pos e]
      cases left with
      | zero => rfl
      | succ l => rw [if_neg (by omega), ih]; rfl
    · rw [if_neg e, if_neg e, ih]
theorem cov_eq (h1 : 1 ≤ n) (h2 : n ≤ 8) (g : GdC n c) (i : Nat) : cvR (cvY (cr n c) n i (n - 1) 1 0) = cvlM n c i := by
  unfold cvlM
  rw [cvY_eq h1 h2 g (n - 1) 1 0 (by omega) (Nat.zero_le _), clM_eq, (ab_all h1 h2 g).2.1, Nat.sub_zero, cvL_congr (q := fun k => cvB n c true k) (catN n) 0 (fun k _ _ => ?_)]
  · rfl
  · show (blM n c (tb n k) && decide (rkM n (tb n k) = rkM n c + 1)) = (decide (rkM n (tb n k) = rkM n c + 1) && blM n c (tb n k))
    exact Bool.and_comm _ _
theorem E_covers (g : GdX X) (s i : Int32) : coversR X s i = coversM X s i := by
  unfold coversR coversM
  rw [show ngB i = decide (0 ≤ i.toInt) from by unfold ngB; exact decide_eq_decide.mpr Int32.le_iff_toInt_le]
  by_cases c : (inB 6 s && decide (0 ≤ i.toInt)) = true
  · rw [if_pos c, if_pos c]
    rw [Bool.and_eq_true] at c
    rw [cov_eq g.1.1 g.1.2.1 (g.1.2.2.1 _ (inB_cl (by omega) c.1))]
  · rw [if_neg c, if_neg c]
end MF
