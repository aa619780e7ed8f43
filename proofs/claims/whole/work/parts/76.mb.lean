/-! MATHEMATICS 11: above and below -/
def sumU (f : Nat → Nat) : Nat → Nat → Nat
  | 0, _ => 0
  | m + 1, i => f i + sumU f m (i + 1)
def cvL (p : Nat → Bool) : Nat → Nat → List Nat
  | 0, _ => []
  | m + 1, i => if p i then i :: cvL p m (i + 1) else cvL p m (i + 1)
theorem cnt_add (f g : Nat → Nat) : ∀ n, cnt (fun i => f i + g i) n = cnt f n + cnt g n
  | 0 => rfl
  | n + 1 => by rw [cnt, cnt, cnt, cnt_add f g n]; omega
theorem cnt_mul (f : Nat → Nat) (c : Nat) : ∀ n, cnt (fun i => c * f i) n = c * cnt f n
  | 0 => rfl
  | n + 1 => by rw [cnt, cnt, cnt_mul f c n, Nat.mul_add]
theorem cnt_zero {f : Nat → Nat} : ∀ n, (∀ i, i < n → f i = 0) → cnt f n = 0
  | 0, _ => rfl
  | n + 1, h => by rw [cnt, cnt_zero n (fun i hi => h i (by omega)), h n (by omega)]
theorem cnt_one {f : Nat → Nat} {j : Nat} : ∀ n, j < n → (∀ i, i < n → i ≠ j → f i = 0) → cnt f n = f j
  | 0, h, _ => by omega
  | n + 1, h, z => by
    rw [cnt]
    by_cases e : j = n
    · rw [cnt_zero n (fun i hi => z i (by omega) (by omega)), e, Nat.zero_add]
    · rw [cnt_one n (by omega) (fun i hi => z i (by omega)), z n (by omega) (by omega), Nat.add_zero]
theorem cnt_comm (f : Nat → Nat → Nat) (m : Nat) : ∀ n, cnt (fun i => cnt (fun j => f i j) m) n = cnt (fun j => cnt (fun i => f i j) n) m
  | 0 => by rw [cnt]; exact (cnt_zero m (fun _ _ => rfl)).symm
  | n + 1 => by
    rw [cnt, cnt_comm f m n, ← cnt_add]
    exact cnt_congr m (fun j _ => rfl)
theorem cnt_split (f : Nat → Nat) (m : Nat) : ∀ k, cnt f (m + k) = cnt f m + cnt (fun i => f (m + i)) k
  | 0 => rfl
  | k + 1 => by rw [← Nat.add_assoc, cnt, cnt_split f m k, cnt, Nat.add_assoc]
theorem cnt_head (f : Nat → Nat) : ∀ m, cnt f (m + 1) = f 0 + cnt (fun i => f (i + 1)) m
  | 0 => by rw [cnt, cnt, cnt, Nat.add_comm]
  | m + 1 => by rw [cnt, cnt_head f m, cnt, Nat.add_assoc]
theorem sumU_cnt (f : Nat → Nat) : ∀ m i, sumU f m i = cnt (fun k => f (i + k)) m := by
  intro m
  induction m with
  | zero => intro i; rfl
  | succ m ih =>
    intro i
    rw [sumU, ih (i + 1), cnt_head]
    congr 1
    exact cnt_congr m (fun k _ => by rw [show i + 1 + k = i + (k + 1) by omega])
/-- a sum over the table -/
def SumT (n : Nat) (P : Nat → Bool) (w : Nat → Nat) : Nat := cnt (fun i => if P (tb n i) = true then w (tb n i) else 0) (catN n)
theorem SumT_re {n : Nat} (h1 : 1 ≤ n) (h2 : n ≤ 8) {P Q : Nat → Bool} (φ : Nat → Nat) (w : Nat → Nat) (hP : ∀ c, GdC n c → P c = true → GdC n (φ c) ∧ Q (φ c) = true) (hi : ∀ c c', GdC n c → GdC n c' → P c = true → P c' = true → φ c = φ c' → c = c') (hs : ∀ c, GdC n c → Q c = true → ∃ c', GdC n c' ∧ P c' = true ∧ φ c' = c) : SumT n P (fun c => w (φ c)) = SumT n Q w := by
  have A : SumT n P (fun c => w (φ c)) = cnt (fun i => cnt (fun j => if P (tb n i) = true ∧ φ (tb n i) = tb n j then w (tb n j) else 0) (catN n)) (catN n) := by
    refine cnt_congr _ (fun i hi' => ?_)
    by_cases p : P (tb n i) = true
    · rw [if_pos p]
      obtain ⟨q1, q2⟩ := hP _ (GdC_tb h1 h2 hi') p
      obtain ⟨j, hj, ej⟩ := tb_all h1 h2 q1
      rw [cnt_one (j := j) _ hj (fun k hk hkj => if_neg (fun e => hkj (tb_inj h2 hk hj (by rw [← e.2, ej])))), if_pos ⟨p, ej.symm⟩, ej]
    · rw [if_neg p]
      exact (cnt_zero _ (fun j _ => if_neg (fun e => p e.1))).symm
  have B : SumT n Q w = cnt (fun j => cnt (fun i => if P (tb n i) = true ∧ φ (tb n i) = tb n j then w (tb n j) else 0) (catN n)) (catN n) := by
    refine cnt_congr _ (fun j hj => ?_)
    by_cases q : Q (tb n j) = true
    · rw [if_pos q]
      obtain ⟨c', g', p', e'⟩ := hs _ (GdC_tb h1 h2 hj) q
      obtain ⟨i, hi', ei⟩ := tb_all h1 h2 g'
      subst ei
      rw [cnt_one (j := i) _ hi' (fun k hk hkj => if_neg (fun e => hkj (tb_inj h2 hk hi' (hi _ _ (GdC_tb h1 h2 hk) g' e.1 p' (by rw [e.2, e']))))), if_pos ⟨p', e'⟩]
    · rw [if_neg q]
      refine (cnt_zero _ (fun i hi' => if_neg (fun e => q ?_))).symm
      have := (hP _ (GdC_tb h1 h2 hi') e.1).2
      rw [e.2] at this
      exact this
  rw [A, B, cnt_comm]
theorem SumT_congr {n : Nat} (h1 : 1 ≤ n) (h2 : n ≤ 8) {P Q : Nat → Bool} {w w' : Nat → Nat} (h : ∀ c, GdC n c → (P c = true ↔ Q c = true)) (hw : ∀ c, GdC n c → P c = true → w c = w' c) : SumT n P w = SumT n Q w' := by
  refine cnt_congr _ (fun i hi => ?_)
  have g := GdC_tb h1 h2 hi
  by_cases p : P (tb n i) = true
  · rw [if_pos p, if_pos ((h _ g).mp p), hw _ g p]
  · rw [if_neg p, if_neg (fun q => p ((h _ g).mpr q))]
section MB
variable {n a b c d : Nat}
/-! rank and order -/
theorem low_le (ga : GdC n a) (gb : GdC n b) (h : Le n a b) {x : Nat} (hx : x < n) : rw8 b x ≤ rw8 a x := by
  have e := h _ _ (ga.lt hx) hx (ga.idem hx)
  have := gb.le (ga.lt hx)
  omega
theorem rk_le (ga : GdC n a) (gb : GdC n b) (h : Le n a b) : rkM n a ≤ rkM n b := by
  refine cnt_le n (fun x hx => ?_)
  have := low_le ga gb h hx
  have := ga.le hx
  by_cases e : rw8 a x = x
  · rw [if_pos e]; exact Nat.zero_le _
  · rw [if_neg e, if_neg (by omega)]; exact Nat.le_refl _
theorem rk_eq (h2 : n ≤ 8) (ga : GdC n a) (gb : GdC n b) (h : Le n a b) (e : rkM n a = rkM n b) : a = b := by
  have A : ∀ x, x < n → rw8 a x = x → rw8 b x = x := by
    intro x hx ea
    rcases Nat.decEq (rw8 b x) x with z | z
    · exfalso
      have : rkM n a < rkM n b := by
        refine cnt_lt (j := x) n hx (fun y hy => ?_) ?_
        · have := low_le ga gb h hy
          have := ga.le hy
          by_cases e : rw8 a y = y
          · rw [if_pos e]; exact Nat.zero_le _
          · rw [if_neg e, if_neg (by omega)]; exact Nat.le_refl _
        · rw [if_pos ea, if_neg z]; exact Nat.zero_lt_one
      omega
    · exact z
  refine code_ext h2 ga gb (fun x hx => ?_)
  have e1 := A _ (ga.lt hx) (ga.idem hx)
  have e2 := h _ _ (ga.lt hx) hx (ga.idem hx)
  omega
theorem code_le (h2 : n ≤ 8) (ga : GdC n a) (gb : GdC n b) (h : Le n a b) : b ≤ a := by
  have D : ∀ x, x ≤ n → b / 8 ^ (8 - x) ≤ a / 8 ^ (8 - x) := by
    intro x
    induction x with
    | zero => intro _; rw [show 8 ^ (8 - 0) = 16777216 from by decide, Nat.div_eq_of_lt ga.1, Nat.div_eq_of_lt gb.1]; exact Nat.le_refl _
    | succ x ih =>
      intro hx
      have i1 := ih (by omega)
      have i2 := low_le ga gb h (show x < n by omega)
      unfold rw8 at i2
      rw [show 8 - x = (7 - x) + 1 by omega, Nat.pow_succ, ← Nat.div_div_eq_div_mul, ← Nat.div_div_eq_div_mul] at i1
      rw [show 8 - (x + 1) = 7 - x by omega]
      omega
  have := Nat.mul_le_mul_left (8 ^ (8 - n)) (D n (Nat.le_refl _))
  have a1 := Nat.div_add_mod a (8 ^ (8 - n))
  have b1 := Nat.div_add_mod b (8 ^ (8 - n))
  rw [ga.2.1] at a1
  rw [gb.2.1] at b1
  omega
theorem idx_le (h1 : 1 ≤ n) (h2 : n ≤ 8) {i j : Nat} (hi : i < catN n) (hj : j < catN n) (h : Le n (tb n j) (tb n i)) : i ≤ j := by
  rcases Nat.lt_or_ge j i with z | z
  · have := tb_mono h2 i j z hi
    have := code_le h2 (GdC_tb h1 h2 hj) (GdC_tb h1 h2 hi) h
    omega
  · exact z
theorem mkT_iff (h2 : n ≤ 8) {i : Nat} : Nat.beq (Nat.land (mkQ n a) (mkT n i)) (mkQ n a) = true ↔ Le n a (tb n i) := leQ_iff h2
theorem pgQ_ok {ma rd ra : Nat} {fin : Nat → List Nat → Bool} : ∀ m i acc l, pgQ n a ma d rd ra fin m i acc l = true → ∃ l', fin (acc + sumU (fun k => if Nat.beq (Nat.land ma (mkT n k)) ma = true then wtQ n (meM n (tb n k) d) rd else 0) m i) l' = true ∧ (∀ k, i ≤ k → k < i + m → Nat.beq (Nat.land ma (mkT n k)) ma = true → i2R n a (tb n k) (meM n (tb n k) d) = true ∧ moN (cr n (meM n (tb n k) d)) n n ≤ 4095) ∧ l = cvL (fun k => Nat.beq (Nat.land ma (mkT n k)) ma && Nat.beq (rkQ n (tb n k)) (Nat.succ ra)) m i ++ l' := by
  intro m
  induction m with
  | zero => intro i acc l h; exact ⟨l, h, fun k h1 h2 => by omega, rfl⟩
  | succ m ih =>
    intro i acc l h
    have h : cond (Nat.beq (Nat.land ma (mkT n i)) ma) (frc (tb n i) fun b => frc (meM n b d) fun c => cond (i2R n a b c) (cond (Nat.ble (moN (cr n c) n n) 4095) (frc (Nat.add acc (wtQ n c rd)) fun acc => cond (Nat.beq (rkQ n b) (Nat.succ ra)) (hdQ l i fun l => frc (Nat.succ i) fun i => pgQ n a ma d rd ra fin m i acc l) (frc (Nat.succ i) fun i => pgQ n a ma d rd ra fin m i acc l)) false) false) (frc (Nat.succ i) fun i => pgQ n a ma d rd ra fin m i acc l) = true := h
    rw [sumU, cvL]
    rcases e : Nat.beq (Nat.land ma (mkT n i)) ma
    · rw [e, cond_false, frc_eq] at h
      obtain ⟨l', q1, q2, q3⟩ := ih (i + 1) acc l h
      refine ⟨l', ?_, fun k k1 k2 kF => ?_, ?_⟩
      · rw [if_neg (by decide), Nat.zero_add]; exact q1
      · rcases Nat.lt_or_ge i k with z | z
        · exact q2 k z (by omega) kF
        · rw [show k = i by omega, e] at kF; cases kF
      · rw [Bool.false_and, if_neg (by decide)]; exact q3
    · rw [e, cond_true, frc_eq, frc_eq] at h
      obtain ⟨h1, h⟩ := cond_and h
      obtain ⟨h2, h⟩ := cond_and h
      rw [frc_eq] at h
      have two : ∀ (lt : List Nat), pgQ n a ma d rd ra fin m (i + 1) (acc + wtQ n (meM n (tb n i) d) rd) lt = true → ∃ l', fin (acc + (wtQ n (meM n (tb n i) d) rd + sumU (fun k => if Nat.beq (Nat.land ma (mkT n k)) ma = true then wtQ n (meM n (tb n k) d) rd else 0) m (i + 1))) l' = true ∧ (∀ k, i ≤ k → k < i + (m + 1) → Nat.beq (Nat.land ma (mkT n k)) ma = true → i2R n a (tb n k) (meM n (tb n k) d) = true ∧ moN (cr n (meM n (tb n k) d)) n n ≤ 4095) ∧ lt = cvL (fun k => Nat.beq (Nat.land ma (mkT n k)) ma && Nat.beq (rkQ n (tb n k)) (Nat.succ ra)) m (i + 1) ++ l' := by
        intro lt h
        obtain ⟨l', q1, q2, q3⟩ := ih (i + 1) _ lt h
        refine ⟨l', by rw [← Nat.add_assoc]; exact q1, fun k k1 k2 kF => ?_, q3⟩
        rcases Nat.lt_or_ge i k with z | z
        · exact q2 k z (by omega) kF
        · rw [show k = i by omega]; exact ⟨h1, Nat.le_of_ble_eq_true h2⟩
      rw [if_pos rfl]
      rcases e2 : Nat.beq (rkQ n (tb n i)) (Nat.succ ra)
      · rw [e2, cond_false, frc_eq] at h
        rw [Bool.and_false, if_neg (by decide)]
        exact two l h
      · rw [e2, cond_true] at h
        rw [Bool.and_true, if_pos rfl]
        cases l with
        | nil => exact absurd (show false = true from h) (by decide)
        | cons v t =>
          obtain ⟨h3, h⟩ := cond_and (show cond (Nat.beq v i) (frc (Nat.succ i) fun i => pgQ n a ma d rd ra fin m i _ t) false = true from h)
          rw [frc_eq] at h
          obtain ⟨l', q1, q2, q3⟩ := two t h
          exact ⟨l', q1, q2, by rw [Nat.eq_of_beq_eq_true h3, q3]; rfl⟩
end MB
