/-! MATHEMATICS 1: codes of noncrossing partitions; the table has them all, in order -/
def NC (n : Nat) (g : Nat → Nat) : Prop := ∀ a b e f, a < b → b < e → e < f → f < n → g a = g e → g b = g f → g a = g b
def Le (n a b : Nat) : Prop := ∀ x y, x < n → y < n → rw8 a x = rw8 a y → rw8 b x = rw8 b y
theorem NC_crs {n : Nat} {g : Nat → Nat} : NC n g ↔ crsF n g = none := by
  constructor
  · intro h
    rcases e : crsF n g with _ | ⟨a, b⟩
    · rfl
    · obtain ⟨h1, h2, x, y, h3, h4, h5, h6, h7⟩ := crs_some e
      exact absurd (h a b x y h1 h3 h4 h5 h6 h7) h2
  · intro h a b x y h1 h3 h4 h5 h6 h7
    rcases Nat.decEq (g a) (g b) with z | z
    · exact absurd ⟨h1, z, x, y, h3, h4, h5, h6, h7⟩ (crs_none h a b)
    · exact z
theorem GdC.nc {n c : Nat} (g : GdC n c) : NC n (rw8 c) := by
  have := g.2.2
  rw [wlM, Bool.and_eq_true, Bool.not_eq_true', crB] at this
  refine NC_crs.mpr ?_
  rcases h : crsF n (rw8 c) with _ | p
  · rfl
  · rw [h] at this
    exact absurd (show true = false from this.2) (by decide)
theorem GdC.wf {n c : Nat} (g : GdC n c) : WfC n c := WfC_wl g.1 g.2.2
theorem GdC.le {n c x : Nat} (g : GdC n c) (hx : x < n) : rw8 c x ≤ x := (g.wf.2 x hx).1
theorem GdC.lt {n c x : Nat} (g : GdC n c) (hx : x < n) : rw8 c x < n := Nat.lt_of_le_of_lt (g.le hx) hx
theorem GdC.idem {n c x : Nat} (g : GdC n c) (hx : x < n) : rw8 c (rw8 c x) = rw8 c x := (g.wf.2 x hx).2
theorem GdC.mk {n c : Nat} (h1 : c < 16777216) (h2 : c % 8 ^ (8 - n) = 0) (h3 : ∀ x, x < n → rw8 c x ≤ x ∧ rw8 c (rw8 c x) = rw8 c x) (h4 : NC n (rw8 c)) : GdC n c := by
  refine ⟨h1, h2, ?_⟩
  rw [wlM, Bool.and_eq_true, crB, NC_crs.mp h4]
  refine ⟨alln_iff.mpr fun x hx => ?_, rfl⟩
  rw [Bool.and_eq_true, decide_eq_true_iff, beq_iff_eq]
  exact h3 x hx
theorem dig_eq {a b n : Nat} (hn : n ≤ 8) (ha : a < 16777216) (hb : b < 16777216) (h : ∀ x, x < n → rw8 a x = rw8 b x) : ∀ x, x ≤ n → a / 8 ^ (8 - x) = b / 8 ^ (8 - x) := by
  intro x
  induction x with
  | zero => intro _; rw [show 8 ^ (8 - 0) = 16777216 from by decide, Nat.div_eq_of_lt ha, Nat.div_eq_of_lt hb]
  | succ x ih =>
    intro hx
    have i1 := ih (by omega)
    have i2 := h x (by omega)
    unfold rw8 at i2
    rw [show 8 - x = (7 - x) + 1 by omega, Nat.pow_succ, ← Nat.div_div_eq_div_mul, ← Nat.div_div_eq_div_mul] at i1
    rw [show 8 - (x + 1) = 7 - x by omega]
    omega
theorem code_ext {a b n : Nat} (hn : n ≤ 8) (ha : GdC n a) (hb : GdC n b) (h : ∀ x, x < n → rw8 a x = rw8 b x) : a = b := by
  have := dig_eq hn ha.1 hb.1 h n (Nat.le_refl _)
  have a1 := Nat.div_add_mod a (8 ^ (8 - n))
  have b1 := Nat.div_add_mod b (8 ^ (8 - n))
  rw [ha.2.1] at a1
  rw [hb.2.1, ← this] at b1
  omega
theorem row_ext {a b n : Nat} (ha : GdC n a) (hb : GdC n b) (h1 : Le n a b) (h2 : Le n b a) : ∀ x, x < n → rw8 a x = rw8 b x := by
  intro x hx
  have p := h1 (rw8 a x) x (ha.lt hx) hx (ha.idem hx)
  have q := h2 (rw8 b x) x (hb.lt hx) hx (hb.idem hx)
  have p2 := hb.le (ha.lt hx)
  have q2 := ha.le (hb.lt hx)
  omega
theorem le_anti {a b n : Nat} (hn : n ≤ 8) (ha : GdC n a) (hb : GdC n b) (h1 : Le n a b) (h2 : Le n b a) : a = b := code_ext hn ha hb (row_ext ha hb h1 h2)
theorem Le.refl (n a : Nat) : Le n a a := fun _ _ _ _ h => h
theorem Le.trans {n a b c : Nat} (h1 : Le n a b) (h2 : Le n b c) : Le n a c := fun x y hx hy h => h2 x y hx hy (h1 x y hx hy h)
theorem bl_iff {n a b : Nat} (ha : GdC n a) : blM n a b = true ↔ Le n a b := by
  rw [blM, alln_iff]
  constructor
  · intro h x y hx hy e
    have p := h x hx
    have q := h y hy
    rw [beq_iff_eq] at p q
    rw [p, q, e]
  · intro h x hx
    rw [beq_iff_eq]
    exact h x _ hx (ha.lt hx) (ha.idem hx).symm
theorem pk_rel {g : Nat → Nat} {n x y : Nat} (hn : n ≤ 8) (hx : x < n) (hy : y < n) : rw8 (pkF n g) x = rw8 (pkF n g) y ↔ g x = g y := by
  rw [rw8_pk hn hx, rw8_pk hn hy]
  exact ⟨fun e => by rw [← pkR_g g x, ← pkR_g g y, e], pkR_eq g x y⟩
theorem pkF_low {g : Nat → Nat} {n : Nat} (hn : n ≤ 8) : pkF n g % 8 ^ (8 - n) = 0 := by
  obtain ⟨q, hq⟩ := @enc_q (pkR g) n hn
  rw [pkF, hq, show 24 - 3 * n = 3 * (8 - n) by omega, Nat.pow_mul, Nat.mul_mod_right]
theorem GdC_pk {g : Nat → Nat} {n : Nat} (hn : n ≤ 8) (h : NC n g) : GdC n (pkF n g) := by
  refine GdC.mk (pkF_lt hn g) (pkF_low hn) (WfC_pk hn).2 ?_
  intro a b e f h1 h2 h3 h4 h5 h6
  rw [pk_rel hn (by omega) (by omega)] at h5 h6 ⊢
  exact h a b e f h1 h2 h3 h4 h5 h6
theorem enc_low {r : Nat → Nat} {n : Nat} (hn : n ≤ 8) : enc r n % 8 ^ (8 - n) = 0 := by
  obtain ⟨q, hq⟩ := @enc_q r n hn
  rw [hq, show 24 - 3 * n = 3 * (8 - n) by omega, Nat.pow_mul, Nat.mul_mod_right]
/-- a row's code is a given good code, if the rows are the same -/
theorem enc_eq {r : Nat → Nat} {n c : Nat} (hn : n ≤ 8) (hc : GdC n c) (h : ∀ x, x < n → r x = rw8 c x) : enc r n = c := by
  have hr : ∀ i, i < n → r i < 8 := fun i hi => by rw [h i hi]; exact rw8_lt c i
  have e : ∀ x, x < n → rw8 (enc r n) x = rw8 c x := fun x hx => by rw [rw8_enc hn hr hx, h x hx]
  have l : enc r n < 16777216 := by
    have := @enc_lt r n hn hr
    have h2 : 0 < 8 ^ (8 - n) := Nat.pow_pos (by decide)
    omega
  have := dig_eq hn l hc.1 e n (Nat.le_refl _)
  have a1 := Nat.div_add_mod (enc r n) (8 ^ (8 - n))
  have b1 := Nat.div_add_mod c (8 ^ (8 - n))
  rw [enc_low hn] at a1
  rw [hc.2.1, ← this] at b1
  omega
theorem cr_rw8 {n c x : Nat} (hx : x < n) : cr n c x = rw8 c x := if_pos hx
/-! the table -/
def allK (f : Nat → Bool) : Nat → Bool := fun n => Nat.rec (motive := fun _ => Bool) true (fun k ih => cond (f k) ih false) n
theorem allK_iff {f : Nat → Bool} : ∀ {n : Nat}, allK f n = true → ∀ k, k < n → f k = true := by
  intro n
  induction n with
  | zero => intro _ k hk; omega
  | succ n ih =>
    intro h k hk
    have h : cond (f n) (allK f n) false = true := h
    rcases e : f n
    · rw [e] at h; exact absurd (show false = true from h) (by decide)
    · rw [e] at h
      rcases Nat.lt_or_ge k n with z | z
      · exact ih h k z
      · rw [show k = n by omega]; exact e
theorem ly_comp {n : Nat} (h1 : 1 ≤ n) (h2 : n ≤ 8) {d : Nat} (hd : d < 16777216) (hd0 : d % 8 ^ (8 - n) = 0) (hw : wlM n d = true) (hdx : ∀ x, x < n → rw8 d x ≤ x) : ∀ k c m, lyS n k c m = true → c % 8 ^ (8 - n) = 0 → c ≤ d → ∃ j, j < catN n ∧ tb n j = d := by
  intro k
  induction k with
  | zero => intro c m q; exact absurd q (by rw [lyS]; decide)
  | succ k ih =>
    intro c m q hc0 hcd
    rw [lyS] at q
    rcases c1 : Nat.ble c 16777215
    · rw [c1] at q; exact absurd (show false = true from q) (by decide)
    rw [c1, cond_true] at q
    have K : ∀ m', clK (fun x c => cond (Nat.beq x 0) (Nat.beq m' (catN n)) (frc (Nat.add c (Nat.pow 8 (Nat.sub 7 x))) fun c => lyS n k c m')) (n - 1) c = true → c < d → ∃ j, j < catN n ∧ tb n j = d := by
      intro m' q hlt
      have J : ∀ x c, x < n → clK (fun x c => cond (Nat.beq x 0) (Nat.beq m' (catN n)) (frc (Nat.add c (Nat.pow 8 (Nat.sub 7 x))) fun c => lyS n k c m')) x c = true → c % 8 ^ (7 - x) = 0 → c / 8 ^ (7 - x) < d / 8 ^ (7 - x) → ∃ j, j < catN n ∧ tb n j = d := by
        intro x
        have E : ∀ x c, x < n → 0 < x → cond (Nat.beq x 0) (Nat.beq m' (catN n)) (frc (Nat.add c (Nat.pow 8 (Nat.sub 7 x))) fun c => lyS n k c m') = true → c % 8 ^ (7 - x) = 0 → c / 8 ^ (7 - x) < d / 8 ^ (7 - x) → ∃ j, j < catN n ∧ tb n j = d := by
          intro x c hx hx0 q hc hlt
          obtain ⟨x, rfl⟩ : ∃ y, x = y + 1 := ⟨x - 1, by omega⟩
          have q : frc (Nat.add c (Nat.pow 8 (Nat.sub 7 (x + 1)))) (fun c => lyS n k c m') = true := q
          rw [frc_eq] at q
          refine ih (c + 8 ^ (7 - (x + 1))) m' q ?_ ?_
          · have dv : 8 ^ (8 - n) ∣ 8 ^ (7 - (x + 1)) := ⟨8 ^ (n - (x + 2)), by rw [← Nat.pow_add]; congr 1; omega⟩
            exact Nat.mod_eq_zero_of_dvd (Nat.dvd_add (Nat.dvd_trans dv (Nat.dvd_of_mod_eq_zero hc)) dv)
          · have a1 := Nat.div_add_mod c (8 ^ (7 - (x + 1)))
            have b1 := Nat.div_add_mod d (8 ^ (7 - (x + 1)))
            rw [hc] at a1
            have m1 : 8 ^ (7 - (x + 1)) * (c / 8 ^ (7 - (x + 1)) + 1) ≤ 8 ^ (7 - (x + 1)) * (d / 8 ^ (7 - (x + 1))) := Nat.mul_le_mul_left _ hlt
            rw [Nat.mul_add, Nat.mul_one] at m1
            omega
        induction x with
        | zero =>
          intro c hx q hc hlt
          exfalso
          have z := hdx 0 hx
          unfold rw8 at z
          have p : (8 : Nat) ^ (7 - 0) = 2097152 := by decide
          rw [p] at z hlt
          omega
        | succ x ihx =>
          intro c hx q hc hlt
          rw [clK, rwQ_eq, nb_eq] at q
          have z := hdx (x + 1) hx
          have p8 : 8 ^ (7 - x) = 8 ^ (7 - (x + 1)) * 8 := by rw [show 7 - x = (7 - (x + 1)) + 1 by omega, Nat.pow_succ]
          by_cases e : rw8 c (x + 1) = x + 1
          · rw [decide_eq_true e, cond_true, frc_eq] at q
            have q : clK _ x (c / 8 ^ (7 - x) * 8 ^ (7 - x)) = true := q
            refine ihx _ (by omega) q (Nat.mul_mod_left _ _) ?_
            rw [Nat.mul_div_cancel _ (Nat.pow_pos (by decide)), p8, ← Nat.div_div_eq_div_mul, ← Nat.div_div_eq_div_mul]
            unfold rw8 at e z
            omega
          · rw [decide_eq_false e, cond_false] at q
            exact E (x + 1) c hx (by omega) q hc hlt
      refine J (n - 1) c (by omega) q (by rw [show 7 - (n - 1) = 8 - n by omega]; exact hc0) ?_
      rw [show 7 - (n - 1) = 8 - n by omega]
      have a1 := Nat.div_add_mod c (8 ^ (8 - n))
      have b1 := Nat.div_add_mod d (8 ^ (8 - n))
      rw [hc0] at a1
      rw [hd0] at b1
      rcases Nat.lt_or_ge (c / 8 ^ (8 - n)) (d / 8 ^ (8 - n)) with z | z
      · exact z
      · have := Nat.mul_le_mul_left (8 ^ (8 - n)) z
        omega
    rcases Nat.lt_or_ge c d with hlt | hge
    · rw [wlQ_eq] at q
      rcases c2 : wlM n c
      · rw [c2, cond_false] at q
        exact K m q hlt
      · rw [c2, cond_true] at q
        rcases c3 : Nat.beq (tb n m) c
        · rw [c3] at q; exact absurd (show false = true from q) (by decide)
        rw [c3, cond_true] at q
        rcases c4 : Nat.ble (Nat.succ m) (catN n)
        · rw [c4] at q; exact absurd (show false = true from q) (by decide)
        rw [c4, cond_true, frc_eq] at q
        exact K _ q hlt
    · have e : c = d := by omega
      subst e
      rw [wlQ_eq, hw, cond_true] at q
      rcases c3 : Nat.beq (tb n m) c
      · rw [c3] at q; exact absurd (show false = true from q) (by decide)
      rw [c3, cond_true] at q
      rcases c4 : Nat.ble (Nat.succ m) (catN n)
      · rw [c4] at q; exact absurd (show false = true from q) (by decide)
      exact ⟨m, Nat.le_of_ble_eq_true c4, Nat.eq_of_beq_eq_true c3⟩
theorem tb_all {n c : Nat} (h1 : 1 ≤ n) (h2 : n ≤ 8) (g : GdC n c) : ∃ k, k < catN n ∧ tb n k = c := by
  obtain ⟨F, hF⟩ := ly_all n h1 h2
  exact ly_comp h1 h2 g.1 g.2.1 g.2.2 (fun x hx => g.le hx) F 0 0 hF (Nat.zero_mod _) (Nat.zero_le _)
def lowQ (n : Nat) : Bool := allK (fun k => Nat.beq (Nat.mod (tb n k) (Nat.pow 8 (Nat.sub 8 n))) 0) (catN n)
def srtQ (n : Nat) : Bool := allK (fun k => Nat.ble (Nat.succ (tb n k)) (tb n (Nat.succ k))) (Nat.sub (catN n) 1)
theorem low_all : ∀ n, n ≤ 8 → lowQ n = true := by decide +kernel
theorem srt_all : ∀ n, n ≤ 8 → srtQ n = true := by decide +kernel
theorem GdC_tb {n k : Nat} (h1 : 1 ≤ n) (h2 : n ≤ 8) (hk : k < catN n) : GdC n (tb n k) := ⟨tb_lt n k, Nat.eq_of_beq_eq_true (allK_iff (low_all n h2) k hk), tb_wl h1 h2 hk⟩
theorem tb_step {n k : Nat} (h2 : n ≤ 8) (hk : k + 1 < catN n) : tb n k < tb n (k + 1) := Nat.le_of_ble_eq_true (allK_iff (srt_all n h2) k (show k < Nat.sub (catN n) 1 from by show k < catN n - 1; omega))
theorem tb_mono {n : Nat} (h2 : n ≤ 8) : ∀ j i, i < j → j < catN n → tb n i < tb n j := by
  intro j
  induction j with
  | zero => intro i h; omega
  | succ j ih =>
    intro i h hj
    have s := tb_step h2 hj
    rcases Nat.lt_or_ge i j with z | z
    · have := ih i z (by omega); omega
    · rw [show i = j by omega]; exact s
theorem tb_inj {n i j : Nat} (h2 : n ≤ 8) (hi : i < catN n) (hj : j < catN n) (e : tb n i = tb n j) : i = j := by
  rcases Nat.lt_trichotomy i j with z | z | z
  · have := tb_mono h2 j i z hj; omega
  · exact z
  · have := tb_mono h2 i j z hi; omega
theorem numM_tb {n k : Nat} (h2 : n ≤ 8) (hk : k < catN n) : numM n (tb n k) = k := by
  have L : ∀ f lo hi, hi - lo ≤ f → lo ≤ k → k ≤ hi → hi < catN n → bsF n (tb n k) f lo hi = k := by
    intro f
    induction f with
    | zero => intro lo hi h1 h2 h3 h4; rw [bsF]; omega
    | succ f ih =>
      intro lo hi h1 h3 h4 h5
      rw [bsF]
      by_cases c : lo < hi
      · rw [if_pos c]
        by_cases c2 : tb n ((lo + hi) / 2) < tb n k
        · rw [if_pos c2]
          refine ih _ _ (by omega) ?_ h4 h5
          rcases Nat.lt_or_ge ((lo + hi) / 2) k with z | z
          · omega
          · rcases Nat.lt_or_ge k ((lo + hi) / 2) with w | w
            · have := tb_mono h2 _ _ w (by omega); omega
            · rw [show (lo + hi) / 2 = k by omega] at c2; omega
        · rw [if_neg c2]
          refine ih _ _ (by omega) h3 ?_ (by omega)
          rcases Nat.lt_or_ge ((lo + hi) / 2) k with z | z
          · exact absurd (tb_mono h2 _ _ z hk) c2
          · exact z
      · rw [if_neg c]; omega
  exact L (catN n) 0 (catN n - 1) (by omega) (Nat.zero_le _) (by omega) (by omega)
theorem tb_num {n c : Nat} (h1 : 1 ≤ n) (h2 : n ≤ 8) (g : GdC n c) : numM n c < catN n ∧ tb n (numM n c) = c := by
  obtain ⟨k, hk, rfl⟩ := tb_all h1 h2 g
  rw [numM_tb h2 hk]
  exact ⟨hk, rfl⟩
