/-! MATHEMATICS 19: marked -/
theorem sumI_zero {f : Nat → Int32} : ∀ n, (∀ i, i < n → f i = 0) → sumI f n = 0
  | 0, _ => rfl
  | n + 1, h => by rw [sumI, sumI_zero n (fun i hi => h i (by omega)), h n (by omega)]; rfl
theorem cnt_pl {m : Nat → Nat} {t : Nat} : ∀ k, cnt (plU m t) k = cnt m k + (if t < k then 1 else 0)
  | 0 => by rw [if_neg (by omega)]; rfl
  | k + 1 => by
    rw [cnt, cnt, cnt_pl k]
    unfold plU
    by_cases e : k = t
    · rw [if_pos e, if_neg (by omega), if_pos (by omega)]; omega
    · rw [if_neg e]
      by_cases z : t < k
      · rw [if_pos z, if_pos (by omega)]; omega
      · rw [if_neg z, if_neg (by omega)]; omega
def addL (v : Nat) : Nat → (Nat → Nat) → (Nat → Nat)
  | 0, m => m
  | s + 1, m => addL v s (plU m (v / 10 ^ s % 10))
theorem div_pw (v s : Nat) : v / 10 / 10 ^ s = v / 10 ^ (s + 1) := by
  rw [Nat.div_div_eq_div_mul, Nat.pow_succ, Nat.mul_comm]
theorem lowF_top (k : Nat) : ∀ s v, lowF k (s + 1) v = lowF k s v + (if v / 10 ^ s % 10 < k then 1 else 0) := by
  intro s
  induction s with
  | zero =>
    intro v
    rw [lowF, lowF, lowF, Nat.pow_zero, Nat.div_one, Nat.add_comm]
  | succ s ih =>
    intro v
    rw [lowF, ih (v / 10), div_pw]
    show _ = (if v % 10 < k then 1 else 0) + lowF k s (v / 10) + _
    omega
theorem cnt_addL (v k : Nat) : ∀ s m, cnt (addL v s m) k = cnt m k + lowF k s v := by
  intro s
  induction s with
  | zero => intro m; rfl
  | succ s ih =>
    intro m
    rw [addL, ih, cnt_pl, lowF_top]
    omega
theorem lab_iff : ∀ k v, labF k v = true ↔ (∀ j, j < k → v / 10 ^ j % 10 < 8) ∧ v < 10 ^ k := by
  intro k
  induction k with
  | zero =>
    intro v
    rw [labF, decide_eq_true_iff, Nat.pow_zero]
    exact ⟨fun h => ⟨fun j hj => by omega, by omega⟩, fun h => by omega⟩
  | succ k ih =>
    intro v
    rw [labF, Bool.and_eq_true, decide_eq_true_iff, ih]
    have e : v / 10 < 10 ^ k ↔ v < 10 ^ (k + 1) := by
      rw [Nat.div_lt_iff_lt_mul (by decide), Nat.pow_succ]
    constructor
    · rintro ⟨a, b, c⟩
      refine ⟨fun j hj => ?_, e.mp c⟩
      cases j with
      | zero => rw [Nat.pow_zero, Nat.div_one]; omega
      | succ j => rw [← div_pw]; exact b j (by omega)
    · rintro ⟨a, c⟩
      refine ⟨?_, fun j hj => ?_, e.mpr c⟩
      · have := a 0 (by omega)
        rw [Nat.pow_zero, Nat.div_one] at this
        omega
      · rw [div_pw]; exact a (j + 1) (by omega)
theorem lab_eq (n v : Nat) : labF (n - 1) v = mdB n v := by
  rw [Bool.eq_iff_iff, lab_iff, mdB, Bool.and_eq_true, alln_iff, decide_eq_true_iff]
  constructor
  · rintro ⟨a, b⟩; exact ⟨fun x hx => decide_eq_true (a x hx), b⟩
  · rintro ⟨a, b⟩; exact ⟨fun x hx => of_decide_eq_true (a x hx), b⟩
section MJ
variable {n o : Nat} {X : aX}
/-- the ways to what lies at the rank r, by labels -/
def WM (n r : Nat) (m : Nat → Nat) (W : Nat → Int32) : Prop := ∀ j, j < catN n → rkM n (tb n j) = r → (PF n (rw8 (tb n j)) m → W j = nI 1) ∧ (¬ PF n (rw8 (tb n j)) m → W j = nI 0)
theorem wm_step (h1 : 1 ≤ n) (h2 : n ≤ 8) (ho : ∀ k, k < catN n → blM n (tb n k) o = true) {r l : Nat} {m : Nat → Nat} {W : Nat → Int32} (hc : cnt m n ≤ r) (h : WM n r m W) : WM n (r + 1) (plU m l) (wyK n o r (some l) (catN n) W) := by
  intro k hk ek
  have gk := GdC_tb h1 h2 hk
  rw [wyK_yes _ k hk ek (ho k hk), ws_sum]
  have T : ∀ j, j < catN n → (rkM n (tb n j) = r ∧ 0 < W j ∧ blM n (tb n j) (tb n k) = true ∧ mkB (some l) (mkM n (tb n j) (tb n k)) = true) → PF n (rw8 (tb n j)) m ∧ ∃ x y w, StepR n (rw8 (tb n j)) (rw8 (tb n k)) x y l w := by
    rintro j hj ⟨c1, c2, c3, c4⟩
    have gj := GdC_tb h1 h2 hj
    have P : PF n (rw8 (tb n j)) m := by
      rcases Classical.em (PF n (rw8 (tb n j)) m) with q | q
      · exact q
      · rw [(h j hj c1).2 q] at c2
        exact absurd c2 (by decide)
    obtain ⟨x, y, w, S⟩ := step_of gj gk ((bl_iff gj).mp c3) (by omega)
    have e : mkM n (tb n j) (tb n k) = l := of_decide_eq_true c4
    rw [e] at S
    exact ⟨P, x, y, w, S⟩
  constructor
  · intro P
    have hl : l < n := by
      rcases Nat.lt_or_ge l n with z | z
      · exact z
      · exfalso
        have := pf_tot gk P
        rw [cnt_pl, if_neg (by omega)] at this
        omega
    obtain ⟨j, gj, lj, rj, mj, Pj⟩ := step_ex h1 h2 gk hl P
    obtain ⟨t1, t2⟩ := tb_num h1 h2 gj
    obtain ⟨x, y, w, S⟩ := step_of gj gk lj rj
    rw [mj] at S
    rw [sumI_at (j := numM n j) _ t1, sumI_zero, Int32.zero_add]
    · have e := (h (numM n j) t1 (by rw [t2]; omega)).1 (by rw [t2]; exact Pj)
      rw [t2, e, if_pos ⟨by omega, by decide, (bl_iff gj).mpr lj, decide_eq_true mj⟩]
    · intro i hi
      by_cases c : i = numM n j
      · rw [if_pos c]
      · rw [if_neg c, if_neg]
        intro q
        obtain ⟨Pi, x', y', w', S'⟩ := T i hi q
        have e := step_uni S' S Pi Pj
        exact c (tb_inj h2 hi t1 ((code_ext h2 (GdC_tb h1 h2 hi) gj e).trans t2.symm))
  · intro P
    rw [sumI_zero]
    · rfl
    · intro i hi
      rw [if_neg]
      intro q
      obtain ⟨Pi, x', y', w', S'⟩ := T i hi q
      exact P ((step_pf S').mp Pi).1
theorem wm_all (h1 : 1 ≤ n) (h2 : n ≤ 8) (ho : ∀ k, k < catN n → blM n (tb n k) o = true) {v to : Nat} : ∀ s r m W, to = r + s → cnt m n ≤ r → WM n r m W → WM n (r + s) (addL v s m) (wyR n o to (some v) s r W) := by
  intro s
  induction s with
  | zero => intro r m W _ _ h; exact h
  | succ s ih =>
    intro r m W ht hc h
    rw [wyR, addL, show r + (s + 1) = (r + 1) + s by omega, show dgM (some v) (to - 1 - r) = some (v / 10 ^ s % 10) by rw [show to - 1 - r = s by omega]; rfl]
    refine ih (r + 1) _ _ (by omega) ?_ (wm_step h1 h2 ho hc h)
    rw [cnt_pl]
    split <;> omega
theorem pf_id (h2 : n ≤ 8) : PF n (rw8 (idC n)) (fun _ => 0) := by
  have e : ∀ p, p < n → rw8 (idC n) p = p := fun p hp => by
    have := congrFun (cr_id h2) p
    rwa [cr_rw8 hp, idn, if_pos (by omega)] at this
  intro p hp
  refine ⟨fun ⟨z, z1, z2, z3⟩ => ?_, fun _ => ?_⟩
  · rw [e z z2, e p hp] at z3; omega
  · rw [e p hp, eS, if_pos (e p hp), eS_fl (u := 0) (Nat.zero_le _) (fun q _ hq => by rw [e q (by omega)]; omega)]
    rfl
theorem rw8_0 (x : Nat) : rw8 0 x = 0 := by
  show 0 / 8 ^ (7 - x) % 8 = 0
  rw [Nat.zero_div]
theorem pf_top (h1 : 1 ≤ n) {m : Nat → Nat} : PF n (rw8 0) m ↔ (∀ p, p + 1 < n → p + 1 ≤ cnt m (p + 1)) ∧ cnt m n + 1 = n := by
  have E : ∀ z, eS (rw8 0) m 0 z = ((cnt m z : Nat) : Int) - (z : Int) := by
    intro z
    induction z with
    | zero => rfl
    | succ z ih =>
      rw [eS, if_pos (rw8_0 z), ih, cnt]
      push_cast
      omega
  constructor
  · intro P
    refine ⟨fun p hp => ?_, ?_⟩
    · have := (P p (by omega)).1 ⟨p + 1, by omega, hp, by rw [rw8_0, rw8_0]⟩
      rw [rw8_0, E] at this
      omega
    · have := (P (n - 1) (by omega)).2 (fun z z1 z2 => by omega)
      rw [rw8_0, E, show n - 1 + 1 = n by omega] at this
      omega
  · rintro ⟨a, b⟩ p hp
    rw [rw8_0, E]
    refine ⟨fun ⟨z, z1, z2, _⟩ => ?_, fun q => ?_⟩
    · have := a p (by omega)
      omega
    · have : p + 1 = n := by
        rcases Nat.lt_or_ge (p + 1) n with z | z
        · exact absurd (by rw [rw8_0]) (q (p + 1) (by omega) z)
        · omega
      rw [this]
      omega
theorem prk_iff (h1 : 1 ≤ n) (v : Nat) : PF n (rw8 0) (addL v (n - 1) (fun _ => 0)) ↔ prkF n v = true := by
  have C : ∀ k, cnt (addL v (n - 1) (fun _ => 0)) k = lowF k (n - 1) v := fun k => by
    rw [cnt_addL, cnt_zero k (fun _ _ => rfl), Nat.zero_add]
  rw [pf_top h1, prkF, alln_iff]
  constructor
  · rintro ⟨a, b⟩ k hk
    have := a k (by omega)
    rw [C] at this
    exact decide_eq_true this
  · intro a
    refine ⟨fun p hp => ?_, ?_⟩
    · rw [C]; exact of_decide_eq_true (a p (by omega))
    · have u := lowF_le n (n - 1) v
      have c := C n
      by_cases e : n = 1
      · omega
      · have := of_decide_eq_true (a (n - 2) (by omega))
        rw [← C, show n - 2 + 1 = n - 1 by omega] at this
        have d : cnt (addL v (n - 1) (fun _ => 0)) n = cnt (addL v (n - 1) (fun _ => 0)) (n - 1) + addL v (n - 1) (fun _ => 0) (n - 1) := by
          obtain ⟨q, rfl⟩ : ∃ q, n = q + 1 := ⟨n - 1, by omega⟩
          rfl
        omega
theorem ends_ok : ∀ n, n ≤ 8 → 1 ≤ n → tb n (catN n - 1) = idC n ∧ tb n 0 = 0 ∧ rkM n 0 = n - 1 ∧ rkM n (idC n) = 0 ∧ 0 < catN n := by decide +kernel
theorem mkd_eq (h1 : 1 ≤ n) (h2 : n ≤ 8) (v : Nat) : nI (b01 (prkF n v)) = chM n (tb n (catN n - 1)) (tb n 0) (some v) := by
  obtain ⟨e1, e2, e3, e4, e5⟩ := ends_ok n h2 h1
  have g0 := GdC_tb h1 h2 e5
  obtain ⟨t1, t2⟩ := tb_num h1 h2 g0
  have ho : ∀ k, k < catN n → blM n (tb n k) 0 = true := fun k hk => (bl_iff (GdC_tb h1 h2 hk)).mpr (fun x y _ _ _ => by rw [rw8_0, rw8_0])
  have W0 : WM n 0 (fun _ => 0) (wy0 n (idC n)) := by
    intro j hj ej
    have e := rk0 h2 (GdC_tb h1 h2 hj) ej
    rw [e]
    refine ⟨fun _ => ?_, fun q => absurd (pf_id h2) q⟩
    unfold wy0
    rw [if_pos e]
  have W1 := wm_all h1 h2 ho (v := v) (to := n - 1) (n - 1) 0 _ _ (by omega) (by rw [cnt_zero n (fun _ _ => rfl)]; exact Nat.le_refl _) W0
  have W2 := W1 (numM n (tb n 0)) t1 (by rw [t2, e2, e3]; omega)
  rw [t2, e2, prk_iff h1] at W2
  unfold chM
  rw [e1, e2, e3, e4, Nat.sub_zero]
  rcases q : prkF n v
  · exact (W2.2 (by rw [q]; decide)).symm
  · exact (W2.1 q).symm
theorem E_marked (g : GdX X) (v : Int32) : markedR X v = markedM X v := by
  unfold markedR markedM
  rw [show ngB v = decide (0 ≤ v.toInt) from decide_eq_decide.mpr (by rw [Int32.le_iff_toInt_le]; rfl), lab_eq, mkd_eq g.1.1 g.1.2.1]
end MJ
