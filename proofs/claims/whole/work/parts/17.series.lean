/-! SERIES: moments and cumulants over Int64 -/
abbrev lA (n : Nat) (f : Nat → Int64) : aE := .inl (1, (n, .inr (.inl f)))
def sumL (f : Nat → Int64) : Nat → Int64
  | 0 => 0
  | k + 1 => sumL f k + f k
def upL (f : Nat → Int64) (k : Nat) (v : Int64) : Nat → Int64 := fun i => if i = k then v else f i
/-- the sum of the products of s moments whose indices make r together -/
def pwF (m : Nat → Int64) : Nat → Nat → Int64
  | 0, r => if r = 0 then 1 else 0
  | s + 1, r => sumL (fun i => m i * pwF m s (r - i)) (r + 1)
def tmF (kind n size : Nat) (m : Nat → Int64) : Int64 := if kind = 1 then pwF m size (n - size) else (nI (chF (n - 1) (size - 1))).toInt64 * m (n - size)
def remF (kind n : Nat) (c m : Nat → Int64) : Int64 := if kind = 0 then 0 else sumL (fun i => c (i + 1) * tmF kind n (i + 1) m) (n - 1)
/-- the moments up to the n-th -/
def momF (kind : Nat) (x : Nat → Int64) : Nat → (Nat → Int64)
  | 0 => fun i => if i = 0 then 1 else 0
  | n + 1 => upL (momF kind x n) (n + 1) (x (n + 1) + remF kind (n + 1) x (momF kind x n))
/-- the numbers of a kind up to the n-th, out of the moments -/
def cumF (kind : Nat) (m : Nat → Int64) : Nat → (Nat → Int64)
  | 0 => fun _ => 0
  | n + 1 => upL (cumF kind m n) (n + 1) (m (n + 1) - remF kind (n + 1) (cumF kind m n) m)
theorem sumL_congr {f g : Nat → Int64} : ∀ {k : Nat}, (∀ i, i < k → f i = g i) → sumL f k = sumL g k
  | 0, _ => rfl
  | k + 1, h => by
    show sumL f k + f k = sumL g k + g k
    rw [sumL_congr (fun i hi => h i (by omega)), h k (by omega)]
theorem pwF_congr {m m' : Nat → Int64} : ∀ {s r : Nat}, (∀ i, i ≤ r → m i = m' i) → pwF m s r = pwF m' s r
  | 0, _, _ => rfl
  | s + 1, r, h => by
    unfold pwF
    exact sumL_congr (fun i hi => by rw [h i (by omega), pwF_congr (fun j hj => h j (by omega))])
theorem remF_congr {kind n : Nat} {c c' m m' : Nat → Int64} (hc : ∀ i, 1 ≤ i → i < n → c i = c' i) (hm : ∀ i, i < n → m i = m' i) : remF kind n c m = remF kind n c' m' := by
  unfold remF
  split
  · rfl
  · refine sumL_congr (fun i hi => ?_)
    rw [hc (i + 1) (by omega) (by omega)]
    congr 1
    unfold tmF
    split
    · exact pwF_congr (fun j hj => hm j (by omega))
    · rw [hm _ (by omega)]
theorem momF_le {kind : Nat} {x : Nat → Int64} {i : Nat} : ∀ {n k : Nat}, i ≤ n → n ≤ k → momF kind x k i = momF kind x n i
  | n, 0, h1, h2 => by rw [show n = 0 by omega]
  | n, k + 1, h1, h2 => by
    by_cases e : n = k + 1
    · rw [e]
    · show upL (momF kind x k) (k + 1) _ i = _
      rw [upL, if_neg (by omega), momF_le h1 (by omega)]
def serO : aE := .inr (5, [.ref 183, .ref 184, .ref 185, .ref 186])
def refL (n b : Nat) : aE := .inl (3, (n, .inr (.inr (.inr (.inr (fun i => if i < n then some (b + 1 + i) else none))))))
/-- the workspace of the series: the moments m, and of the rows of powers what is right: the columns below R -/
def SerAt (h : aH) (w g m : Nat → Int64) (R : Nat) : Prop := h 182 = serO ∧ h 183 = lA 9 w ∧ h 184 = lA 9 g ∧ h 185 = lA 9 m ∧ h 186 = refL 9 186 ∧ m 0 = 1 ∧ ∃ pw : Nat → Nat → Int64, (∀ i, i < 9 → h (186 + 1 + i) = lA 9 (pw i)) ∧ (∀ r, r ≤ 8 → pw 0 r = pwF m 0 r) ∧ ∀ s r, r < R → s + r ≤ 8 → pw s r = pwF m s r
theorem upL_eq (f : Nat → Int64) (k : Nat) (v : Int64) : vp_updL f k v = upL f k v := rfl
section SERIES
variable {N : Nat} {h : aH} {P : aP} {w g m : Nat → Int64} {R : Nat}
theorem SerAt.setM {n : Nat} {v : Int64} (S : SerAt h w g m R) (hn : 1 ≤ n) (hR : R ≤ n) : SerAt (hs h 185 (lA 9 (upL m n v))) w g (upL m n v) R := by
  obtain ⟨s1, s2, s3, s4, s5, s6, pw, p1, p2, p3⟩ := S
  refine ⟨by rw [hs_ne (by decide), s1], by rw [hs_ne (by decide), s2], by rw [hs_ne (by decide), s3], hs_eq _ _ _, by rw [hs_ne (by decide), s5], by rw [upL, if_neg (by omega), s6], pw, fun i hi => by rw [hs_ne (by omega), p1 i hi], fun r hr => by rw [p2 r hr]; rfl, fun s r hr hsr => ?_⟩
  rw [p3 s r hr hsr]
  exact pwF_congr (fun i hi => by rw [upL, if_neg (by omega)])
theorem c_raise {r : Nat} (S : SerAt h w g m r) (hr : r ≤ 7) (hP : ∀ h', SerAt h' w g m (r + 1) → (∀ z, z < 187 ∨ 196 ≤ z → h' z = h z) → P none N h') : AM X5_raise [.ref 182, .int (nI r)] N h P := by
  obtain ⟨s1, s2, s3, s4, s5, s6, pw, p1, p2, p3⟩ := S
  refine AM.of0 rfl (Nat.le_of_ble_eq_true rfl) rfl [some (.ref 182), some (.int (nI r)), none, none, none, none] rfl ?_
  refine AW.iconst 1 dX5_raise_0 rfl (nI 1) rfl ?_
  refine AW.istore_n 2 dX5_raise_1 rfl (Nat.le_of_ble_eq_true rfl) rfl ?_
  have L : ∀ k s, s + 1 + k + r = 9 → ∀ (h1 : aH) (pw1 : Nat → Nat → Int64), (∀ z, z < 187 ∨ 196 ≤ z → h1 z = h z) → (∀ i, i < 9 → h1 (186 + 1 + i) = lA 9 (pw1 i)) → (∀ r, r ≤ 8 → pw1 0 r = pwF m 0 r) → (∀ s r', r' < r → s + r' ≤ 8 → pw1 s r' = pwF m s r') → (∀ s', s' ≤ s → s' + r ≤ 8 → pw1 s' r = pwF m s' r) → ∀ o1 o2 o3, AW X5_raise 2 [some (.ref 182), some (.int (nI r)), some (.int (nI (s + 1))), o1, o2, o3] [] N (0, 0) h1 P := by
    intro k
    induction k with
    | zero =>
      intro s hk h1 pw1 g1 g2 g3 g4 g5 o1 o2 o3
      refine AW.iload_n 3 dX5_raise_2 rfl (by rfl) ?_
      refine AW.iload_n 4 dX5_raise_3 rfl (by rfl) ?_
      first | refine AW.iaddN 5 dX5_raise_4 rfl ?_ | refine AW.iadd 5 dX5_raise_4 rfl ?_
      refine AW.bipush 7 dX5_raise_5 rfl (nI 8) rfl ?_
      refine AW.ngt 66 10 dX5_raise_7 (by decide) rfl (by omega) (by omega) (fun c => ?_) (fun c => ?_)
      · refine AW.vret dX5_raise_66 rfl ?_
        refine hP h1 ⟨by rw [g1 _ (by omega), s1], by rw [g1 _ (by omega), s2], by rw [g1 _ (by omega), s3], by rw [g1 _ (by omega), s4], by rw [g1 _ (by omega), s5], s6, pw1, g2, g3, fun s' r' hr' hsr => ?_⟩ g1
        rcases Nat.lt_or_ge r' r with q | q
        · exact g4 s' r' q hsr
        · obtain rfl : r' = r := by omega
          exact g5 s' (by omega) hsr
      · omega
    | succ k ih =>
      intro s hk h1 pw1 g1 g2 g3 g4 g5 o1 o2 o3
      have x182 : h1 182 = serO := by rw [g1 _ (by omega), s1]
      have x185 : h1 185 = lA 9 m := by rw [g1 _ (by omega), s4]
      have x186 : h1 186 = refL 9 186 := by rw [g1 _ (by omega), s5]
      have xs := g2 s (by omega)
      have xs1 := g2 (s + 1) (by omega)
      refine AW.iload_n 3 dX5_raise_2 rfl (by rfl) ?_
      refine AW.iload_n 4 dX5_raise_3 rfl (by rfl) ?_
      first | refine AW.iaddN 5 dX5_raise_4 rfl ?_ | refine AW.iadd 5 dX5_raise_4 rfl ?_
      refine AW.bipush 7 dX5_raise_5 rfl (nI 8) rfl ?_
      refine AW.ngt 66 10 dX5_raise_7 (by decide) rfl (by omega) (by omega) (fun c => ?_) (fun c => ?_)
      · omega
      · have I : ∀ j i, i + j = r + 1 → AW X5_raise 15 [some (.ref 182), some (.int (nI r)), some (.int (nI (s + 1))), some (.long (sumL (fun i => m i * pwF m s (r - i)) i)), none, some (.int (nI i))] [] N (0, 0) h1 P := by
          intro j
          induction j with
          | zero =>
            intro i hi
            refine AW.iload 17 dX5_raise_15 rfl (by rfl) ?_
            refine AW.iload_n 18 dX5_raise_17 rfl (by rfl) ?_
            refine AW.ngt 51 21 dX5_raise_18 (by decide) rfl (by omega) (by omega) (fun c2 => ?_) (fun c2 => ?_)
            · refine AW.aload_n 52 dX5_raise_51 rfl (by rfl) ?_
              refine AW.getfield 55 dX5_raise_52 rfl fl_X5_23 (by assumption) (by rfl) ?_
              refine AW.iload_n 56 dX5_raise_55 rfl (by rfl) ?_
              refine AW.aaload 57 _ dX5_raise_56 rfl (by assumption) (fun _ => rfl) rfl (ix_nI (by omega)) (by omega) (if_pos (show s + 1 < 9 by omega)) ?_
              refine AW.iload_n 58 dX5_raise_57 rfl (by rfl) ?_
              refine AW.lload_n 59 dX5_raise_58 rfl (by rfl) ?_
              refine AW.lastore 60 _ dX5_raise_59 rfl (by assumption) (ix_nI (by omega)) (by omega) ?_
              refine AW.iinc1 63 dX5_raise_60 rfl (by rfl) rfl ?_
              refine AW.goto 2 dX5_raise_63 (by decide) ?_
              have e : sumL (fun i => m i * pwF m s (r - i)) i = pwF m (s + 1) r := by rw [show i = r + 1 by omega]; rfl
              refine ih (s + 1) (by omega) _ (fun a => if a = s + 1 then upL (pw1 (s + 1)) r (pwF m (s + 1) r) else pw1 a) (fun z hz => by rw [hs_ne (by omega), g1 z hz]) (fun a ha => ?_) (fun a ha => by rw [if_neg (by omega)]; exact g3 a ha) (fun a b hb hab => ?_) (fun a ha har => ?_) _ _ _
              · by_cases q : a = s + 1
                · subst q; rw [hs_eq, if_pos rfl, e]; rfl
                · rw [hs_ne (by omega), if_neg q]; exact g2 a ha
              · by_cases q : a = s + 1
                · subst q; rw [if_pos rfl, upL, if_neg (by omega)]; exact g4 _ b hb hab
                · rw [if_neg q]; exact g4 a b hb hab
              · by_cases q : a = s + 1
                · subst q; rw [if_pos rfl, upL, if_pos rfl]
                · rw [if_neg q]; exact g5 a (by omega) har
            · omega
          | succ j ihj =>
            intro i hi
            refine AW.iload 17 dX5_raise_15 rfl (by rfl) ?_
            refine AW.iload_n 18 dX5_raise_17 rfl (by rfl) ?_
            refine AW.ngt 51 21 dX5_raise_18 (by decide) rfl (by omega) (by omega) (fun c2 => ?_) (fun c2 => ?_)
            · omega
            · have e : pw1 s (r - i) = pwF m s (r - i) := by
                rcases Nat.eq_zero_or_pos i with q | q
                · subst q; exact g5 s (Nat.le_refl _) (by omega)
                · exact g4 s (r - i) (by omega) (by omega)
              refine AW.lload_n 22 dX5_raise_21 rfl (by rfl) ?_
              refine AW.aload_n 23 dX5_raise_22 rfl (by rfl) ?_
              refine AW.getfield 26 dX5_raise_23 rfl fl_X5_18 (by assumption) (by rfl) ?_
              refine AW.iload 28 dX5_raise_26 rfl (by rfl) ?_
              refine AW.laload 29 _ dX5_raise_28 rfl (by assumption) rfl (ix_nI (by omega)) (by omega) ?_
              refine AW.aload_n 30 dX5_raise_29 rfl (by rfl) ?_
              refine AW.getfield 33 dX5_raise_30 rfl fl_X5_23 (by assumption) (by rfl) ?_
              refine AW.iload_n 34 dX5_raise_33 rfl (by rfl) ?_
              refine AW.iconst 35 dX5_raise_34 rfl (nI 1) rfl ?_
              first | refine AW.isubN 36 dX5_raise_35 rfl (by omega) ?_ | refine AW.isub 36 dX5_raise_35 rfl ?_
              refine AW.aaload 37 _ dX5_raise_36 rfl (by assumption) (fun _ => rfl) rfl (ix_nI (by omega)) (by omega) (if_pos (show s < 9 by omega)) ?_
              refine AW.iload_n 38 dX5_raise_37 rfl (by rfl) ?_
              refine AW.iload 40 dX5_raise_38 rfl (by rfl) ?_
              first | refine AW.isubN 41 dX5_raise_40 rfl (by omega) ?_ | refine AW.isub 41 dX5_raise_40 rfl ?_
              refine AW.laload 42 _ dX5_raise_41 rfl (by assumption) rfl (ix_nI (by omega)) (by omega) ?_
              rw [e]
              refine AW.lmul 43 dX5_raise_42 rfl ?_
              refine AW.ladd 44 dX5_raise_43 rfl ?_
              refine AW.lstore_n 45 dX5_raise_44 rfl (Nat.le_of_ble_eq_true rfl) rfl ?_
              refine AW.iinc1 48 dX5_raise_45 rfl (by rfl) rfl ?_
              refine AW.goto 15 dX5_raise_48 (by decide) ?_
              exact ihj (i + 1) (by omega)
        refine AW.lconst 11 dX5_raise_10 rfl 0 rfl ?_
        refine AW.lstore_n 12 dX5_raise_11 rfl (Nat.le_of_ble_eq_true rfl) rfl ?_
        refine AW.iconst 13 dX5_raise_12 rfl (nI 0) rfl ?_
        refine AW.istore 15 dX5_raise_13 rfl (Nat.le_of_ble_eq_true rfl) rfl ?_
        exact I (r + 1) 0 (by omega)
  exact L (8 - r) 0 (by omega) h pw (fun _ _ => rfl) p1 p2 p3 (fun s' hs' hsr => by rw [show s' = 0 by omega]; exact p2 r (by omega)) none none none
theorem c_besides {n size : Nat} (S : SerAt h w g m R) (h1 : 1 ≤ size) (h2 : size ≤ n) (hn : n ≤ 8) (hP : P (some (.long ((nI (chF (n - 1) (size - 1))).toInt64 * m (n - size)))) N h) : AM X5_besides [.ref 182, .int (nI n), .int (nI size)] N h P := by
  have s1 := S.1
  have s4 := S.2.2.2.1
  refine AM.of0 rfl (Nat.le_of_ble_eq_true rfl) rfl [some (.ref 182), some (.int (nI n)), some (.int (nI size))] rfl ?_
  refine AW.iload_n 1 dX5_besides_0 rfl (by rfl) ?_
  refine AW.iconst 2 dX5_besides_1 rfl (nI 1) rfl ?_
  first | refine AW.isubN 3 dX5_besides_2 rfl (by omega) ?_ | refine AW.isub 3 dX5_besides_2 rfl ?_
  refine AW.iload_n 4 dX5_besides_3 rfl (by rfl) ?_
  refine AW.iconst 5 dX5_besides_4 rfl (nI 1) rfl ?_
  first | refine AW.isubN 6 dX5_besides_5 rfl (by omega) ?_ | refine AW.isub 6 dX5_besides_5 rfl ?_
  refine AW.cN2 9 dX5_besides_6 rfl mi_X7_choose ms_X7_choose lk_X5_38 ⟨(Nat.le_of_ble_eq_true rfl), (Nat.le_of_ble_eq_true rfl)⟩ rfl (Nat.le_of_ble_eq_true rfl) (c_choose (by omega) ?_ (by omega))
  refine AW.i2l 10 dX5_besides_9 rfl ?_
  refine AW.aload_n 11 dX5_besides_10 rfl (by rfl) ?_
  refine AW.getfield 14 dX5_besides_11 rfl fl_X5_18 (by assumption) (by rfl) ?_
  refine AW.iload_n 15 dX5_besides_14 rfl (by rfl) ?_
  refine AW.iload_n 16 dX5_besides_15 rfl (by rfl) ?_
  first | refine AW.isubN 17 dX5_besides_16 rfl (by omega) ?_ | refine AW.isub 17 dX5_besides_16 rfl ?_
  refine AW.laload 18 _ dX5_besides_17 rfl (by assumption) rfl (ix_nI (by omega)) (by omega) ?_
  refine AW.lmul 19 dX5_besides_18 rfl ?_
  refine AW.lret dX5_besides_19 rfl ?_
  exact hP
theorem c_remainder {kind n pc : Nat} {c : Nat → Int64} (S : SerAt h w g m R) (hR : kind = 1 → R = n - 1) (hk : kind < 3) (h1 : 1 ≤ n) (hn : n ≤ 8) (hpc : pc = 183 ∨ pc = 184) (hc : h pc = lA 9 c) (hP : ∀ h', SerAt h' w g m (if kind = 1 then n else R) → (∀ z, z < 187 ∨ 196 ≤ z → h' z = h z) → P (some (.long (remF kind n c m))) N h') : AM X5_remainder [.ref 182, .int (nI kind), .int (nI n), .ref pc] N h P := by
  have s1 := S.1
  refine AM.of0 rfl (Nat.le_of_ble_eq_true rfl) rfl [some (.ref 182), some (.int (nI kind)), some (.int (nI n)), some (.ref pc), none, none, none] rfl ?_
  have L : ∀ (h' : aH), SerAt h' w g m (if kind = 1 then n else R) → (∀ z, z < 187 ∨ 196 ≤ z → h' z = h z) → kind ≠ 0 → AW X5_remainder 18 [some (.ref 182), some (.int (nI kind)), some (.int (nI n)), some (.ref pc), none, none, none] [] N (0, 0) h' P := by
    intro h' S' f' hk0
    obtain ⟨t1, t2, t3, t4, t5, t6, pw, p1, p2, p3⟩ := id S'
    have xc : h' pc = lA 9 c := by rw [f' pc (by omega), hc]
    refine AW.lconst 19 dX5_remainder_18 rfl 0 rfl ?_
    refine AW.lstore 21 dX5_remainder_19 rfl (Nat.le_of_ble_eq_true rfl) rfl ?_
    refine AW.iconst 22 dX5_remainder_21 rfl (nI 1) rfl ?_
    refine AW.istore 24 dX5_remainder_22 rfl (Nat.le_of_ble_eq_true rfl) rfl ?_
    have I : ∀ j i, i + j + 1 = n → AW X5_remainder 24 [some (.ref 182), some (.int (nI kind)), some (.int (nI n)), some (.ref pc), some (.long (sumL (fun i => c (i + 1) * tmF kind n (i + 1) m) i)), none, some (.int (nI (i + 1)))] [] N (0, 0) h' P := by
      intro j
      induction j with
      | zero =>
        intro i hi
        refine AW.iload 26 dX5_remainder_24 rfl (by rfl) ?_
        refine AW.iload_n 27 dX5_remainder_26 rfl (by rfl) ?_
        refine AW.nge 73 30 dX5_remainder_27 (by decide) rfl (by omega) (by omega) (fun c2 => ?_) (fun c2 => ?_)
        · refine AW.lload 75 dX5_remainder_73 rfl (by rfl) ?_
          refine AW.lret dX5_remainder_75 rfl ?_
          have hP := hP h' S' f'
          rw [remF, if_neg hk0, show n - 1 = i by omega] at hP
          exact hP
        · omega
      | succ j ih =>
        intro i hi
        have xp := p1 (i + 1) (by omega)
        refine AW.iload 26 dX5_remainder_24 rfl (by rfl) ?_
        refine AW.iload_n 27 dX5_remainder_26 rfl (by rfl) ?_
        refine AW.nge 73 30 dX5_remainder_27 (by decide) rfl (by omega) (by omega) (fun c2 => ?_) (fun c2 => ?_)
        · omega
        · have J : ∀ t, t = tmF kind n (i + 1) m → AW X5_remainder 63 [some (.ref 182), some (.int (nI kind)), some (.int (nI n)), some (.ref pc), some (.long (sumL (fun i => c (i + 1) * tmF kind n (i + 1) m) i)), none, some (.int (nI (i + 1)))] [.long t, .long (c (i + 1)), .long (sumL (fun i => c (i + 1) * tmF kind n (i + 1) m) i)] N (0, 0) h' P := by
            intro t ht
            refine AW.lmul 64 dX5_remainder_63 rfl ?_
            refine AW.ladd 65 dX5_remainder_64 rfl ?_
            refine AW.lstore 67 dX5_remainder_65 rfl (Nat.le_of_ble_eq_true rfl) rfl ?_
            refine AW.iinc1 70 dX5_remainder_67 rfl (by rfl) rfl ?_
            refine AW.goto 24 dX5_remainder_70 (by decide) ?_
            rw [ht]
            exact ih (i + 1) (by omega)
          refine AW.lload 32 dX5_remainder_30 rfl (by rfl) ?_
          refine AW.aload_n 33 dX5_remainder_32 rfl (by rfl) ?_
          refine AW.iload 35 dX5_remainder_33 rfl (by rfl) ?_
          refine AW.laload 36 _ dX5_remainder_35 rfl (by assumption) rfl (ix_nI (by omega)) (by omega) ?_
          refine AW.iload_n 37 dX5_remainder_36 rfl (by rfl) ?_
          refine AW.iconst 38 dX5_remainder_37 rfl (nI 1) rfl ?_
          refine AW.nne 56 41 dX5_remainder_38 (by decide) rfl (by omega) (by omega) (fun c3 => ?_) (fun c3 => ?_)
          · refine AW.aload_n 57 dX5_remainder_56 rfl (by rfl) ?_
            refine AW.iload_n 58 dX5_remainder_57 rfl (by rfl) ?_
            refine AW.iload 60 dX5_remainder_58 rfl (by rfl) ?_
            refine AW.cV2 63 dX5_remainder_60 rfl mi_X5_besides mv_X5_besides lk_X5_34 ⟨(Nat.le_of_ble_eq_true rfl), (Nat.le_of_ble_eq_true rfl)⟩ rfl (by assumption) rfl (Nat.le_of_ble_eq_true rfl) (c_besides S' (by omega) (by omega) hn ?_)
            exact J _ (by rw [tmF, if_neg c3])
          · refine AW.aload_n 42 dX5_remainder_41 rfl (by rfl) ?_
            refine AW.getfield 45 dX5_remainder_42 rfl fl_X5_23 (by assumption) (by rfl) ?_
            refine AW.iload 47 dX5_remainder_45 rfl (by rfl) ?_
            refine AW.aaload 48 _ dX5_remainder_47 rfl (by assumption) (fun _ => rfl) rfl (ix_nI (by omega)) (by omega) (if_pos (show i + 1 < 9 by omega)) ?_
            refine AW.iload_n 49 dX5_remainder_48 rfl (by rfl) ?_
            refine AW.iload 51 dX5_remainder_49 rfl (by rfl) ?_
            first | refine AW.isubN 52 dX5_remainder_51 rfl (by omega) ?_ | refine AW.isub 52 dX5_remainder_51 rfl ?_
            refine AW.laload 53 _ dX5_remainder_52 rfl (by assumption) rfl (ix_nI (by omega)) (by omega) ?_
            rw [if_pos c3] at p3
            rw [p3 (i + 1) (n - (i + 1)) (by omega) (by omega)]
            refine AW.goto 63 dX5_remainder_53 (by decide) ?_
            exact J _ (by rw [tmF, if_pos c3])
    exact I (n - 1) 0 (by omega)
  refine AW.iload_n 1 dX5_remainder_0 rfl (by rfl) ?_
  refine AW.ine 6 4 dX5_remainder_1 (by decide) rfl (by omega) (fun c1 => ?_) (fun c1 => ?_)
  · refine AW.iload_n 7 dX5_remainder_6 rfl (by rfl) ?_
    refine AW.iconst 8 dX5_remainder_7 rfl (nI 1) rfl ?_
    refine AW.nne 18 11 dX5_remainder_8 (by decide) rfl (by omega) (by omega) (fun c2 => ?_) (fun c2 => ?_)
    · exact L h (by rw [if_neg c2]; exact S) (fun _ _ => rfl) c1
    · refine AW.aload_n 12 dX5_remainder_11 rfl (by rfl) ?_
      refine AW.iload_n 13 dX5_remainder_12 rfl (by rfl) ?_
      refine AW.iconst 14 dX5_remainder_13 rfl (nI 1) rfl ?_
      first | refine AW.isubN 15 dX5_remainder_14 rfl (by omega) ?_ | refine AW.isub 15 dX5_remainder_14 rfl ?_
      have e := hR c2
      subst e
      refine AW.cV1 18 dX5_remainder_15 rfl mi_X5_raise mv_X5_raise lk_X5_30 ⟨(Nat.le_of_ble_eq_true rfl), (Nat.le_of_ble_eq_true rfl)⟩ rfl (by assumption) rfl (Nat.le_of_ble_eq_true rfl) (c_raise S (by omega) (fun h' S' f' => ?_))
      exact L h' (by rw [if_pos c2]; rw [show n - 1 + 1 = n by omega] at S'; exact S') f' c1
  · refine AW.lconst 5 dX5_remainder_4 rfl 0 rfl ?_
    refine AW.lret dX5_remainder_5 rfl ?_
    have hP := hP h (by rw [if_neg (by omega)]; exact S) (fun _ _ => rfl)
    rw [remF, if_pos c1] at hP
    exact hP
theorem SerAt.mono {R' : Nat} (S : SerAt h w g m R) (hR : R' ≤ R) : SerAt h w g m R' := by
  obtain ⟨s1, s2, s3, s4, s5, s6, pw, p1, p2, p3⟩ := S
  exact ⟨s1, s2, s3, s4, s5, s6, pw, p1, p2, fun s r hr hsr => p3 s r (by omega) hsr⟩
theorem SerAt.setG {f : Nat → Int64} (S : SerAt h w g m R) : SerAt (hs h 184 (lA 9 f)) w f m R := by
  obtain ⟨s1, s2, s3, s4, s5, s6, pw, p1, p2, p3⟩ := S
  exact ⟨by rw [hs_ne (by decide), s1], by rw [hs_ne (by decide), s2], hs_eq _ _ _, by rw [hs_ne (by decide), s4], by rw [hs_ne (by decide), s5], s6, pw, fun i hi => by rw [hs_ne (by omega), p1 i hi], p2, p3⟩
theorem SerAt.setW {f : Nat → Int64} (S : SerAt h w g m R) : SerAt (hs h 183 (lA 9 f)) f g m R := by
  obtain ⟨s1, s2, s3, s4, s5, s6, pw, p1, p2, p3⟩ := S
  exact ⟨by rw [hs_ne (by decide), s1], hs_eq _ _ _, by rw [hs_ne (by decide), s3], by rw [hs_ne (by decide), s4], by rw [hs_ne (by decide), s5], s6, pw, fun i hi => by rw [hs_ne (by omega), p1 i hi], p2, p3⟩
theorem SerAt.same {h' : aH} (S : SerAt h w g m R) (e : ∀ z, 182 ≤ z → z < 196 → h' z = h z) : SerAt h' w g m R := by
  obtain ⟨s1, s2, s3, s4, s5, s6, pw, p1, p2, p3⟩ := S
  exact ⟨by rw [e _ (by omega) (by omega), s1], by rw [e _ (by omega) (by omega), s2], by rw [e _ (by omega) (by omega), s3], by rw [e _ (by omega) (by omega), s4], by rw [e _ (by omega) (by omega), s5], s6, pw, fun i hi => by rw [e _ (by omega) (by omega), p1 i hi], p2, p3⟩
def xsF (x : Nat → Int32) (i : Nat) : Int64 := (x (i - 1)).toInt64
def asF (j k : Nat) (x : Nat → Int32) : Nat → Int64 := cumF k (momF j (xsF x) 8) 8
theorem cumF_le {kind : Nat} {x : Nat → Int64} {i : Nat} : ∀ {n k : Nat}, i ≤ n → n ≤ k → cumF kind x k i = cumF kind x n i
  | n, 0, h1, h2 => by rw [show n = 0 by omega]
  | n, k + 1, h1, h2 => by
    by_cases e : n = k + 1
    · rw [e]
    · show upL (cumF kind x k) (k + 1) _ i = _
      rw [upL, if_neg (by omega), cumF_le h1 (by omega)]
theorem c_convert {j k pa : Nat} {x : Nat → Int32} (S : SerAt h w g m R) (hj : j < 3) (hk : k < 3) (hpa : pa < 182 ∨ 196 ≤ pa) (hx : h pa = .inl (0, (8, .inl x))) (hP : ∀ h' w g m R, SerAt h' w g m R → (∀ i, 1 ≤ i → i ≤ 8 → w i = asF j k x i) → (∀ z, z < 183 ∨ 196 ≤ z → h' z = h z) → P none N h') : AM X5_convert [.ref 182, .ref pa, .int (nI j), .int (nI k)] N h P := by
  refine AM.of0 rfl (Nat.le_of_ble_eq_true rfl) rfl [some (.ref 182), some (.ref pa), some (.int (nI j)), some (.int (nI k)), none] rfl ?_
  have L2 : ∀ l n, n + l = 8 → ∀ (h1 : aH) (w g m : Nat → Int64) (R : Nat), SerAt h1 w g m R → (k = 1 → R = n) → (∀ z, z < 183 ∨ 196 ≤ z → h1 z = h z) → (∀ i, i ≤ 8 → m i = momF j (xsF x) 8 i) → (∀ i, 1 ≤ i → i ≤ n → w i = cumF k (momF j (xsF x) 8) n i) → AW X5_convert 59 [some (.ref 182), some (.ref pa), some (.int (nI j)), some (.int (nI k)), some (.int (nI (n + 1)))] [] N (0, 0) h1 P := by
    intro l
    induction l with
    | zero =>
      intro n hn h1 w g m R S hR f hm hw
      refine AW.iload 61 dX5_convert_59 rfl (by rfl) ?_
      refine AW.bipush 63 dX5_convert_61 rfl (nI 8) rfl ?_
      refine AW.ngt 98 66 dX5_convert_63 (by decide) rfl (by omega) (by omega) (fun c => ?_) (fun c => ?_)
      · refine AW.vret dX5_convert_98 rfl ?_
        refine hP h1 w g m R S (fun i i1 i2 => ?_) f
        rw [hw i i1 (by omega), asF, show n = 8 by omega]
      · omega
    | succ l ih =>
      intro n hn h1 w g m R S hR f hm hw
      have x182 := S.1
      have x183 := S.2.1
      have x185 := S.2.2.2.1
      refine AW.iload 61 dX5_convert_59 rfl (by rfl) ?_
      refine AW.bipush 63 dX5_convert_61 rfl (nI 8) rfl ?_
      refine AW.ngt 98 66 dX5_convert_63 (by decide) rfl (by omega) (by omega) (fun c => ?_) (fun c => ?_)
      · omega
      · refine AW.aload_n 67 dX5_convert_66 rfl (by rfl) ?_
        refine AW.getfield 70 dX5_convert_67 rfl fl_X5_9 (by assumption) (by rfl) ?_
        refine AW.iload 72 dX5_convert_70 rfl (by rfl) ?_
        refine AW.aload_n 73 dX5_convert_72 rfl (by rfl) ?_
        refine AW.getfield 76 dX5_convert_73 rfl fl_X5_18 (by assumption) (by rfl) ?_
        refine AW.iload 78 dX5_convert_76 rfl (by rfl) ?_
        refine AW.laload 79 _ dX5_convert_78 rfl (by assumption) rfl (ix_nI (by omega)) (by omega) ?_
        refine AW.aload_n 80 dX5_convert_79 rfl (by rfl) ?_
        refine AW.iload_n 81 dX5_convert_80 rfl (by rfl) ?_
        refine AW.iload 83 dX5_convert_81 rfl (by rfl) ?_
        refine AW.aload_n 84 dX5_convert_83 rfl (by rfl) ?_
        refine AW.getfield 87 dX5_convert_84 rfl fl_X5_9 (by assumption) (by rfl) ?_
        refine AW.cV3 90 dX5_convert_87 rfl mi_X5_remainder mv_X5_remainder lk_X5_26 ⟨(Nat.le_of_ble_eq_true rfl), (Nat.le_of_ble_eq_true rfl)⟩ rfl (by assumption) rfl (Nat.le_of_ble_eq_true rfl) (c_remainder S (fun q => by rw [hR q]; rfl) hk (by omega) (by omega) (Or.inl rfl) x183 (fun h' S' f' => ?_))
        refine AW.lsub 91 dX5_convert_90 rfl ?_
        have y183 := S'.2.1
        refine AW.lastore 92 _ dX5_convert_91 rfl (by assumption) (ix_nI (by omega)) (by omega) ?_
        refine AW.iinc1 95 dX5_convert_92 rfl (by rfl) rfl ?_
        refine AW.goto 59 dX5_convert_95 (by decide) ?_
        have e : m (n + 1) - remF k (n + 1) w m = cumF k (momF j (xsF x) 8) (n + 1) (n + 1) := by
          rw [cumF, upL, if_pos rfl, hm (n + 1) (by omega), remF_congr (c' := cumF k (momF j (xsF x) 8) n) (m' := momF j (xsF x) 8) (fun i i1 i2 => hw i i1 (by omega)) (fun i hi => hm i (by omega))]
        refine ih (n + 1) (by omega) _ _ g m _ (S'.setW (f := upL w (n + 1) (m (n + 1) - remF k (n + 1) w m))) (fun q => by rw [if_pos q]) (fun z hz => by rw [hs_ne (by omega), f' z (by omega), f z hz]) hm (fun i i1 i2 => ?_)
        by_cases q : i = n + 1
        · subst q; rw [upL, if_pos rfl, e]
        · rw [upL, if_neg q, hw i i1 (by omega), cumF_le (n := n) (k := n + 1) (by omega) (by omega)]
  have L1 : ∀ l n, n + l = 8 → ∀ (h1 : aH) (w g m : Nat → Int64) (R : Nat), SerAt h1 w g m R → R ≤ n → (j = 1 → R = n) → (∀ z, z < 183 ∨ 196 ≤ z → h1 z = h z) → (∀ i, 1 ≤ i → i ≤ n → g i = xsF x i) → (∀ i, i ≤ n → m i = momF j (xsF x) n i) → AW X5_convert 3 [some (.ref 182), some (.ref pa), some (.int (nI j)), some (.int (nI k)), some (.int (nI (n + 1)))] [] N (0, 0) h1 P := by
    intro l
    induction l with
    | zero =>
      intro n hn h1 w g m R S hR0 hR f hg hm
      refine AW.iload 5 dX5_convert_3 rfl (by rfl) ?_
      refine AW.bipush 7 dX5_convert_5 rfl (nI 8) rfl ?_
      refine AW.ngt 56 10 dX5_convert_7 (by decide) rfl (by omega) (by omega) (fun c => ?_) (fun c => ?_)
      · refine AW.iconst 57 dX5_convert_56 rfl (nI 1) rfl ?_
        refine AW.istore 59 dX5_convert_57 rfl (Nat.le_of_ble_eq_true rfl) rfl ?_
        refine L2 8 0 (by omega) h1 w g m 0 (S.mono (by omega)) (fun _ => rfl) f (fun i hi => ?_) (fun i i1 i2 => by omega)
        rw [hm i (by omega), show n = 8 by omega]
      · omega
    | succ l ih =>
      intro n hn h1 w g m R S hR0 hR f hg hm
      have x182 := S.1
      have x184 := S.2.2.1
      have xpa : h1 pa = .inl (0, (8, .inl x)) := by rw [f pa (by omega), hx]
      refine AW.iload 5 dX5_convert_3 rfl (by rfl) ?_
      refine AW.bipush 7 dX5_convert_5 rfl (nI 8) rfl ?_
      refine AW.ngt 56 10 dX5_convert_7 (by decide) rfl (by omega) (by omega) (fun c => ?_) (fun c => ?_)
      · omega
      · refine AW.aload_n 11 dX5_convert_10 rfl (by rfl) ?_
        refine AW.getfield 14 dX5_convert_11 rfl fl_X5_15 (by assumption) (by rfl) ?_
        refine AW.iload 16 dX5_convert_14 rfl (by rfl) ?_
        refine AW.aload_n 17 dX5_convert_16 rfl (by rfl) ?_
        refine AW.iload 19 dX5_convert_17 rfl (by rfl) ?_
        refine AW.iconst 20 dX5_convert_19 rfl (nI 1) rfl ?_
        first | refine AW.isubN 21 dX5_convert_20 rfl (by omega) ?_ | refine AW.isub 21 dX5_convert_20 rfl ?_
        refine AW.iaload 22 _ dX5_convert_21 rfl (by assumption) (by first | exact Or.inl rfl | exact Or.inr rfl) (ix_nI (by omega)) (by omega) ?_
        refine AW.i2l 23 dX5_convert_22 rfl ?_
        refine AW.lastore 24 _ dX5_convert_23 rfl (by assumption) (ix_nI (by omega)) (by omega) ?_
        have S1 := S.setG (f := upL g (n + 1) (xsF x (n + 1)))
        refine AW.heap (hs h1 184 (lA 9 (upL g (n + 1) (xsF x (n + 1))))) rfl ?_
        have y182 := S1.1
        have y184 := S1.2.2.1
        refine AW.aload_n 25 dX5_convert_24 rfl (by rfl) ?_
        refine AW.getfield 28 dX5_convert_25 rfl fl_X5_18 (by assumption) (by rfl) ?_
        refine AW.iload 30 dX5_convert_28 rfl (by rfl) ?_
        refine AW.aload_n 31 dX5_convert_30 rfl (by rfl) ?_
        refine AW.getfield 34 dX5_convert_31 rfl fl_X5_15 (by assumption) (by rfl) ?_
        refine AW.iload 36 dX5_convert_34 rfl (by rfl) ?_
        refine AW.laload 37 _ dX5_convert_36 rfl (by assumption) rfl (ix_nI (by omega)) (by omega) ?_
        refine AW.aload_n 38 dX5_convert_37 rfl (by rfl) ?_
        refine AW.iload_n 39 dX5_convert_38 rfl (by rfl) ?_
        refine AW.iload 41 dX5_convert_39 rfl (by rfl) ?_
        refine AW.aload_n 42 dX5_convert_41 rfl (by rfl) ?_
        refine AW.getfield 45 dX5_convert_42 rfl fl_X5_15 (by assumption) (by rfl) ?_
        refine AW.cV3 48 dX5_convert_45 rfl mi_X5_remainder mv_X5_remainder lk_X5_26 ⟨(Nat.le_of_ble_eq_true rfl), (Nat.le_of_ble_eq_true rfl)⟩ rfl (by assumption) rfl (Nat.le_of_ble_eq_true rfl) (c_remainder S1 (fun q => by rw [hR q]; rfl) hj (by omega) (by omega) (Or.inr rfl) y184 (fun h' S' f' => ?_))
        have z185 := S'.2.2.2.1
        refine AW.ladd 49 dX5_convert_48 rfl ?_
        refine AW.lastore 50 _ dX5_convert_49 rfl (by assumption) (ix_nI (by omega)) (by omega) ?_
        refine AW.iinc1 53 dX5_convert_50 rfl (by rfl) rfl ?_
        refine AW.goto 3 dX5_convert_53 (by decide) ?_
        have hgi : ∀ i, 1 ≤ i → i ≤ n + 1 → upL g (n + 1) (xsF x (n + 1)) i = xsF x i := fun i i1 i2 => by
          by_cases q : i = n + 1
          · subst q; rw [upL, if_pos rfl]
          · rw [upL, if_neg q, hg i i1 (by omega)]
        have e : upL g (n + 1) (xsF x (n + 1)) (n + 1) + remF j (n + 1) (upL g (n + 1) (xsF x (n + 1))) m = momF j (xsF x) (n + 1) (n + 1) := by
          rw [momF, upL, if_pos rfl, upL, if_pos rfl, remF_congr (c' := xsF x) (m' := momF j (xsF x) n) (fun i i1 i2 => hgi i i1 (by omega)) (fun i hi => hm i (by omega))]
        refine ih (n + 1) (by omega) _ w _ _ _ (S'.setM (n := n + 1) (v := upL g (n + 1) (xsF x (n + 1)) (n + 1) + remF j (n + 1) (upL g (n + 1) (xsF x (n + 1))) m) (by omega) (by split <;> omega)) (by split <;> omega) (fun q => by rw [if_pos q]) (fun z hz => by rw [hs_ne (by omega), f' z (by omega), hs_ne (by omega), f z hz]) hgi (fun i hi => ?_)
        by_cases q : i = n + 1
        · subst q; rw [upL, if_pos rfl, e]
        · rw [upL, if_neg q, hm i (by omega), momF_le (n := n) (k := n + 1) (by omega) (by omega)]
  refine AW.iconst 1 dX5_convert_0 rfl (nI 1) rfl ?_
  refine AW.istore 3 dX5_convert_1 rfl (Nat.le_of_ble_eq_true rfl) rfl ?_
  refine L1 8 0 (by omega) h w g m 0 (S.mono (Nat.zero_le _)) (Nat.le_refl _) (fun _ => rfl) (fun _ _ => rfl) (fun i i1 i2 => by omega) (fun i hi => ?_)
  rw [show i = 0 by omega, S.2.2.2.2.2.1]
  rfl
end SERIES
