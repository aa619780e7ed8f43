/-! THE MODEL, seventh part: its state; lay -/
def nowA (σ : aS) : aE := .inl (0, (15, .inl (nowF σ)))
def xA (n : Nat) (h : aH) (a : Nat) : Prop := ∃ f, h a = .inl (0, (n, .inl f))
def yA (n : Nat) (h : aH) (a : Nat) : Prop := ∃ f, h a = lA n f
def ScrAt (h : aH) : Prop := xA 15 h 198 ∧ xA 1430 h 205 ∧ xA 1430 h 206 ∧ yA 9 h 207 ∧ yA 9 h 208 ∧ yA 81 h 209 ∧ xA 60 h 210 ∧ xA 180 h 211
/-- a code that codes a row of least points -/
def WfC (n c : Nat) : Prop := c < 16777216 ∧ ∀ x, x < n → rw8 c x ≤ x ∧ rw8 c (rw8 c x) = rw8 c x
def WfS (σ : aS) : Prop := 1 ≤ σ.1 ∧ σ.1 ≤ 8 ∧ ∀ s, s < 6 → WfC σ.1 (σ.2.1 s)
def TabAt (h : aH) (n : Nat) : Prop := ∃ f r, h 203 = .inl (0, (1430, .inl f)) ∧ h 204 = .inl (0, (1430, .inl r)) ∧ ∀ i, i < catN n → f i = nI (tb n i) ∧ r i = nI (rkM n (tb n i))
def LaidAt (h : aH) (la ma : Int32) : Prop := (la = nI 0 ∧ xA 1430 h 203 ∧ xA 1430 h 204) ∨ ∃ n, 1 ≤ n ∧ n ≤ 8 ∧ la = nI n ∧ ma = nI (catN n) ∧ TabAt h n
def PstAt (h : aH) (u : Nat × (Nat → aS)) : Prop := u.1 ≤ 5 ∧ (∀ j, j < u.1 → WfS (u.2 j)) ∧ ∃ f, h 199 = .inl (0, (75, .inl f)) ∧ ∀ j, j < u.1 → ∀ i, i < 15 → f (15 * (u.1 - 1 - j) + i) = nowF (u.2 j) i
def refA (c : Nat × Nat × Nat) (i : Nat) : Nat := if i = 0 then c.1 else if i = 1 then c.2.1 else if i = 2 then c.2.2 else 0
def RfAt (h : aH) (X : aX) : Prop := (∃ la ma at_ fa od d, h 196 = modO (nI X.2.1.1) (nI X.2.2.2.2) la ma at_ fa od d ∧ LaidAt h la ma) ∧ h 197 = nowA X.1 ∧ PstAt h X.2.1 ∧ h 200 = iA 3 (refA X.2.2.1) ∧ h 201 = iA 120 X.2.2.2.1 ∧ (X.2.2.2.2 ≤ 120 ∧ ∀ i, X.2.2.2.1 i < 128) ∧ (∃ g, h 202 = iA 8 g ∧ ∀ i, i < 8 → g i < 64) ∧ ScrAt h ∧ WfS X.1
def FrR (h h' : aH) : Prop := ∀ z, z < 196 → h' z = h z
/-- the parts of n are laid -/
def LdAt (h : aH) (n : Nat) : Prop := (∃ ps ty at_ fa od d, h 196 = modO ps ty (nI n) (nI (catN n)) at_ fa od d) ∧ TabAt h n
theorem catN_le (n : Nat) (hn : n ≤ 8) : catN n ≤ 1430 := by
  have : ∀ n, n ≤ 8 → catN n ≤ 1430 := by decide
  exact this n hn
theorem catN_pos (n : Nat) (hn : n ≤ 8) : 1 ≤ catN n := by
  have : ∀ n, n ≤ 8 → 1 ≤ catN n := by decide
  exact this n hn
section REF6
variable {N n : Nat} {h : aH} {P : aP} {X : aX}
theorem RfAt.grp (K : RfAt h X) : ∃ g, GrpAt h X.1.1 g := by
  obtain ⟨⟨la, ma, at_, fa, od, d, k1, -⟩, k2, -, -, -, -, ⟨g, k3, k4⟩, -, k5, k6, -⟩ := K
  exact ⟨g, ⟨_, _, _, _, _, _, _, _, k1⟩, ⟨_, k2, rfl⟩, k3, k5, k6, k4⟩
theorem RfAt.now (K : RfAt h X) : NowAt h X.1.1 := by
  obtain ⟨g, G⟩ := K.grp
  exact G.now
theorem xA.ne {m a b : Nat} {e : aE} (x : xA m h a) (hab : a ≠ b) : xA m (hs h b e) a := by
  obtain ⟨f, hf⟩ := x
  exact ⟨f, by rw [hs_ne hab, hf]⟩
theorem yA.ne {m a b : Nat} {e : aE} (x : yA m h a) (hab : a ≠ b) : yA m (hs h b e) a := by
  obtain ⟨f, hf⟩ := x
  exact ⟨f, by rw [hs_ne hab, hf]⟩
/-- the state again, where only what is no part of it has changed -/
theorem RfAt.same {h' : aH} (K : RfAt h X) (e : ∀ z, z = 197 ∨ (199 ≤ z ∧ z < 202) → h' z = h z) (e1 : ∃ la ma at_ fa od d, h' 196 = modO (nI X.2.1.1) (nI X.2.2.2.2) la ma at_ fa od d ∧ LaidAt h' la ma) (e2 : ∃ g, h' 202 = iA 8 g ∧ ∀ i, i < 8 → g i < 64) (e3 : ScrAt h') : RfAt h' X := by
  obtain ⟨-, k2, ⟨p1, p2, f, p3, p4⟩, k4, k5, k6, -, -, k9⟩ := K
  exact ⟨e1, by rw [e _ (Or.inl rfl), k2], ⟨p1, p2, f, by rw [e _ (Or.inr (by omega)), p3], p4⟩, by rw [e _ (Or.inr (by omega)), k4], by rw [e _ (Or.inr (by omega)), k5], k6, e2, e3, k9⟩
theorem LaidAt.same {h' : aH} {la ma : Int32} (L : LaidAt h la ma) (e1 : h' 203 = h 203) (e2 : h' 204 = h 204) : LaidAt h' la ma := by
  unfold LaidAt TabAt xA at *
  rw [e1, e2]
  exact L
theorem ScrAt.same {h' : aH} (L : ScrAt h) (e : ∀ z, z = 198 ∨ (205 ≤ z ∧ z < 212) → h' z = h z) : ScrAt h' := by
  unfold ScrAt xA yA at *
  rw [e 198 (by omega), e 205 (by omega), e 206 (by omega), e 207 (by omega), e 208 (by omega), e 209 (by omega), e 210 (by omega), e 211 (by omega)]
  exact L
theorem RfAt.g202 {g : Nat → Nat} (K : RfAt h X) (hg : ∀ i, i < 8 → g i < 64) : RfAt (hs h 202 (iA 8 g)) X := by
  obtain ⟨la, ma, at_, fa, od, d, k1, l⟩ := K.1
  exact K.same (fun z hz => hs_ne (by omega)) ⟨la, ma, at_, fa, od, d, by rw [hs_ne (by decide), k1], l.same (hs_ne (by decide)) (hs_ne (by decide))⟩ ⟨g, hs_eq _ _ _, hg⟩ (K.2.2.2.2.2.2.2.1.same (fun z hz => hs_ne (by omega)))
theorem FrR.refl : FrR h h := fun _ _ => rfl
theorem FrR.trans {h1 h2 : aH} (a : FrR h h1) (b : FrR h1 h2) : FrR h h2 := fun z hz => by rw [b z hz, a z hz]
theorem FrR.hs {h1 : aH} {k : Nat} {e : aE} (a : FrR h h1) (hk : 196 ≤ k) : FrR h (hs h1 k e) := fun z hz => by rw [hs_ne (by omega), a z hz]
def LyB (h H : aH) (n m : Nat) : Prop := (∃ ps ty la ma at_ fa od d, h 196 = modO ps ty la ma at_ fa od d ∧ H 196 = modO ps ty (nI n) (nI m) at_ fa od d) ∧ H 197 = h 197 ∧ (∃ g, H 202 = iA 8 g ∧ ∀ i, i < 8 → g i < 64) ∧ (∃ f r, H 203 = .inl (0, (1430, .inl f)) ∧ H 204 = .inl (0, (1430, .inl r)) ∧ ∀ i, i < m → f i = nI (tb n i) ∧ r i = nI (rkM n (tb n i))) ∧ ∀ z, z ≠ 196 → z ≠ 202 → z ≠ 203 → z ≠ 204 → H z = h z
theorem LyB.now {H : aH} {m : Nat} {f : Nat → Int32} (B : LyB h H n m) (h2 : h 197 = .inl (0, (15, .inl f))) (h3 : f 0 = nI n) (h5 : 1 ≤ n) (h6 : n ≤ 8) : NowAt H n := by
  obtain ⟨⟨ps, ty, la, ma, at_, fa, od, d, -, b1⟩, b2, -⟩ := B
  exact ⟨⟨_, _, _, _, _, _, _, _, b1⟩, ⟨f, by rw [b2, h2], h3⟩, h5, h6⟩
theorem LyB.grp {H : aH} {m : Nat} {f : Nat → Int32} (B : LyB h H n m) (h2 : h 197 = .inl (0, (15, .inl f))) (h3 : f 0 = nI n) (h5 : 1 ≤ n) (h6 : n ≤ 8) : ∃ g, GrpAt H n g := by
  have b := B.now h2 h3 h5 h6
  obtain ⟨-, -, ⟨g, b3, b4⟩, -⟩ := B
  exact ⟨g, b.1, b.2.1, b3, h5, h6, b4⟩
theorem LyB.g202 {H : aH} {m : Nat} {g : Nat → Nat} (B : LyB h H n m) (hg : ∀ i, i < 8 → g i < 64) : LyB h (hs H 202 (iA 8 g)) n m := by
  obtain ⟨⟨ps, ty, la, ma, at_, fa, od, d, b0, b1⟩, b2, -, ⟨f, r, b3, b4, b5⟩, b6⟩ := B
  exact ⟨⟨_, _, _, _, _, _, _, _, b0, by rw [hs_ne (by decide), b1]⟩, by rw [hs_ne (by decide), b2], ⟨g, hs_eq _ _ _, hg⟩, ⟨f, r, by rw [hs_ne (by decide), b3], by rw [hs_ne (by decide), b4], b5⟩, fun z z1 z2 z3 z4 => by rw [hs_ne z2, b6 z z1 z2 z3 z4]⟩
theorem r_layIn {f : Nat → Int32} (h2 : h 197 = .inl (0, (15, .inl f))) (h3 : f 0 = nI n) (h5 : 1 ≤ n) (h6 : n ≤ 8) (hP : ∀ H, LyB h H n (catN n) → P none N H) : ∀ k c m, lyS n k c m = true → c % 8 ^ (8 - n) = 0 → ∀ H, LyB h H n m → ∀ v4, AW X8_lay 40 [some (.ref 196), some (.int (nI n)), some (.int (nI c)), some (.int (nI 1)), v4] [] N (0, 0) H P := by
  intro k
  induction k with
  | zero => intro c m q; exact absurd q (by rw [lyS]; decide)
  | succ k ih =>
    intro c m q hd H B v4
    rw [lyS] at q
    rcases c1 : Nat.ble c 16777215
    · rw [c1] at q; exact absurd (show false = true from q) (by decide)
    rw [c1, cond_true] at q
    have hc : c ≤ 16777215 := Nat.le_of_ble_eq_true c1
    refine AW.iload_n 41 dX8_lay_40 rfl (by rfl) ?_
    refine AW.ieq 162 44 dX8_lay_41 (by decide) rfl (by omega) (fun z0 => ?_) (fun z0 => ?_)
    · exact absurd z0 (by decide)
    refine AW.aload_n 45 dX8_lay_44 rfl (by rfl) ?_
    refine AW.iload_n 46 dX8_lay_45 rfl (by rfl) ?_
    obtain ⟨g, G⟩ := B.grp h2 h3 h5 h6
    obtain ⟨ps, ty, la, ma, at_, fa, od, d, x196⟩ := G.1
    refine AW.cV1 49 dX8_lay_46 rfl mi_X8_isWell mv_X8_isWell lk_X8_90 ⟨(Nat.le_of_ble_eq_true rfl), (Nat.le_of_ble_eq_true rfl)⟩ rfl (by assumption) rfl (Nat.le_of_ble_eq_true rfl) (r_isWell G (by omega) ?_)
    intro g' hg'
    have B2 := B.g202 hg'
    have K : ∀ m', clK (fun x c => cond (Nat.beq x 0) (Nat.beq m' (catN n)) (frc (Nat.add c (Nat.pow 8 (Nat.sub 7 x))) fun c => lyS n k c m')) (n - 1) c = true → ∀ H, LyB h H n m' → AW X8_lay 86 [some (.ref 196), some (.int (nI n)), some (.int (nI c)), some (.int (nI 1)), v4] [] N (0, 0) H P := by
      intro m' q H B
      refine AW.iload_n 87 dX8_lay_86 rfl (by rfl) ?_
      refine AW.iconst 88 dX8_lay_87 rfl (nI 1) rfl ?_
      first | refine AW.isubN 89 dX8_lay_88 rfl (by omega) ?_ | refine AW.isub 89 dX8_lay_88 rfl ?_
      refine AW.istore 91 dX8_lay_89 rfl (Nat.le_of_ble_eq_true rfl) rfl ?_
      have J : ∀ x c, x < n → clK (fun x c => cond (Nat.beq x 0) (Nat.beq m' (catN n)) (frc (Nat.add c (Nat.pow 8 (Nat.sub 7 x))) fun c => lyS n k c m')) x c = true → c ≤ 16777215 → c % 8 ^ (7 - x) = 0 → AW X8_lay 91 [some (.ref 196), some (.int (nI n)), some (.int (nI c)), some (.int (nI 1)), some (.int (nI x))] [] N (0, 0) H P := by
        intro x
        have E : ∀ x c, x < n → cond (Nat.beq x 0) (Nat.beq m' (catN n)) (frc (Nat.add c (Nat.pow 8 (Nat.sub 7 x))) fun c => lyS n k c m') = true → c ≤ 16777215 → c % 8 ^ (7 - x) = 0 → AW X8_lay 128 [some (.ref 196), some (.int (nI n)), some (.int (nI c)), some (.int (nI 1)), some (.int (nI x))] [] N (0, 0) H P := by
          intro x c hx q hc hd
          rcases x with _ | x
          · have q : Nat.beq m' (catN n) = true := q
            have e := Nat.eq_of_beq_eq_true q
            subst e
            refine AW.iload 130 dX8_lay_128 rfl (by rfl) ?_
            refine AW.if_le 137 133 dX8_lay_130 (by decide) rfl (fun z1 => ?_) (fun z1 => ?_)
            · refine AW.iconst 138 dX8_lay_137 rfl (nI 0) rfl ?_
              refine AW.istore_n 139 dX8_lay_138 rfl (Nat.le_of_ble_eq_true rfl) rfl ?_
              refine AW.iload_n 140 dX8_lay_139 rfl (by rfl) ?_
              refine AW.iload_n 141 dX8_lay_140 rfl (by rfl) ?_
              refine AW.ieq 156 144 dX8_lay_141 (by decide) rfl (by omega) (fun z2 => ?_) (fun z2 => ?_)
              · refine AW.iconst 157 dX8_lay_156 rfl (nI 0) rfl ?_
                first | refine AW.iaddN 158 dX8_lay_157 rfl ?_ | refine AW.iadd 158 dX8_lay_157 rfl ?_
                refine AW.istore_n 159 dX8_lay_158 rfl (Nat.le_of_ble_eq_true rfl) rfl ?_
                refine AW.goto 40 dX8_lay_159 (by decide) ?_
                refine AW.iload_n 41 dX8_lay_40 rfl (by rfl) ?_
                refine AW.ieq 162 44 dX8_lay_41 (by decide) rfl (by omega) (fun z3 => ?_) (fun z3 => ?_)
                · refine AW.vret dX8_lay_162 rfl ?_
                  exact hP H B
                · exact absurd rfl z3
              · exact absurd rfl z2
            · exact absurd z1 (by decide)
          · have q : frc (Nat.add c (Nat.pow 8 (Nat.sub 7 (x + 1)))) (fun c => lyS n k c m') = true := q
            rw [frc_eq] at q
            refine AW.iload 130 dX8_lay_128 rfl (by rfl) ?_
            refine AW.if_le 137 133 dX8_lay_130 (by decide) rfl (fun z1 => ?_) (fun z1 => ?_)
            · exact absurd z1 (by rw [Int32.le_iff_toInt_le, nI_toInt (by omega)]; show ¬ ((x + 1 : Nat) : Int) ≤ 0; omega)
            · refine AW.iconst 134 dX8_lay_133 rfl (nI 1) rfl ?_
              refine AW.goto 138 dX8_lay_134 (by decide) ?_
              refine AW.istore_n 139 dX8_lay_138 rfl (Nat.le_of_ble_eq_true rfl) rfl ?_
              refine AW.iload_n 140 dX8_lay_139 rfl (by rfl) ?_
              refine AW.iload_n 141 dX8_lay_140 rfl (by rfl) ?_
              refine AW.ieq 156 144 dX8_lay_141 (by decide) rfl (by omega) (fun z2 => ?_) (fun z2 => ?_)
              · exact absurd z2 (by decide)
              · refine AW.iconst 145 dX8_lay_144 rfl (nI 1) rfl ?_
                refine AW.bipush 147 dX8_lay_145 rfl (nI 21) rfl ?_
                refine AW.iconst 148 dX8_lay_147 rfl (nI 3) rfl ?_
                refine AW.iload 150 dX8_lay_148 rfl (by rfl) ?_
                first | refine AW.imulN 151 dX8_lay_150 rfl ?_ | refine AW.imul 151 dX8_lay_150 rfl ?_
                first | refine AW.isubN 152 dX8_lay_151 rfl (by omega) ?_ | refine AW.isub 152 dX8_lay_151 rfl ?_
                refine AW.ishlN 153 dX8_lay_152 rfl (by omega) ?_ ?_
                · have : (2 : Nat) ^ (21 - 3 * (x + 1)) ≤ 2 ^ 21 := Nat.pow_le_pow_right (by decide) (by omega)
                  omega
                · rw [Nat.one_mul, pow_83 (x + 1) (by omega)]
                  refine AW.goto 157 dX8_lay_153 (by decide) ?_
                  first | refine AW.iaddN 158 dX8_lay_157 rfl ?_ | refine AW.iadd 158 dX8_lay_157 rfl ?_
                  refine AW.istore_n 159 dX8_lay_158 rfl (Nat.le_of_ble_eq_true rfl) rfl ?_
                  refine AW.goto 40 dX8_lay_159 (by decide) ?_
                  refine ih _ _ q ?_ H B _
                  show (c + 8 ^ (7 - (x + 1))) % 8 ^ (8 - n) = 0
                  have : 8 ^ (7 - (x + 1)) % 8 ^ (8 - n) = 0 := by
                    rw [show 7 - (x + 1) = (8 - n) + (n - (x + 2)) by omega, Nat.pow_add, Nat.mul_mod_right]
                  have h4 : c % 8 ^ (8 - n) = 0 := by
                    have : 8 ^ (8 - n) ∣ 8 ^ (7 - (x + 1)) := ⟨8 ^ (n - (x + 2)), by rw [← Nat.pow_add]; congr 1; omega⟩
                    exact Nat.mod_eq_zero_of_dvd (Nat.dvd_trans this (Nat.dvd_of_mod_eq_zero hd))
                  rw [Nat.add_mod, this, h4]
                  exact Nat.zero_mod _
        induction x with
        | zero =>
          intro c hx q hc hd
          refine AW.iload 93 dX8_lay_91 rfl (by rfl) ?_
          refine AW.if_le 128 96 dX8_lay_93 (by decide) rfl (fun z1 => ?_) (fun z1 => ?_)
          · exact E 0 c hx q hc hd
          · exact absurd z1 (by decide)
        | succ x ihx =>
          intro c hx q hc hd
          rw [clK, rwQ_eq, nb_eq] at q
          refine AW.iload 93 dX8_lay_91 rfl (by rfl) ?_
          refine AW.if_le 128 96 dX8_lay_93 (by decide) rfl (fun z1 => ?_) (fun z1 => ?_)
          · exact absurd z1 (by rw [Int32.le_iff_toInt_le, nI_toInt (by omega)]; show ¬ ((x + 1 : Nat) : Int) ≤ 0; omega)
          refine AW.iload_n 97 dX8_lay_96 rfl (by rfl) ?_
          refine AW.iload 99 dX8_lay_97 rfl (by rfl) ?_
          have r1 := rw8_lt c (x + 1)
          refine AW.cS2 102 dX8_lay_99 rfl mi_X8_rowOf ms_X8_rowOf lk_X8_64 ⟨(Nat.le_of_ble_eq_true rfl), (Nat.le_of_ble_eq_true rfl)⟩ rfl (Nat.le_of_ble_eq_true rfl) (c_rowOf (by omega) (by omega) ?_)
          refine AW.iload 104 dX8_lay_102 rfl (by rfl) ?_
          refine AW.nne 128 107 dX8_lay_104 (by decide) rfl (by omega) (by omega) (fun z2 => ?_) (fun z2 => ?_)
          · rw [decide_eq_false z2] at q
            exact E (x + 1) c hx q hc hd
          · rw [decide_eq_true z2, cond_true, frc_eq] at q
            refine AW.iload_n 108 dX8_lay_107 rfl (by rfl) ?_
            refine AW.bipush 110 dX8_lay_108 rfl (nI 7) rfl ?_
            refine AW.bipush 112 dX8_lay_110 rfl (nI 21) rfl ?_
            refine AW.iconst 113 dX8_lay_112 rfl (nI 3) rfl ?_
            refine AW.iload 115 dX8_lay_113 rfl (by rfl) ?_
            first | refine AW.imulN 116 dX8_lay_115 rfl ?_ | refine AW.imul 116 dX8_lay_115 rfl ?_
            first | refine AW.isubN 117 dX8_lay_116 rfl (by omega) ?_ | refine AW.isub 117 dX8_lay_116 rfl ?_
            refine AW.ishlN 118 dX8_lay_117 rfl (by omega) ?_ ?_
            · have : (2 : Nat) ^ (21 - 3 * (x + 1)) ≤ 2 ^ 21 := Nat.pow_le_pow_right (by decide) (by omega)
              omega
            · refine AW.iconst 119 dX8_lay_118 rfl (-1) rfl ?_
              refine AW.ixor 120 dX8_lay_119 rfl ?_
              refine AW.iand 121 dX8_lay_120 rfl ?_
              have ec : c = 2 ^ (21 - 3 * (x + 1) + 3) * (c / 8 ^ (7 - x)) + 2 ^ (21 - 3 * (x + 1)) * rw8 c (x + 1) := by
                have p2 : (2 : Nat) ^ (21 - 3 * (x + 1) + 3) = 8 ^ (7 - x) := by rw [← pow_83 x (by omega)]; congr 1; omega
                have p3 : 8 ^ (7 - x) = 8 * 8 ^ (7 - (x + 1)) := by rw [show 7 - x = (7 - (x + 1)) + 1 by omega, Nat.pow_succ, Nat.mul_comm]
                rw [p2, pow_83 (x + 1) (by omega), rw8, p3, Nat.mul_comm 8, ← Nat.div_div_eq_div_mul]
                have d1 := Nat.div_add_mod c (8 ^ (7 - (x + 1)))
                rw [hd, Nat.add_zero] at d1
                have d2 := Nat.div_add_mod (c / 8 ^ (7 - (x + 1))) 8
                rw [Nat.mul_assoc, ← Nat.mul_add, d2, d1]
              have eq := congrArg nI ec
              rw [eq, andnot_nI (by omega) r1]
              have p2 : (2 : Nat) ^ (21 - 3 * (x + 1) + 3) = 8 ^ (7 - x) := by rw [← pow_83 x (by omega)]; congr 1; omega
              rw [p2]
              refine AW.istore_n 122 dX8_lay_121 rfl (Nat.le_of_ble_eq_true rfl) rfl ?_
              refine AW.iincm 125 dX8_lay_122 rfl (by rfl) rfl ?_
              rw [show nI (x + 1) - nI 1 = nI x from nI_pred x]
              refine AW.goto 91 dX8_lay_125 (by decide) ?_
              have q : clK _ x (c / 8 ^ (7 - x) * 8 ^ (7 - x)) = true := q
              rw [Nat.mul_comm] at q
              have := Nat.mul_div_le c (8 ^ (7 - x))
              exact ihx _ (by omega) q (by omega) (Nat.mul_mod_right _ _)
      have := J (n - 1) c (by omega) q hc (by rw [show 7 - (n - 1) = 8 - n by omega]; exact hd)
      exact this
    refine AW.zeq 86 52 dX8_lay_49 (by decide) rfl (fun z1 => ?_) (fun z1 => ?_)
    · rw [wlQ_eq, z1, cond_false] at q
      exact K m q _ B2
    · rw [wlQ_eq, z1, cond_true] at q
      rcases c2 : Nat.beq (tb n m) c
      · rw [c2] at q; exact absurd (show false = true from q) (by decide)
      rcases c3 : Nat.ble (Nat.succ m) (catN n)
      · rw [c2, c3] at q; exact absurd (show false = true from q) (by decide)
      rw [c2, c3, cond_true, cond_true, frc_eq] at q
      have e2 := Nat.eq_of_beq_eq_true c2
      have e3 : m + 1 ≤ catN n := Nat.le_of_ble_eq_true c3
      have e4 := catN_le n h6
      obtain ⟨⟨ps, ty, la, ma, at_, fa, od, d, b0, b1⟩, b2, ⟨gg, b7, b8⟩, ⟨ff, r, b3, b4, b5⟩, b6⟩ := id B2
      refine AW.aload_n 53 dX8_lay_52 rfl (by rfl) ?_
      refine AW.getfield 56 dX8_lay_53 rfl fl_X8_28 (by assumption) (by rfl) ?_
      refine AW.aload_n 57 dX8_lay_56 rfl (by rfl) ?_
      refine AW.getfield 60 dX8_lay_57 rfl fl_X8_87 (by assumption) (by rfl) ?_
      refine AW.iload_n 61 dX8_lay_60 rfl (by rfl) ?_
      refine AW.iastore 62 _ dX8_lay_61 rfl (by assumption) (ix_nI (by omega)) (by omega) ?_
      refine AW.aload_n 63 dX8_lay_62 rfl (by rfl) ?_
      refine AW.getfield 66 dX8_lay_63 rfl fl_X8_31 (by assumption) (by rfl) ?_
      refine AW.aload_n 67 dX8_lay_66 rfl (by rfl) ?_
      refine AW.getfield 70 dX8_lay_67 rfl fl_X8_87 (by assumption) (by rfl) ?_
      refine AW.aload_n 71 dX8_lay_70 rfl (by rfl) ?_
      refine AW.iload_n 72 dX8_lay_71 rfl (by rfl) ?_
      have G2 : NowAt (hs (hs H 202 (iA 8 g')) 203 (.inl (0, (1430, .inl (upd ff m (nI c)))))) n := by
        have := B2.now h2 h3 h5 h6
        exact ⟨⟨_, _, _, _, _, _, _, _, by rw [hs_ne (by decide), b1]⟩, ⟨f, by rw [hs_ne (by decide), b2, h2], h3⟩, h5, h6⟩
      refine AW.cV1 75 dX8_lay_72 rfl mi_X8_rankOf mv_X8_rankOf lk_X8_93 ⟨(Nat.le_of_ble_eq_true rfl), (Nat.le_of_ble_eq_true rfl)⟩ rfl (by assumption) rfl (Nat.le_of_ble_eq_true rfl) (c_rankOf G2 (by omega) ?_)
      refine AW.iastore 76 _ dX8_lay_75 rfl (by assumption) (ix_nI (by omega)) (by omega) ?_
      refine AW.aload_n 77 dX8_lay_76 rfl (by rfl) ?_
      refine AW.dup 78 dX8_lay_77 rfl rfl ?_
      refine AW.getfield 81 dX8_lay_78 rfl fl_X8_87 (by assumption) (by rfl) ?_
      refine AW.iconst 82 dX8_lay_81 rfl (nI 1) rfl ?_
      first | refine AW.iaddN 83 dX8_lay_82 rfl ?_ | refine AW.iadd 83 dX8_lay_82 rfl ?_
      refine AW.putfield 86 dX8_lay_83 rfl fl_X8_87 (by assumption) (Nat.le_of_ble_eq_true rfl) (fun _ => ⟨rfl, rfl⟩) ?_
      refine K (m + 1) q _ ⟨⟨_, _, _, _, _, _, _, _, b0, hs_eq _ _ _⟩, by rw [hs_ne (by decide), hs_ne (by decide), hs_ne (by decide), b2], ⟨gg, by rw [hs_ne (by decide), hs_ne (by decide), hs_ne (by decide), b7], b8⟩, ⟨upd ff m (nI c), upd r m (nI (rkM n c)), by rw [hs_ne (by decide), hs_ne (by decide), hs_eq], by rw [hs_ne (by decide), hs_eq], ?_⟩, fun z z1 z2 z3 z4 => by rw [hs_ne z1, hs_ne z4, hs_ne z3, b6 z z1 z2 z3 z4]⟩
      intro i hi
      unfold upd
      by_cases e : i = m
      · subst e
        rw [if_pos rfl, if_pos rfl, e2]
        exact ⟨rfl, rfl⟩
      · rw [if_neg e, if_neg e]
        exact b5 i (by omega)
end REF6
