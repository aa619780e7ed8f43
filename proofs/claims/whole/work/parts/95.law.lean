theorem aoA {s : State} {args : Array Value} {t : FieldType} (h : (Cond.arrayClass t).before args s = true) : ∃ c : ClassId, ArrOfT s c t ∧ s.vm.findClass ("[" ++ t.toString) = some c := by
  obtain ⟨c, k, comp, h1, h2, h3⟩ := Cond.arrayClass_spec h
  exact ⟨c, fun n z => ⟨(fun q e => by cases e), k, h2, comp, h3⟩, h1⟩
theorem aoB {s : State} {args : Array Value} {t : FieldType} (h : (Cond.arrayOver (.array t)).before args s = true) : ∃ c : ClassId, ArrOfT s c (.array t) ∧ s.vm.findClass ("[" ++ (FieldType.array t).toString) = some c := by
  obtain ⟨comp, c, k, h0, h1, h2, h3, h4⟩ := arrayOverA_spec h
  exact ⟨c, fun n z => ⟨(fun q e => by cases e), k, h2, comp, h3⟩, h4⟩
theorem aoC {s : State} {args : Array Value} {C : String} (h : (Cond.arrayOver (.object C)).before args s = true) : ∃ c : ClassId, ArrOfT s c (.object C) ∧ va_RA s c (.object C) := by
  obtain ⟨comp, c, k, h0, h1, h2, h3, h4⟩ := Cond.arrayOver_spec h
  exact ⟨c, fun n z => ⟨(fun q e => by cases e), k, h2, comp, h3⟩, k, comp, h2, h3, h0, h4⟩
theorem aoX {s : State} {b L : Nat} {xs : Nat → Int32} (h : va_X b L xs s s.heap) : ∃ cell : Cell, s.heap[b]? = some cell ∧ ArrOfT s cell.cls .int ∧ cell.vm ≠ .unknown ∧ (∀ j, cell.vm ≠ .statics j) ∧ L ≤ cell.slots.size ∧ cell.slots.size.toInt32 = Int32.ofNat L ∧ ∀ j, j < L → cell.slots[j]? = some (.int (xs j)) := by
  obtain ⟨cell, h1, h2, h3, h4, h5⟩ := h
  exact ⟨cell, h1, fun n z => ⟨(fun q e => by cases e), h2.2⟩, h3, h2.1, Nat.le_of_eq h4.symm, by rw [h4] <;> rfl, h5⟩
theorem aoT {s : State} {t N : Nat} {f : Nat → Int32} {A : Nat → Prop} (h : va_T .int t N (fun j => .int (f j)) A s s.heap) : ∃ cell : Cell, s.heap[t]? = some cell ∧ ArrOfT s cell.cls .int ∧ cell.vm ≠ .unknown ∧ (∀ j, cell.vm ≠ .statics j) ∧ N ≤ cell.slots.size ∧ cell.slots.size.toInt32 = Int32.ofNat N ∧ ∀ j, j < N → cell.slots[j]? = some (.int (f j)) := by
  obtain ⟨cell, h1, h2, h3, h4, h5, h6, h7⟩ := h
  exact ⟨cell, h1, fun n z => ⟨(fun q e => by cases e), h2.2⟩, h3, h2.1, h4, h5, h6⟩
abbrev L_law : aY := (yL_law, cL_law, 4, some .boolean, 11, 600000, 7302250)
/-- the heap at the law's entry: the two rows, the script -/
def hL0 (L : Nat) (xs : Nat → Int32) : aH := fun k => if k = 0 then sA catN else if k = 1 then sA lngN else if k = 2 then .inl (6, (L, .inl xs)) else junk
/-! THE LAW -/
theorem RfAt.far {h h' : aH} {X : aX} (K : RfAt h X) (e : ∀ z, z < 3 ∨ 196 ≤ z → h' z = h z) : RfAt h' X := by
  obtain ⟨la, ma, at_, fa, od, d, k1, l⟩ := K.1
  obtain ⟨g, g1, g2⟩ := K.2.2.2.2.2.2.1
  exact K.same (fun z hz => e z (by omega)) ⟨la, ma, at_, fa, od, d, by rw [e _ (by omega), k1], l.same (e _ (by omega)) (e _ (by omega))⟩ ⟨g, by rw [e _ (by omega), g1], g2⟩ (K.2.2.2.2.2.2.2.1.same (fun z hz => e z (by omega)))
theorem ClsAt.far {h h' : aH} {X : aX} (K : ClsAt h X) (e : ∀ z, z < 196 → h' z = h z) : ClsAt h' X := by
  obtain ⟨k0, k1, k3, b, u, ⟨a, fd, lt, vl, o⟩, w, g, m, R, s⟩ := K
  exact ⟨by rw [e _ (by decide), k0], by rw [e _ (by decide), k1], by rw [e _ (by decide), k3], b.same2 (fun z _ z2 => e z (by omega)), u.same (fun z _ z2 => e z (by omega)), ⟨a, fd, lt, vl, o.same (fun z _ z2 => e z (by omega))⟩, w, g, m, R, s.same2 (fun z _ z2 => e z (by omega))⟩
def LawAt (L : Nat) (xs : Nat → Int32) (h : aH) (X : aX) : Prop := ClsAt h X ∧ RfAt h X ∧ GdX X ∧ h 2 = .inl (6, (L, .inl xs))
theorem LawAt.step {L : Nat} {xs : Nat → Int32} {h h1 h2 : aH} {X X1 X2 : aX} (J : LawAt L xs h X) (K1 : ClsAt h1 X1) (F1 : FrC h h1) (R2 : RfAt h2 X2) (F2 : FrR h1 h2) (e : X1 = X2) (g : GdX X2) : LawAt L xs h2 X2 := by
  subst e
  exact ⟨K1.far F2, R2, g, by rw [F2 2 (by decide), F1 2 (by decide), J.2.2.2]⟩
theorem LawAt.x3 {L : Nat} {xs : Nat → Int32} {h : aH} {X : aX} (J : LawAt L xs h X) : h 3 = clsO X.2.2.1.1 X.2.2.1.2.1 X.2.2.1.2.2 := J.1.2.2.1
theorem and31 (x : Int32) : ∃ j, j < 32 ∧ x &&& nI 31 = nI j := by
  refine ⟨x.toBitVec.toNat % 32, Nat.mod_lt _ (by decide), ?_⟩
  apply Int32.toBitVec_inj.mp
  rw [Int32.toBitVec_and]
  apply BitVec.eq_of_toNat_eq
  rw [BitVec.toNat_and, show (nI 31).toBitVec.toNat = 2 ^ 5 - 1 from rfl, Nat.and_two_pow_sub_one_eq_mod]
  have : x.toBitVec.toNat % 2 ^ 5 < 32 := Nat.mod_lt _ (by decide)
  generalize x.toBitVec.toNat % 2 ^ 5 = y at this ⊢
  show y = (BitVec.ofNat 32 y).toNat
  rw [BitVec.toNat_ofNat, Nat.mod_eq_of_lt (by omega)]
section LAW
variable {L : Nat} {xs : Nat → Int32} {h : aH} {X : aX} {i : Nat} {u : Nat × Nat} {P : aP}
theorem lw_points (hL : L ≤ 2048) (hi : i + 4 ≤ L) (J : LawAt L xs h X) (next : ∀ h X, LawAt L xs h X → AW L_law 902 [some (.ref 2), some (.ref 3), some (.ref 196), some (.int (nI i))] [] 212 u h P) : AW L_law 152 [some (.ref 2), some (.ref 3), some (.ref 196), some (.int (nI i))] [] 212 u h P := by
  obtain ⟨K, R, g, x2⟩ := id J
  have x3 := J.x3
  refine AW.aload_n 153 dL_law_152 rfl (by rfl) ?_
  refine AW.aload_n 154 dL_law_153 rfl (by rfl) ?_
  refine AW.iload_n 155 dL_law_154 rfl (by rfl) ?_
  refine AW.iconst 156 dL_law_155 rfl (nI 1) rfl ?_
  first | refine AW.iaddN 157 dL_law_156 rfl ?_ | refine AW.iadd 157 dL_law_156 rfl ?_
  refine AW.iaload 158 _ dL_law_157 rfl (by assumption) (by first | exact Or.inl rfl | exact Or.inr rfl) (ix_nI (by omega)) (by omega) ?_
  refine AW.cV1 161 dL_law_158 rfl mi_X7_points mv_X7_points lk_L_13 ⟨(Nat.le_of_ble_eq_true rfl), (Nat.le_of_ble_eq_true rfl)⟩ rfl (by assumption) rfl (Nat.le_of_ble_eq_true rfl) (c_points K (fun h1 K1 F1 => ?_))
  have R1 := R.far F1
  have y2 := (F1 2 (by decide)).trans x2
  obtain ⟨_, _, _, _, _, _, y196, -⟩ := id R1.1
  refine AW.aload_n 162 dL_law_161 rfl (by rfl) ?_
  refine AW.aload_n 163 dL_law_162 rfl (by rfl) ?_
  refine AW.iload_n 164 dL_law_163 rfl (by rfl) ?_
  refine AW.iconst 165 dL_law_164 rfl (nI 1) rfl ?_
  first | refine AW.iaddN 166 dL_law_165 rfl ?_ | refine AW.iadd 166 dL_law_165 rfl ?_
  refine AW.iaload 167 _ dL_law_166 rfl (by assumption) (by first | exact Or.inl rfl | exact Or.inr rfl) (ix_nI (by omega)) (by omega) ?_
  refine AW.cV1 170 dL_law_167 rfl mi_X8_points mv_X8_points lk_L_17 ⟨(Nat.le_of_ble_eq_true rfl), (Nat.le_of_ble_eq_true rfl)⟩ rfl (by assumption) rfl (Nat.le_of_ble_eq_true rfl) (r_points R1 (fun h2 R2 F2 => ?_))
  refine AW.icmp_eq 902 173 dL_law_170 (by decide) rfl (fun c => ?_) (fun c => ?_)
  · exact next h2 _ (J.step K1 F1 R2 F2 rfl (g.stlG (G_point g.1 _)))
  · exact absurd rfl c
theorem lw_puts (hL : L ≤ 2048) (hi : i + 4 ≤ L) (J : LawAt L xs h X) (next : ∀ h X, LawAt L xs h X → AW L_law 902 [some (.ref 2), some (.ref 3), some (.ref 196), some (.int (nI i))] [] 212 u h P) : AW L_law 175 [some (.ref 2), some (.ref 3), some (.ref 196), some (.int (nI i))] [] 212 u h P := by
  obtain ⟨K, R, g, x2⟩ := id J
  have x3 := J.x3
  refine AW.aload_n 176 dL_law_175 rfl (by rfl) ?_
  refine AW.aload_n 177 dL_law_176 rfl (by rfl) ?_
  refine AW.iload_n 178 dL_law_177 rfl (by rfl) ?_
  refine AW.iconst 179 dL_law_178 rfl (nI 1) rfl ?_
  first | refine AW.iaddN 180 dL_law_179 rfl ?_ | refine AW.iadd 180 dL_law_179 rfl ?_
  refine AW.iaload 181 _ dL_law_180 rfl (by assumption) (by first | exact Or.inl rfl | exact Or.inr rfl) (ix_nI (by omega)) (by omega) ?_
  refine AW.aload_n 182 dL_law_181 rfl (by rfl) ?_
  refine AW.iload_n 183 dL_law_182 rfl (by rfl) ?_
  refine AW.iconst 184 dL_law_183 rfl (nI 2) rfl ?_
  first | refine AW.iaddN 185 dL_law_184 rfl ?_ | refine AW.iadd 185 dL_law_184 rfl ?_
  refine AW.iaload 186 _ dL_law_185 rfl (by assumption) (by first | exact Or.inl rfl | exact Or.inr rfl) (ix_nI (by omega)) (by omega) ?_
  refine AW.aload_n 187 dL_law_186 rfl (by rfl) ?_
  refine AW.iload_n 188 dL_law_187 rfl (by rfl) ?_
  refine AW.iconst 189 dL_law_188 rfl (nI 3) rfl ?_
  first | refine AW.iaddN 190 dL_law_189 rfl ?_ | refine AW.iadd 190 dL_law_189 rfl ?_
  refine AW.iaload 191 _ dL_law_190 rfl (by assumption) (by first | exact Or.inl rfl | exact Or.inr rfl) (ix_nI (by omega)) (by omega) ?_
  refine AW.cV3 194 dL_law_191 rfl mi_X7_puts mv_X7_puts lk_L_18 ⟨(Nat.le_of_ble_eq_true rfl), (Nat.le_of_ble_eq_true rfl)⟩ rfl (by assumption) rfl (Nat.le_of_ble_eq_true rfl) (c_puts K (fun h1 K1 F1 => ?_))
  have R1 := R.far F1
  have y2 := (F1 2 (by decide)).trans x2
  obtain ⟨_, _, _, _, _, _, y196, -⟩ := id R1.1
  refine AW.aload_n 195 dL_law_194 rfl (by rfl) ?_
  refine AW.aload_n 196 dL_law_195 rfl (by rfl) ?_
  refine AW.iload_n 197 dL_law_196 rfl (by rfl) ?_
  refine AW.iconst 198 dL_law_197 rfl (nI 1) rfl ?_
  first | refine AW.iaddN 199 dL_law_198 rfl ?_ | refine AW.iadd 199 dL_law_198 rfl ?_
  refine AW.iaload 200 _ dL_law_199 rfl (by assumption) (by first | exact Or.inl rfl | exact Or.inr rfl) (ix_nI (by omega)) (by omega) ?_
  refine AW.aload_n 201 dL_law_200 rfl (by rfl) ?_
  refine AW.iload_n 202 dL_law_201 rfl (by rfl) ?_
  refine AW.iconst 203 dL_law_202 rfl (nI 2) rfl ?_
  first | refine AW.iaddN 204 dL_law_203 rfl ?_ | refine AW.iadd 204 dL_law_203 rfl ?_
  refine AW.iaload 205 _ dL_law_204 rfl (by assumption) (by first | exact Or.inl rfl | exact Or.inr rfl) (ix_nI (by omega)) (by omega) ?_
  refine AW.aload_n 206 dL_law_205 rfl (by rfl) ?_
  refine AW.iload_n 207 dL_law_206 rfl (by rfl) ?_
  refine AW.iconst 208 dL_law_207 rfl (nI 3) rfl ?_
  first | refine AW.iaddN 209 dL_law_208 rfl ?_ | refine AW.iadd 209 dL_law_208 rfl ?_
  refine AW.iaload 210 _ dL_law_209 rfl (by assumption) (by first | exact Or.inl rfl | exact Or.inr rfl) (ix_nI (by omega)) (by omega) ?_
  refine AW.cV3 213 dL_law_210 rfl mi_X8_puts mv_X8_puts lk_L_22 ⟨(Nat.le_of_ble_eq_true rfl), (Nat.le_of_ble_eq_true rfl)⟩ rfl (by assumption) rfl (Nat.le_of_ble_eq_true rfl) (r_puts R1 (fun h2 R2 F2 => ?_))
  refine AW.icmp_eq 902 216 dL_law_213 (by decide) rfl (fun c => ?_) (fun c => ?_)
  · exact next h2 _ (J.step K1 F1 R2 F2 (congrArg Prod.snd (congrArg (stl X) (E_unite g.1 _ _ _).1)) (g.stlG (E_unite g.1 _ _ _).2))
  · exact absurd (congrArg Prod.fst (congrArg (stl X) (E_unite g.1 _ _ _).1)) c
theorem lw_meets (hL : L ≤ 2048) (hi : i + 4 ≤ L) (J : LawAt L xs h X) (next : ∀ h X, LawAt L xs h X → AW L_law 902 [some (.ref 2), some (.ref 3), some (.ref 196), some (.int (nI i))] [] 212 u h P) : AW L_law 218 [some (.ref 2), some (.ref 3), some (.ref 196), some (.int (nI i))] [] 212 u h P := by
  obtain ⟨K, R, g, x2⟩ := id J
  have x3 := J.x3
  refine AW.aload_n 219 dL_law_218 rfl (by rfl) ?_
  refine AW.aload_n 220 dL_law_219 rfl (by rfl) ?_
  refine AW.iload_n 221 dL_law_220 rfl (by rfl) ?_
  refine AW.iconst 222 dL_law_221 rfl (nI 1) rfl ?_
  first | refine AW.iaddN 223 dL_law_222 rfl ?_ | refine AW.iadd 223 dL_law_222 rfl ?_
  refine AW.iaload 224 _ dL_law_223 rfl (by assumption) (by first | exact Or.inl rfl | exact Or.inr rfl) (ix_nI (by omega)) (by omega) ?_
  refine AW.aload_n 225 dL_law_224 rfl (by rfl) ?_
  refine AW.iload_n 226 dL_law_225 rfl (by rfl) ?_
  refine AW.iconst 227 dL_law_226 rfl (nI 2) rfl ?_
  first | refine AW.iaddN 228 dL_law_227 rfl ?_ | refine AW.iadd 228 dL_law_227 rfl ?_
  refine AW.iaload 229 _ dL_law_228 rfl (by assumption) (by first | exact Or.inl rfl | exact Or.inr rfl) (ix_nI (by omega)) (by omega) ?_
  refine AW.aload_n 230 dL_law_229 rfl (by rfl) ?_
  refine AW.iload_n 231 dL_law_230 rfl (by rfl) ?_
  refine AW.iconst 232 dL_law_231 rfl (nI 3) rfl ?_
  first | refine AW.iaddN 233 dL_law_232 rfl ?_ | refine AW.iadd 233 dL_law_232 rfl ?_
  refine AW.iaload 234 _ dL_law_233 rfl (by assumption) (by first | exact Or.inl rfl | exact Or.inr rfl) (ix_nI (by omega)) (by omega) ?_
  refine AW.cV3 237 dL_law_234 rfl mi_X7_meets mv_X7_meets lk_L_23 ⟨(Nat.le_of_ble_eq_true rfl), (Nat.le_of_ble_eq_true rfl)⟩ rfl (by assumption) rfl (Nat.le_of_ble_eq_true rfl) (c_meets K (fun h1 K1 F1 => ?_))
  have R1 := R.far F1
  have y2 := (F1 2 (by decide)).trans x2
  obtain ⟨_, _, _, _, _, _, y196, -⟩ := id R1.1
  refine AW.aload_n 238 dL_law_237 rfl (by rfl) ?_
  refine AW.aload_n 239 dL_law_238 rfl (by rfl) ?_
  refine AW.iload_n 240 dL_law_239 rfl (by rfl) ?_
  refine AW.iconst 241 dL_law_240 rfl (nI 1) rfl ?_
  first | refine AW.iaddN 242 dL_law_241 rfl ?_ | refine AW.iadd 242 dL_law_241 rfl ?_
  refine AW.iaload 243 _ dL_law_242 rfl (by assumption) (by first | exact Or.inl rfl | exact Or.inr rfl) (ix_nI (by omega)) (by omega) ?_
  refine AW.aload_n 244 dL_law_243 rfl (by rfl) ?_
  refine AW.iload_n 245 dL_law_244 rfl (by rfl) ?_
  refine AW.iconst 246 dL_law_245 rfl (nI 2) rfl ?_
  first | refine AW.iaddN 247 dL_law_246 rfl ?_ | refine AW.iadd 247 dL_law_246 rfl ?_
  refine AW.iaload 248 _ dL_law_247 rfl (by assumption) (by first | exact Or.inl rfl | exact Or.inr rfl) (ix_nI (by omega)) (by omega) ?_
  refine AW.aload_n 249 dL_law_248 rfl (by rfl) ?_
  refine AW.iload_n 250 dL_law_249 rfl (by rfl) ?_
  refine AW.iconst 251 dL_law_250 rfl (nI 3) rfl ?_
  first | refine AW.iaddN 252 dL_law_251 rfl ?_ | refine AW.iadd 252 dL_law_251 rfl ?_
  refine AW.iaload 253 _ dL_law_252 rfl (by assumption) (by first | exact Or.inl rfl | exact Or.inr rfl) (ix_nI (by omega)) (by omega) ?_
  refine AW.cV3 256 dL_law_253 rfl mi_X8_meets mv_X8_meets lk_L_26 ⟨(Nat.le_of_ble_eq_true rfl), (Nat.le_of_ble_eq_true rfl)⟩ rfl (by assumption) rfl (Nat.le_of_ble_eq_true rfl) (r_meets R1 (fun h2 R2 F2 => ?_))
  refine AW.icmp_eq 902 259 dL_law_256 (by decide) rfl (fun c => ?_) (fun c => ?_)
  · exact next h2 _ (J.step K1 F1 R2 F2 (congrArg Prod.snd (congrArg (stl X) (E_meet g.1 _ _ _).1)) (g.stlG (E_meet g.1 _ _ _).2))
  · exact absurd (congrArg Prod.fst (congrArg (stl X) (E_meet g.1 _ _ _).1)) c
theorem lw_joins (hL : L ≤ 2048) (hi : i + 4 ≤ L) (J : LawAt L xs h X) (next : ∀ h X, LawAt L xs h X → AW L_law 902 [some (.ref 2), some (.ref 3), some (.ref 196), some (.int (nI i))] [] 212 u h P) : AW L_law 261 [some (.ref 2), some (.ref 3), some (.ref 196), some (.int (nI i))] [] 212 u h P := by
  obtain ⟨K, R, g, x2⟩ := id J
  have x3 := J.x3
  refine AW.aload_n 262 dL_law_261 rfl (by rfl) ?_
  refine AW.aload_n 263 dL_law_262 rfl (by rfl) ?_
  refine AW.iload_n 264 dL_law_263 rfl (by rfl) ?_
  refine AW.iconst 265 dL_law_264 rfl (nI 1) rfl ?_
  first | refine AW.iaddN 266 dL_law_265 rfl ?_ | refine AW.iadd 266 dL_law_265 rfl ?_
  refine AW.iaload 267 _ dL_law_266 rfl (by assumption) (by first | exact Or.inl rfl | exact Or.inr rfl) (ix_nI (by omega)) (by omega) ?_
  refine AW.aload_n 268 dL_law_267 rfl (by rfl) ?_
  refine AW.iload_n 269 dL_law_268 rfl (by rfl) ?_
  refine AW.iconst 270 dL_law_269 rfl (nI 2) rfl ?_
  first | refine AW.iaddN 271 dL_law_270 rfl ?_ | refine AW.iadd 271 dL_law_270 rfl ?_
  refine AW.iaload 272 _ dL_law_271 rfl (by assumption) (by first | exact Or.inl rfl | exact Or.inr rfl) (ix_nI (by omega)) (by omega) ?_
  refine AW.aload_n 273 dL_law_272 rfl (by rfl) ?_
  refine AW.iload_n 274 dL_law_273 rfl (by rfl) ?_
  refine AW.iconst 275 dL_law_274 rfl (nI 3) rfl ?_
  first | refine AW.iaddN 276 dL_law_275 rfl ?_ | refine AW.iadd 276 dL_law_275 rfl ?_
  refine AW.iaload 277 _ dL_law_276 rfl (by assumption) (by first | exact Or.inl rfl | exact Or.inr rfl) (ix_nI (by omega)) (by omega) ?_
  refine AW.cV3 280 dL_law_277 rfl mi_X7_joins mv_X7_joins lk_L_27 ⟨(Nat.le_of_ble_eq_true rfl), (Nat.le_of_ble_eq_true rfl)⟩ rfl (by assumption) rfl (Nat.le_of_ble_eq_true rfl) (c_joins K (fun h1 K1 F1 => ?_))
  have R1 := R.far F1
  have y2 := (F1 2 (by decide)).trans x2
  obtain ⟨_, _, _, _, _, _, y196, -⟩ := id R1.1
  refine AW.aload_n 281 dL_law_280 rfl (by rfl) ?_
  refine AW.aload_n 282 dL_law_281 rfl (by rfl) ?_
  refine AW.iload_n 283 dL_law_282 rfl (by rfl) ?_
  refine AW.iconst 284 dL_law_283 rfl (nI 1) rfl ?_
  first | refine AW.iaddN 285 dL_law_284 rfl ?_ | refine AW.iadd 285 dL_law_284 rfl ?_
  refine AW.iaload 286 _ dL_law_285 rfl (by assumption) (by first | exact Or.inl rfl | exact Or.inr rfl) (ix_nI (by omega)) (by omega) ?_
  refine AW.aload_n 287 dL_law_286 rfl (by rfl) ?_
  refine AW.iload_n 288 dL_law_287 rfl (by rfl) ?_
  refine AW.iconst 289 dL_law_288 rfl (nI 2) rfl ?_
  first | refine AW.iaddN 290 dL_law_289 rfl ?_ | refine AW.iadd 290 dL_law_289 rfl ?_
  refine AW.iaload 291 _ dL_law_290 rfl (by assumption) (by first | exact Or.inl rfl | exact Or.inr rfl) (ix_nI (by omega)) (by omega) ?_
  refine AW.aload_n 292 dL_law_291 rfl (by rfl) ?_
  refine AW.iload_n 293 dL_law_292 rfl (by rfl) ?_
  refine AW.iconst 294 dL_law_293 rfl (nI 3) rfl ?_
  first | refine AW.iaddN 295 dL_law_294 rfl ?_ | refine AW.iadd 295 dL_law_294 rfl ?_
  refine AW.iaload 296 _ dL_law_295 rfl (by assumption) (by first | exact Or.inl rfl | exact Or.inr rfl) (ix_nI (by omega)) (by omega) ?_
  refine AW.cV3 299 dL_law_296 rfl mi_X8_joins mv_X8_joins lk_L_30 ⟨(Nat.le_of_ble_eq_true rfl), (Nat.le_of_ble_eq_true rfl)⟩ rfl (by assumption) rfl (Nat.le_of_ble_eq_true rfl) (r_joins R1 (fun h2 R2 F2 => ?_))
  refine AW.icmp_eq 902 302 dL_law_299 (by decide) rfl (fun c => ?_) (fun c => ?_)
  · exact next h2 _ (J.step K1 F1 R2 F2 (congrArg Prod.snd (congrArg (stl X) (E_join g.1 _ _ _).1)) (g.stlG (E_join g.1 _ _ _).2))
  · exact absurd (congrArg Prod.fst (congrArg (stl X) (E_join g.1 _ _ _).1)) c
theorem lw_complements (hL : L ≤ 2048) (hi : i + 4 ≤ L) (J : LawAt L xs h X) (next : ∀ h X, LawAt L xs h X → AW L_law 902 [some (.ref 2), some (.ref 3), some (.ref 196), some (.int (nI i))] [] 212 u h P) : AW L_law 304 [some (.ref 2), some (.ref 3), some (.ref 196), some (.int (nI i))] [] 212 u h P := by
  obtain ⟨K, R, g, x2⟩ := id J
  have x3 := J.x3
  refine AW.aload_n 305 dL_law_304 rfl (by rfl) ?_
  refine AW.aload_n 306 dL_law_305 rfl (by rfl) ?_
  refine AW.iload_n 307 dL_law_306 rfl (by rfl) ?_
  refine AW.iconst 308 dL_law_307 rfl (nI 1) rfl ?_
  first | refine AW.iaddN 309 dL_law_308 rfl ?_ | refine AW.iadd 309 dL_law_308 rfl ?_
  refine AW.iaload 310 _ dL_law_309 rfl (by assumption) (by first | exact Or.inl rfl | exact Or.inr rfl) (ix_nI (by omega)) (by omega) ?_
  refine AW.aload_n 311 dL_law_310 rfl (by rfl) ?_
  refine AW.iload_n 312 dL_law_311 rfl (by rfl) ?_
  refine AW.iconst 313 dL_law_312 rfl (nI 2) rfl ?_
  first | refine AW.iaddN 314 dL_law_313 rfl ?_ | refine AW.iadd 314 dL_law_313 rfl ?_
  refine AW.iaload 315 _ dL_law_314 rfl (by assumption) (by first | exact Or.inl rfl | exact Or.inr rfl) (ix_nI (by omega)) (by omega) ?_
  refine AW.cV2 318 dL_law_315 rfl mi_X7_complements mv_X7_complements lk_L_31 ⟨(Nat.le_of_ble_eq_true rfl), (Nat.le_of_ble_eq_true rfl)⟩ rfl (by assumption) rfl (Nat.le_of_ble_eq_true rfl) (c_complements K (fun h1 K1 F1 => ?_))
  have R1 := R.far F1
  have y2 := (F1 2 (by decide)).trans x2
  obtain ⟨_, _, _, _, _, _, y196, -⟩ := id R1.1
  refine AW.aload_n 319 dL_law_318 rfl (by rfl) ?_
  refine AW.aload_n 320 dL_law_319 rfl (by rfl) ?_
  refine AW.iload_n 321 dL_law_320 rfl (by rfl) ?_
  refine AW.iconst 322 dL_law_321 rfl (nI 1) rfl ?_
  first | refine AW.iaddN 323 dL_law_322 rfl ?_ | refine AW.iadd 323 dL_law_322 rfl ?_
  refine AW.iaload 324 _ dL_law_323 rfl (by assumption) (by first | exact Or.inl rfl | exact Or.inr rfl) (ix_nI (by omega)) (by omega) ?_
  refine AW.aload_n 325 dL_law_324 rfl (by rfl) ?_
  refine AW.iload_n 326 dL_law_325 rfl (by rfl) ?_
  refine AW.iconst 327 dL_law_326 rfl (nI 2) rfl ?_
  first | refine AW.iaddN 328 dL_law_327 rfl ?_ | refine AW.iadd 328 dL_law_327 rfl ?_
  refine AW.iaload 329 _ dL_law_328 rfl (by assumption) (by first | exact Or.inl rfl | exact Or.inr rfl) (ix_nI (by omega)) (by omega) ?_
  refine AW.cV2 332 dL_law_329 rfl mi_X8_complements mv_X8_complements lk_L_35 ⟨(Nat.le_of_ble_eq_true rfl), (Nat.le_of_ble_eq_true rfl)⟩ rfl (by assumption) rfl (Nat.le_of_ble_eq_true rfl) (r_complements R1 (fun h2 R2 F2 => ?_))
  refine AW.icmp_eq 902 335 dL_law_332 (by decide) rfl (fun c => ?_) (fun c => ?_)
  · exact next h2 _ (J.step K1 F1 R2 F2 (congrArg Prod.snd (congrArg (stl X) (E_comp g.1 _ _).1)) (g.stlG (E_comp g.1 _ _).2))
  · exact absurd (congrArg Prod.fst (congrArg (stl X) (E_comp g.1 _ _).1)) c
theorem lw_turns (hL : L ≤ 2048) (hi : i + 4 ≤ L) (J : LawAt L xs h X) (next : ∀ h X, LawAt L xs h X → AW L_law 902 [some (.ref 2), some (.ref 3), some (.ref 196), some (.int (nI i))] [] 212 u h P) : AW L_law 337 [some (.ref 2), some (.ref 3), some (.ref 196), some (.int (nI i))] [] 212 u h P := by
  obtain ⟨K, R, g, x2⟩ := id J
  have x3 := J.x3
  refine AW.aload_n 338 dL_law_337 rfl (by rfl) ?_
  refine AW.aload_n 339 dL_law_338 rfl (by rfl) ?_
  refine AW.iload_n 340 dL_law_339 rfl (by rfl) ?_
  refine AW.iconst 341 dL_law_340 rfl (nI 1) rfl ?_
  first | refine AW.iaddN 342 dL_law_341 rfl ?_ | refine AW.iadd 342 dL_law_341 rfl ?_
  refine AW.iaload 343 _ dL_law_342 rfl (by assumption) (by first | exact Or.inl rfl | exact Or.inr rfl) (ix_nI (by omega)) (by omega) ?_
  refine AW.aload_n 344 dL_law_343 rfl (by rfl) ?_
  refine AW.iload_n 345 dL_law_344 rfl (by rfl) ?_
  refine AW.iconst 346 dL_law_345 rfl (nI 2) rfl ?_
  first | refine AW.iaddN 347 dL_law_346 rfl ?_ | refine AW.iadd 347 dL_law_346 rfl ?_
  refine AW.iaload 348 _ dL_law_347 rfl (by assumption) (by first | exact Or.inl rfl | exact Or.inr rfl) (ix_nI (by omega)) (by omega) ?_
  refine AW.cV2 351 dL_law_348 rfl mi_X7_turns mv_X7_turns lk_L_36 ⟨(Nat.le_of_ble_eq_true rfl), (Nat.le_of_ble_eq_true rfl)⟩ rfl (by assumption) rfl (Nat.le_of_ble_eq_true rfl) (c_turns K (V_ok g.1) (fun h1 K1 F1 => ?_))
  have R1 := R.far F1
  have y2 := (F1 2 (by decide)).trans x2
  obtain ⟨_, _, _, _, _, _, y196, -⟩ := id R1.1
  refine AW.aload_n 352 dL_law_351 rfl (by rfl) ?_
  refine AW.aload_n 353 dL_law_352 rfl (by rfl) ?_
  refine AW.iload_n 354 dL_law_353 rfl (by rfl) ?_
  refine AW.iconst 355 dL_law_354 rfl (nI 1) rfl ?_
  first | refine AW.iaddN 356 dL_law_355 rfl ?_ | refine AW.iadd 356 dL_law_355 rfl ?_
  refine AW.iaload 357 _ dL_law_356 rfl (by assumption) (by first | exact Or.inl rfl | exact Or.inr rfl) (ix_nI (by omega)) (by omega) ?_
  refine AW.aload_n 358 dL_law_357 rfl (by rfl) ?_
  refine AW.iload_n 359 dL_law_358 rfl (by rfl) ?_
  refine AW.iconst 360 dL_law_359 rfl (nI 2) rfl ?_
  first | refine AW.iaddN 361 dL_law_360 rfl ?_ | refine AW.iadd 361 dL_law_360 rfl ?_
  refine AW.iaload 362 _ dL_law_361 rfl (by assumption) (by first | exact Or.inl rfl | exact Or.inr rfl) (ix_nI (by omega)) (by omega) ?_
  refine AW.cV2 365 dL_law_362 rfl mi_X8_turns mv_X8_turns lk_L_39 ⟨(Nat.le_of_ble_eq_true rfl), (Nat.le_of_ble_eq_true rfl)⟩ rfl (by assumption) rfl (Nat.le_of_ble_eq_true rfl) (r_turns R1 (fun h2 R2 F2 => ?_))
  refine AW.icmp_eq 902 368 dL_law_365 (by decide) rfl (fun c => ?_) (fun c => ?_)
  · exact next h2 _ (J.step K1 F1 R2 F2 (congrArg Prod.snd (congrArg (stl X) (E_turn g.1 _ _).1)) (g.stlG (E_turn g.1 _ _).2))
  · exact absurd (congrArg Prod.fst (congrArg (stl X) (E_turn g.1 _ _).1)) c
theorem lw_takes (hL : L ≤ 2048) (hi : i + 4 ≤ L) (J : LawAt L xs h X) (next : ∀ h X, LawAt L xs h X → AW L_law 902 [some (.ref 2), some (.ref 3), some (.ref 196), some (.int (nI i))] [] 212 u h P) : AW L_law 370 [some (.ref 2), some (.ref 3), some (.ref 196), some (.int (nI i))] [] 212 u h P := by
  obtain ⟨K, R, g, x2⟩ := id J
  have x3 := J.x3
  refine AW.aload_n 371 dL_law_370 rfl (by rfl) ?_
  refine AW.aload_n 372 dL_law_371 rfl (by rfl) ?_
  refine AW.iload_n 373 dL_law_372 rfl (by rfl) ?_
  refine AW.iconst 374 dL_law_373 rfl (nI 1) rfl ?_
  first | refine AW.iaddN 375 dL_law_374 rfl ?_ | refine AW.iadd 375 dL_law_374 rfl ?_
  refine AW.iaload 376 _ dL_law_375 rfl (by assumption) (by first | exact Or.inl rfl | exact Or.inr rfl) (ix_nI (by omega)) (by omega) ?_
  refine AW.aload_n 377 dL_law_376 rfl (by rfl) ?_
  refine AW.iload_n 378 dL_law_377 rfl (by rfl) ?_
  refine AW.iconst 379 dL_law_378 rfl (nI 2) rfl ?_
  first | refine AW.iaddN 380 dL_law_379 rfl ?_ | refine AW.iadd 380 dL_law_379 rfl ?_
  refine AW.iaload 381 _ dL_law_380 rfl (by assumption) (by first | exact Or.inl rfl | exact Or.inr rfl) (ix_nI (by omega)) (by omega) ?_
  refine AW.cV2 384 dL_law_381 rfl mi_X7_takes mv_X7_takes lk_L_40 ⟨(Nat.le_of_ble_eq_true rfl), (Nat.le_of_ble_eq_true rfl)⟩ rfl (by assumption) rfl (Nat.le_of_ble_eq_true rfl) (c_takes K (fun h1 K1 F1 => ?_))
  have R1 := R.far F1
  have y2 := (F1 2 (by decide)).trans x2
  obtain ⟨_, _, _, _, _, _, y196, -⟩ := id R1.1
  refine AW.aload_n 385 dL_law_384 rfl (by rfl) ?_
  refine AW.aload_n 386 dL_law_385 rfl (by rfl) ?_
  refine AW.iload_n 387 dL_law_386 rfl (by rfl) ?_
  refine AW.iconst 388 dL_law_387 rfl (nI 1) rfl ?_
  first | refine AW.iaddN 389 dL_law_388 rfl ?_ | refine AW.iadd 389 dL_law_388 rfl ?_
  refine AW.iaload 390 _ dL_law_389 rfl (by assumption) (by first | exact Or.inl rfl | exact Or.inr rfl) (ix_nI (by omega)) (by omega) ?_
  refine AW.aload_n 391 dL_law_390 rfl (by rfl) ?_
  refine AW.iload_n 392 dL_law_391 rfl (by rfl) ?_
  refine AW.iconst 393 dL_law_392 rfl (nI 2) rfl ?_
  first | refine AW.iaddN 394 dL_law_393 rfl ?_ | refine AW.iadd 394 dL_law_393 rfl ?_
  refine AW.iaload 395 _ dL_law_394 rfl (by assumption) (by first | exact Or.inl rfl | exact Or.inr rfl) (ix_nI (by omega)) (by omega) ?_
  refine AW.cV2 398 dL_law_395 rfl mi_X8_takes mv_X8_takes lk_L_43 ⟨(Nat.le_of_ble_eq_true rfl), (Nat.le_of_ble_eq_true rfl)⟩ rfl (by assumption) rfl (Nat.le_of_ble_eq_true rfl) (r_takes R1 (fun h2 R2 F2 => ?_))
  refine AW.icmp_eq 902 401 dL_law_398 (by decide) rfl (fun c => ?_) (fun c => ?_)
  · exact next h2 _ (J.step K1 F1 R2 F2 (congrArg Prod.snd (congrArg (stl X) (E_take g.1 _ _).1)) (g.stlG (E_take g.1 _ _).2))
  · exact absurd (congrArg Prod.fst (congrArg (stl X) (E_take g.1 _ _).1)) c
theorem lw_of (hL : L ≤ 2048) (hi : i + 4 ≤ L) (J : LawAt L xs h X) (next : ∀ h X, LawAt L xs h X → AW L_law 902 [some (.ref 2), some (.ref 3), some (.ref 196), some (.int (nI i))] [] 212 u h P) : AW L_law 403 [some (.ref 2), some (.ref 3), some (.ref 196), some (.int (nI i))] [] 212 u h P := by
  obtain ⟨K, R, g, x2⟩ := id J
  have x3 := J.x3
  refine AW.aload_n 404 dL_law_403 rfl (by rfl) ?_
  refine AW.aload_n 405 dL_law_404 rfl (by rfl) ?_
  refine AW.iload_n 406 dL_law_405 rfl (by rfl) ?_
  refine AW.iconst 407 dL_law_406 rfl (nI 1) rfl ?_
  first | refine AW.iaddN 408 dL_law_407 rfl ?_ | refine AW.iadd 408 dL_law_407 rfl ?_
  refine AW.iaload 409 _ dL_law_408 rfl (by assumption) (by first | exact Or.inl rfl | exact Or.inr rfl) (ix_nI (by omega)) (by omega) ?_
  refine AW.aload_n 410 dL_law_409 rfl (by rfl) ?_
  refine AW.iload_n 411 dL_law_410 rfl (by rfl) ?_
  refine AW.iconst 412 dL_law_411 rfl (nI 2) rfl ?_
  first | refine AW.iaddN 413 dL_law_412 rfl ?_ | refine AW.iadd 413 dL_law_412 rfl ?_
  refine AW.iaload 414 _ dL_law_413 rfl (by assumption) (by first | exact Or.inl rfl | exact Or.inr rfl) (ix_nI (by omega)) (by omega) ?_
  refine AW.cV2 417 dL_law_414 rfl mi_X7_of mv_X7_of lk_L_44 ⟨(Nat.le_of_ble_eq_true rfl), (Nat.le_of_ble_eq_true rfl)⟩ rfl (by assumption) rfl (Nat.le_of_ble_eq_true rfl) (c_of K (V_ok g.1) (fun h1 K1 F1 => ?_))
  have R1 := R.far F1
  have y2 := (F1 2 (by decide)).trans x2
  obtain ⟨_, _, _, _, _, _, y196, -⟩ := id R1.1
  refine AW.aload_n 418 dL_law_417 rfl (by rfl) ?_
  refine AW.aload_n 419 dL_law_418 rfl (by rfl) ?_
  refine AW.iload_n 420 dL_law_419 rfl (by rfl) ?_
  refine AW.iconst 421 dL_law_420 rfl (nI 1) rfl ?_
  first | refine AW.iaddN 422 dL_law_421 rfl ?_ | refine AW.iadd 422 dL_law_421 rfl ?_
  refine AW.iaload 423 _ dL_law_422 rfl (by assumption) (by first | exact Or.inl rfl | exact Or.inr rfl) (ix_nI (by omega)) (by omega) ?_
  refine AW.aload_n 424 dL_law_423 rfl (by rfl) ?_
  refine AW.iload_n 425 dL_law_424 rfl (by rfl) ?_
  refine AW.iconst 426 dL_law_425 rfl (nI 2) rfl ?_
  first | refine AW.iaddN 427 dL_law_426 rfl ?_ | refine AW.iadd 427 dL_law_426 rfl ?_
  refine AW.iaload 428 _ dL_law_427 rfl (by assumption) (by first | exact Or.inl rfl | exact Or.inr rfl) (ix_nI (by omega)) (by omega) ?_
  refine AW.cV2 431 dL_law_428 rfl mi_X8_of mv_X8_of lk_L_47 ⟨(Nat.le_of_ble_eq_true rfl), (Nat.le_of_ble_eq_true rfl)⟩ rfl (by assumption) rfl (Nat.le_of_ble_eq_true rfl) (r_of R1 (fun h2 R2 F2 => ?_))
  refine AW.icmp_eq 902 434 dL_law_431 (by decide) rfl (fun c => ?_) (fun c => ?_)
  · exact next h2 _ (J.step K1 F1 R2 F2 (congrArg Prod.snd (E_of g _ _)) (g.of _ _))
  · exact absurd (congrArg Prod.fst (E_of g _ _)) c
theorem lw_row (hL : L ≤ 2048) (hi : i + 4 ≤ L) (J : LawAt L xs h X) (next : ∀ h X, LawAt L xs h X → AW L_law 902 [some (.ref 2), some (.ref 3), some (.ref 196), some (.int (nI i))] [] 212 u h P) : AW L_law 436 [some (.ref 2), some (.ref 3), some (.ref 196), some (.int (nI i))] [] 212 u h P := by
  obtain ⟨K, R, g, x2⟩ := id J
  have x3 := J.x3
  refine AW.aload_n 437 dL_law_436 rfl (by rfl) ?_
  refine AW.aload_n 438 dL_law_437 rfl (by rfl) ?_
  refine AW.iload_n 439 dL_law_438 rfl (by rfl) ?_
  refine AW.iconst 440 dL_law_439 rfl (nI 1) rfl ?_
  first | refine AW.iaddN 441 dL_law_440 rfl ?_ | refine AW.iadd 441 dL_law_440 rfl ?_
  refine AW.iaload 442 _ dL_law_441 rfl (by assumption) (by first | exact Or.inl rfl | exact Or.inr rfl) (ix_nI (by omega)) (by omega) ?_
  refine AW.aload_n 443 dL_law_442 rfl (by rfl) ?_
  refine AW.iload_n 444 dL_law_443 rfl (by rfl) ?_
  refine AW.iconst 445 dL_law_444 rfl (nI 2) rfl ?_
  first | refine AW.iaddN 446 dL_law_445 rfl ?_ | refine AW.iadd 446 dL_law_445 rfl ?_
  refine AW.iaload 447 _ dL_law_446 rfl (by assumption) (by first | exact Or.inl rfl | exact Or.inr rfl) (ix_nI (by omega)) (by omega) ?_
  refine AW.cV2 450 dL_law_447 rfl mi_X7_row mv_X7_row lk_L_48 ⟨(Nat.le_of_ble_eq_true rfl), (Nat.le_of_ble_eq_true rfl)⟩ rfl (by assumption) rfl (Nat.le_of_ble_eq_true rfl) (c_row K (fun h1 K1 F1 => ?_))
  have R1 := R.far F1
  have y2 := (F1 2 (by decide)).trans x2
  obtain ⟨_, _, _, _, _, _, y196, -⟩ := id R1.1
  refine AW.aload_n 451 dL_law_450 rfl (by rfl) ?_
  refine AW.aload_n 452 dL_law_451 rfl (by rfl) ?_
  refine AW.iload_n 453 dL_law_452 rfl (by rfl) ?_
  refine AW.iconst 454 dL_law_453 rfl (nI 1) rfl ?_
  first | refine AW.iaddN 455 dL_law_454 rfl ?_ | refine AW.iadd 455 dL_law_454 rfl ?_
  refine AW.iaload 456 _ dL_law_455 rfl (by assumption) (by first | exact Or.inl rfl | exact Or.inr rfl) (ix_nI (by omega)) (by omega) ?_
  refine AW.aload_n 457 dL_law_456 rfl (by rfl) ?_
  refine AW.iload_n 458 dL_law_457 rfl (by rfl) ?_
  refine AW.iconst 459 dL_law_458 rfl (nI 2) rfl ?_
  first | refine AW.iaddN 460 dL_law_459 rfl ?_ | refine AW.iadd 460 dL_law_459 rfl ?_
  refine AW.iaload 461 _ dL_law_460 rfl (by assumption) (by first | exact Or.inl rfl | exact Or.inr rfl) (ix_nI (by omega)) (by omega) ?_
  refine AW.cV2 464 dL_law_461 rfl mi_X8_row mv_X8_row lk_L_51 ⟨(Nat.le_of_ble_eq_true rfl), (Nat.le_of_ble_eq_true rfl)⟩ rfl (by assumption) rfl (Nat.le_of_ble_eq_true rfl) (r_row R1 (fun h2 R2 F2 => ?_))
  refine AW.icmp_eq 902 467 dL_law_464 (by decide) rfl (fun c => ?_) (fun c => ?_)
  · exact next h2 _ (J.step K1 F1 R2 F2 (congrArg Prod.snd (E_row g _ _)) (g.row _ _))
  · exact absurd (congrArg Prod.fst (E_row g _ _)) c
theorem lw_below (hL : L ≤ 2048) (hi : i + 4 ≤ L) (J : LawAt L xs h X) (next : ∀ h X, LawAt L xs h X → AW L_law 902 [some (.ref 2), some (.ref 3), some (.ref 196), some (.int (nI i))] [] 212 u h P) : AW L_law 469 [some (.ref 2), some (.ref 3), some (.ref 196), some (.int (nI i))] [] 212 u h P := by
  obtain ⟨K, R, g, x2⟩ := id J
  have x3 := J.x3
  refine AW.aload_n 470 dL_law_469 rfl (by rfl) ?_
  refine AW.aload_n 471 dL_law_470 rfl (by rfl) ?_
  refine AW.iload_n 472 dL_law_471 rfl (by rfl) ?_
  refine AW.iconst 473 dL_law_472 rfl (nI 1) rfl ?_
  first | refine AW.iaddN 474 dL_law_473 rfl ?_ | refine AW.iadd 474 dL_law_473 rfl ?_
  refine AW.iaload 475 _ dL_law_474 rfl (by assumption) (by first | exact Or.inl rfl | exact Or.inr rfl) (ix_nI (by omega)) (by omega) ?_
  refine AW.aload_n 476 dL_law_475 rfl (by rfl) ?_
  refine AW.iload_n 477 dL_law_476 rfl (by rfl) ?_
  refine AW.iconst 478 dL_law_477 rfl (nI 2) rfl ?_
  first | refine AW.iaddN 479 dL_law_478 rfl ?_ | refine AW.iadd 479 dL_law_478 rfl ?_
  refine AW.iaload 480 _ dL_law_479 rfl (by assumption) (by first | exact Or.inl rfl | exact Or.inr rfl) (ix_nI (by omega)) (by omega) ?_
  refine AW.cV2 483 dL_law_480 rfl mi_X7_below mv_X7_below lk_L_52 ⟨(Nat.le_of_ble_eq_true rfl), (Nat.le_of_ble_eq_true rfl)⟩ rfl (by assumption) rfl (Nat.le_of_ble_eq_true rfl) (c_below K (fun h1 K1 F1 => ?_))
  have R1 := R.far F1
  have y2 := (F1 2 (by decide)).trans x2
  obtain ⟨_, _, _, _, _, _, y196, -⟩ := id R1.1
  refine AW.aload_n 484 dL_law_483 rfl (by rfl) ?_
  refine AW.aload_n 485 dL_law_484 rfl (by rfl) ?_
  refine AW.iload_n 486 dL_law_485 rfl (by rfl) ?_
  refine AW.iconst 487 dL_law_486 rfl (nI 1) rfl ?_
  first | refine AW.iaddN 488 dL_law_487 rfl ?_ | refine AW.iadd 488 dL_law_487 rfl ?_
  refine AW.iaload 489 _ dL_law_488 rfl (by assumption) (by first | exact Or.inl rfl | exact Or.inr rfl) (ix_nI (by omega)) (by omega) ?_
  refine AW.aload_n 490 dL_law_489 rfl (by rfl) ?_
  refine AW.iload_n 491 dL_law_490 rfl (by rfl) ?_
  refine AW.iconst 492 dL_law_491 rfl (nI 2) rfl ?_
  first | refine AW.iaddN 493 dL_law_492 rfl ?_ | refine AW.iadd 493 dL_law_492 rfl ?_
  refine AW.iaload 494 _ dL_law_493 rfl (by assumption) (by first | exact Or.inl rfl | exact Or.inr rfl) (ix_nI (by omega)) (by omega) ?_
  refine AW.cV2 497 dL_law_494 rfl mi_X8_below mv_X8_below lk_L_55 ⟨(Nat.le_of_ble_eq_true rfl), (Nat.le_of_ble_eq_true rfl)⟩ rfl (by assumption) rfl (Nat.le_of_ble_eq_true rfl) (r_below R1 (fun h2 R2 F2 => ?_))
  refine AW.icmp_eq 902 500 dL_law_497 (by decide) rfl (fun c => ?_) (fun c => ?_)
  · exact next h2 _ (J.step K1 F1 R2 F2 (congrArg Prod.snd (E_below g _ _)) (g.below _ _))
  · exact absurd (congrArg Prod.fst (E_below g _ _)) c
theorem lw_count (hL : L ≤ 2048) (hi : i + 4 ≤ L) (J : LawAt L xs h X) (next : ∀ h X, LawAt L xs h X → AW L_law 902 [some (.ref 2), some (.ref 3), some (.ref 196), some (.int (nI i))] [] 212 u h P) : AW L_law 502 [some (.ref 2), some (.ref 3), some (.ref 196), some (.int (nI i))] [] 212 u h P := by
  obtain ⟨K, R, g, x2⟩ := id J
  have x3 := J.x3
  refine AW.aload_n 503 dL_law_502 rfl (by rfl) ?_
  refine AW.aload_n 504 dL_law_503 rfl (by rfl) ?_
  refine AW.iload_n 505 dL_law_504 rfl (by rfl) ?_
  refine AW.iconst 506 dL_law_505 rfl (nI 1) rfl ?_
  first | refine AW.iaddN 507 dL_law_506 rfl ?_ | refine AW.iadd 507 dL_law_506 rfl ?_
  refine AW.iaload 508 _ dL_law_507 rfl (by assumption) (by first | exact Or.inl rfl | exact Or.inr rfl) (ix_nI (by omega)) (by omega) ?_
  refine AW.cV1 511 dL_law_508 rfl mi_X7_count mv_X7_count lk_L_56 ⟨(Nat.le_of_ble_eq_true rfl), (Nat.le_of_ble_eq_true rfl)⟩ rfl (by assumption) rfl (Nat.le_of_ble_eq_true rfl) (c_count K (fun h1 K1 F1 => ?_))
  have R1 := R.far F1
  have y2 := (F1 2 (by decide)).trans x2
  obtain ⟨_, _, _, _, _, _, y196, -⟩ := id R1.1
  refine AW.aload_n 512 dL_law_511 rfl (by rfl) ?_
  refine AW.aload_n 513 dL_law_512 rfl (by rfl) ?_
  refine AW.iload_n 514 dL_law_513 rfl (by rfl) ?_
  refine AW.iconst 515 dL_law_514 rfl (nI 1) rfl ?_
  first | refine AW.iaddN 516 dL_law_515 rfl ?_ | refine AW.iadd 516 dL_law_515 rfl ?_
  refine AW.iaload 517 _ dL_law_516 rfl (by assumption) (by first | exact Or.inl rfl | exact Or.inr rfl) (ix_nI (by omega)) (by omega) ?_
  refine AW.cV1 520 dL_law_517 rfl mi_X8_count mv_X8_count lk_L_59 ⟨(Nat.le_of_ble_eq_true rfl), (Nat.le_of_ble_eq_true rfl)⟩ rfl (by assumption) rfl (Nat.le_of_ble_eq_true rfl) (r_count R1 (fun h2 R2 F2 => ?_))
  refine AW.icmp_eq 902 523 dL_law_520 (by decide) rfl (fun c => ?_) (fun c => ?_)
  · exact next h2 _ (J.step K1 F1 R2 F2 (congrArg Prod.snd (E_count g _)) (g.count _))
  · exact absurd (congrArg Prod.fst (E_count g _)) c
theorem lw_evens (hL : L ≤ 2048) (hi : i + 4 ≤ L) (J : LawAt L xs h X) (next : ∀ h X, LawAt L xs h X → AW L_law 902 [some (.ref 2), some (.ref 3), some (.ref 196), some (.int (nI i))] [] 212 u h P) : AW L_law 525 [some (.ref 2), some (.ref 3), some (.ref 196), some (.int (nI i))] [] 212 u h P := by
  obtain ⟨K, R, g, x2⟩ := id J
  have x3 := J.x3
  refine AW.aload_n 526 dL_law_525 rfl (by rfl) ?_
  refine AW.cV0 529 dL_law_526 rfl mi_X7_evens mv_X7_evens lk_L_60 ⟨(Nat.le_of_ble_eq_true rfl), (Nat.le_of_ble_eq_true rfl)⟩ rfl (by assumption) rfl (Nat.le_of_ble_eq_true rfl) (c_evens K (fun h1 K1 F1 => ?_))
  have R1 := R.far F1
  have y2 := (F1 2 (by decide)).trans x2
  obtain ⟨_, _, _, _, _, _, y196, -⟩ := id R1.1
  refine AW.aload_n 530 dL_law_529 rfl (by rfl) ?_
  refine AW.cV0 533 dL_law_530 rfl mi_X8_evens mv_X8_evens lk_L_64 ⟨(Nat.le_of_ble_eq_true rfl), (Nat.le_of_ble_eq_true rfl)⟩ rfl (by assumption) rfl (Nat.le_of_ble_eq_true rfl) (r_evens R1 (fun h2 R2 F2 => ?_))
  refine AW.icmp_eq 902 536 dL_law_533 (by decide) rfl (fun c => ?_) (fun c => ?_)
  · exact next h2 _ (J.step K1 F1 R2 F2 (congrArg Prod.snd (E_evens g)) (g.evens))
  · exact absurd (congrArg Prod.fst (E_evens g)) c
theorem lw_covers (hL : L ≤ 2048) (hi : i + 4 ≤ L) (J : LawAt L xs h X) (next : ∀ h X, LawAt L xs h X → AW L_law 902 [some (.ref 2), some (.ref 3), some (.ref 196), some (.int (nI i))] [] 212 u h P) : AW L_law 538 [some (.ref 2), some (.ref 3), some (.ref 196), some (.int (nI i))] [] 212 u h P := by
  obtain ⟨K, R, g, x2⟩ := id J
  have x3 := J.x3
  refine AW.aload_n 539 dL_law_538 rfl (by rfl) ?_
  refine AW.aload_n 540 dL_law_539 rfl (by rfl) ?_
  refine AW.iload_n 541 dL_law_540 rfl (by rfl) ?_
  refine AW.iconst 542 dL_law_541 rfl (nI 1) rfl ?_
  first | refine AW.iaddN 543 dL_law_542 rfl ?_ | refine AW.iadd 543 dL_law_542 rfl ?_
  refine AW.iaload 544 _ dL_law_543 rfl (by assumption) (by first | exact Or.inl rfl | exact Or.inr rfl) (ix_nI (by omega)) (by omega) ?_
  refine AW.aload_n 545 dL_law_544 rfl (by rfl) ?_
  refine AW.iload_n 546 dL_law_545 rfl (by rfl) ?_
  refine AW.iconst 547 dL_law_546 rfl (nI 2) rfl ?_
  first | refine AW.iaddN 548 dL_law_547 rfl ?_ | refine AW.iadd 548 dL_law_547 rfl ?_
  refine AW.iaload 549 _ dL_law_548 rfl (by assumption) (by first | exact Or.inl rfl | exact Or.inr rfl) (ix_nI (by omega)) (by omega) ?_
  refine AW.cV2 552 dL_law_549 rfl mi_X7_covers mv_X7_covers lk_L_65 ⟨(Nat.le_of_ble_eq_true rfl), (Nat.le_of_ble_eq_true rfl)⟩ rfl (by assumption) rfl (Nat.le_of_ble_eq_true rfl) (c_covers K (J_ok g.1) (fun h1 K1 F1 => ?_))
  have R1 := R.far F1
  have y2 := (F1 2 (by decide)).trans x2
  obtain ⟨_, _, _, _, _, _, y196, -⟩ := id R1.1
  refine AW.aload_n 553 dL_law_552 rfl (by rfl) ?_
  refine AW.aload_n 554 dL_law_553 rfl (by rfl) ?_
  refine AW.iload_n 555 dL_law_554 rfl (by rfl) ?_
  refine AW.iconst 556 dL_law_555 rfl (nI 1) rfl ?_
  first | refine AW.iaddN 557 dL_law_556 rfl ?_ | refine AW.iadd 557 dL_law_556 rfl ?_
  refine AW.iaload 558 _ dL_law_557 rfl (by assumption) (by first | exact Or.inl rfl | exact Or.inr rfl) (ix_nI (by omega)) (by omega) ?_
  refine AW.aload_n 559 dL_law_558 rfl (by rfl) ?_
  refine AW.iload_n 560 dL_law_559 rfl (by rfl) ?_
  refine AW.iconst 561 dL_law_560 rfl (nI 2) rfl ?_
  first | refine AW.iaddN 562 dL_law_561 rfl ?_ | refine AW.iadd 562 dL_law_561 rfl ?_
  refine AW.iaload 563 _ dL_law_562 rfl (by assumption) (by first | exact Or.inl rfl | exact Or.inr rfl) (ix_nI (by omega)) (by omega) ?_
  refine AW.cV2 566 dL_law_563 rfl mi_X8_covers mv_X8_covers lk_L_68 ⟨(Nat.le_of_ble_eq_true rfl), (Nat.le_of_ble_eq_true rfl)⟩ rfl (by assumption) rfl (Nat.le_of_ble_eq_true rfl) (r_covers R1 (fun h2 R2 F2 => ?_))
  refine AW.icmp_eq 902 569 dL_law_566 (by decide) rfl (fun c => ?_) (fun c => ?_)
  · exact next h2 _ (J.step K1 F1 R2 F2 (congrArg Prod.snd (E_covers g _ _)) (g.covers _ _))
  · exact absurd (congrArg Prod.fst (E_covers g _ _)) c
theorem lw_mark (hL : L ≤ 2048) (hi : i + 4 ≤ L) (J : LawAt L xs h X) (next : ∀ h X, LawAt L xs h X → AW L_law 902 [some (.ref 2), some (.ref 3), some (.ref 196), some (.int (nI i))] [] 212 u h P) : AW L_law 571 [some (.ref 2), some (.ref 3), some (.ref 196), some (.int (nI i))] [] 212 u h P := by
  obtain ⟨K, R, g, x2⟩ := id J
  have x3 := J.x3
  refine AW.aload_n 572 dL_law_571 rfl (by rfl) ?_
  refine AW.aload_n 573 dL_law_572 rfl (by rfl) ?_
  refine AW.iload_n 574 dL_law_573 rfl (by rfl) ?_
  refine AW.iconst 575 dL_law_574 rfl (nI 1) rfl ?_
  first | refine AW.iaddN 576 dL_law_575 rfl ?_ | refine AW.iadd 576 dL_law_575 rfl ?_
  refine AW.iaload 577 _ dL_law_576 rfl (by assumption) (by first | exact Or.inl rfl | exact Or.inr rfl) (ix_nI (by omega)) (by omega) ?_
  refine AW.aload_n 578 dL_law_577 rfl (by rfl) ?_
  refine AW.iload_n 579 dL_law_578 rfl (by rfl) ?_
  refine AW.iconst 580 dL_law_579 rfl (nI 2) rfl ?_
  first | refine AW.iaddN 581 dL_law_580 rfl ?_ | refine AW.iadd 581 dL_law_580 rfl ?_
  refine AW.iaload 582 _ dL_law_581 rfl (by assumption) (by first | exact Or.inl rfl | exact Or.inr rfl) (ix_nI (by omega)) (by omega) ?_
  refine AW.cV2 585 dL_law_582 rfl mi_X7_mark mv_X7_mark lk_L_69 ⟨(Nat.le_of_ble_eq_true rfl), (Nat.le_of_ble_eq_true rfl)⟩ rfl (by assumption) rfl (Nat.le_of_ble_eq_true rfl) (c_mark K (V_ok g.1) (fun h1 K1 F1 => ?_))
  have R1 := R.far F1
  have y2 := (F1 2 (by decide)).trans x2
  obtain ⟨_, _, _, _, _, _, y196, -⟩ := id R1.1
  refine AW.aload_n 586 dL_law_585 rfl (by rfl) ?_
  refine AW.aload_n 587 dL_law_586 rfl (by rfl) ?_
  refine AW.iload_n 588 dL_law_587 rfl (by rfl) ?_
  refine AW.iconst 589 dL_law_588 rfl (nI 1) rfl ?_
  first | refine AW.iaddN 590 dL_law_589 rfl ?_ | refine AW.iadd 590 dL_law_589 rfl ?_
  refine AW.iaload 591 _ dL_law_590 rfl (by assumption) (by first | exact Or.inl rfl | exact Or.inr rfl) (ix_nI (by omega)) (by omega) ?_
  refine AW.aload_n 592 dL_law_591 rfl (by rfl) ?_
  refine AW.iload_n 593 dL_law_592 rfl (by rfl) ?_
  refine AW.iconst 594 dL_law_593 rfl (nI 2) rfl ?_
  first | refine AW.iaddN 595 dL_law_594 rfl ?_ | refine AW.iadd 595 dL_law_594 rfl ?_
  refine AW.iaload 596 _ dL_law_595 rfl (by assumption) (by first | exact Or.inl rfl | exact Or.inr rfl) (ix_nI (by omega)) (by omega) ?_
  refine AW.cV2 599 dL_law_596 rfl mi_X8_mark mv_X8_mark lk_L_72 ⟨(Nat.le_of_ble_eq_true rfl), (Nat.le_of_ble_eq_true rfl)⟩ rfl (by assumption) rfl (Nat.le_of_ble_eq_true rfl) (r_mark R1 (fun h2 R2 F2 => ?_))
  refine AW.icmp_eq 902 602 dL_law_599 (by decide) rfl (fun c => ?_) (fun c => ?_)
  · exact next h2 _ (J.step K1 F1 R2 F2 (congrArg Prod.snd (E_mark g _ _)) (g.mark _ _))
  · exact absurd (congrArg Prod.fst (E_mark g _ _)) c
theorem lw_chains (hL : L ≤ 2048) (hi : i + 4 ≤ L) (J : LawAt L xs h X) (next : ∀ h X, LawAt L xs h X → AW L_law 902 [some (.ref 2), some (.ref 3), some (.ref 196), some (.int (nI i))] [] 212 u h P) : AW L_law 604 [some (.ref 2), some (.ref 3), some (.ref 196), some (.int (nI i))] [] 212 u h P := by
  obtain ⟨K, R, g, x2⟩ := id J
  have x3 := J.x3
  refine AW.aload_n 605 dL_law_604 rfl (by rfl) ?_
  refine AW.aload_n 606 dL_law_605 rfl (by rfl) ?_
  refine AW.iload_n 607 dL_law_606 rfl (by rfl) ?_
  refine AW.iconst 608 dL_law_607 rfl (nI 1) rfl ?_
  first | refine AW.iaddN 609 dL_law_608 rfl ?_ | refine AW.iadd 609 dL_law_608 rfl ?_
  refine AW.iaload 610 _ dL_law_609 rfl (by assumption) (by first | exact Or.inl rfl | exact Or.inr rfl) (ix_nI (by omega)) (by omega) ?_
  refine AW.aload_n 611 dL_law_610 rfl (by rfl) ?_
  refine AW.iload_n 612 dL_law_611 rfl (by rfl) ?_
  refine AW.iconst 613 dL_law_612 rfl (nI 2) rfl ?_
  first | refine AW.iaddN 614 dL_law_613 rfl ?_ | refine AW.iadd 614 dL_law_613 rfl ?_
  refine AW.iaload 615 _ dL_law_614 rfl (by assumption) (by first | exact Or.inl rfl | exact Or.inr rfl) (ix_nI (by omega)) (by omega) ?_
  refine AW.cV2 618 dL_law_615 rfl mi_X7_chains mv_X7_chains lk_L_73 ⟨(Nat.le_of_ble_eq_true rfl), (Nat.le_of_ble_eq_true rfl)⟩ rfl (by assumption) rfl (Nat.le_of_ble_eq_true rfl) (c_chains K (V_ok g.1) (fun h1 K1 F1 => ?_))
  have R1 := R.far F1
  have y2 := (F1 2 (by decide)).trans x2
  obtain ⟨_, _, _, _, _, _, y196, -⟩ := id R1.1
  refine AW.aload_n 619 dL_law_618 rfl (by rfl) ?_
  refine AW.aload_n 620 dL_law_619 rfl (by rfl) ?_
  refine AW.iload_n 621 dL_law_620 rfl (by rfl) ?_
  refine AW.iconst 622 dL_law_621 rfl (nI 1) rfl ?_
  first | refine AW.iaddN 623 dL_law_622 rfl ?_ | refine AW.iadd 623 dL_law_622 rfl ?_
  refine AW.iaload 624 _ dL_law_623 rfl (by assumption) (by first | exact Or.inl rfl | exact Or.inr rfl) (ix_nI (by omega)) (by omega) ?_
  refine AW.aload_n 625 dL_law_624 rfl (by rfl) ?_
  refine AW.iload_n 626 dL_law_625 rfl (by rfl) ?_
  refine AW.iconst 627 dL_law_626 rfl (nI 2) rfl ?_
  first | refine AW.iaddN 628 dL_law_627 rfl ?_ | refine AW.iadd 628 dL_law_627 rfl ?_
  refine AW.iaload 629 _ dL_law_628 rfl (by assumption) (by first | exact Or.inl rfl | exact Or.inr rfl) (ix_nI (by omega)) (by omega) ?_
  refine AW.cV2 632 dL_law_629 rfl mi_X8_chains mv_X8_chains lk_L_76 ⟨(Nat.le_of_ble_eq_true rfl), (Nat.le_of_ble_eq_true rfl)⟩ rfl (by assumption) rfl (Nat.le_of_ble_eq_true rfl) (r_chains R1 (fun h2 R2 F2 => ?_))
  refine AW.icmp_eq 902 635 dL_law_632 (by decide) rfl (fun c => ?_) (fun c => ?_)
  · exact next h2 _ (J.step K1 F1 R2 F2 (congrArg Prod.snd (E_chains g _ _)) (g.int _ _ _))
  · exact absurd (congrArg Prod.fst (E_chains g _ _)) c
theorem lw_marked (hL : L ≤ 2048) (hi : i + 4 ≤ L) (J : LawAt L xs h X) (next : ∀ h X, LawAt L xs h X → AW L_law 902 [some (.ref 2), some (.ref 3), some (.ref 196), some (.int (nI i))] [] 212 u h P) : AW L_law 637 [some (.ref 2), some (.ref 3), some (.ref 196), some (.int (nI i))] [] 212 u h P := by
  obtain ⟨K, R, g, x2⟩ := id J
  have x3 := J.x3
  refine AW.aload_n 638 dL_law_637 rfl (by rfl) ?_
  refine AW.aload_n 639 dL_law_638 rfl (by rfl) ?_
  refine AW.iload_n 640 dL_law_639 rfl (by rfl) ?_
  refine AW.iconst 641 dL_law_640 rfl (nI 1) rfl ?_
  first | refine AW.iaddN 642 dL_law_641 rfl ?_ | refine AW.iadd 642 dL_law_641 rfl ?_
  refine AW.iaload 643 _ dL_law_642 rfl (by assumption) (by first | exact Or.inl rfl | exact Or.inr rfl) (ix_nI (by omega)) (by omega) ?_
  refine AW.cV1 646 dL_law_643 rfl mi_X7_marked mv_X7_marked lk_L_77 ⟨(Nat.le_of_ble_eq_true rfl), (Nat.le_of_ble_eq_true rfl)⟩ rfl (by assumption) rfl (Nat.le_of_ble_eq_true rfl) (c_marked K (fun h1 K1 F1 => ?_))
  have R1 := R.far F1
  have y2 := (F1 2 (by decide)).trans x2
  obtain ⟨_, _, _, _, _, _, y196, -⟩ := id R1.1
  refine AW.aload_n 647 dL_law_646 rfl (by rfl) ?_
  refine AW.aload_n 648 dL_law_647 rfl (by rfl) ?_
  refine AW.iload_n 649 dL_law_648 rfl (by rfl) ?_
  refine AW.iconst 650 dL_law_649 rfl (nI 1) rfl ?_
  first | refine AW.iaddN 651 dL_law_650 rfl ?_ | refine AW.iadd 651 dL_law_650 rfl ?_
  refine AW.iaload 652 _ dL_law_651 rfl (by assumption) (by first | exact Or.inl rfl | exact Or.inr rfl) (ix_nI (by omega)) (by omega) ?_
  refine AW.cV1 655 dL_law_652 rfl mi_X8_marked mv_X8_marked lk_L_80 ⟨(Nat.le_of_ble_eq_true rfl), (Nat.le_of_ble_eq_true rfl)⟩ rfl (by assumption) rfl (Nat.le_of_ble_eq_true rfl) (r_marked R1 (fun h2 R2 F2 => ?_))
  refine AW.icmp_eq 902 658 dL_law_655 (by decide) rfl (fun c => ?_) (fun c => ?_)
  · exact next h2 _ (J.step K1 F1 R2 F2 (congrArg Prod.snd (E_marked g _)) (g.marked _))
  · exact absurd (congrArg Prod.fst (E_marked g _)) c
theorem lw_signed (hL : L ≤ 2048) (hi : i + 4 ≤ L) (J : LawAt L xs h X) (next : ∀ h X, LawAt L xs h X → AW L_law 902 [some (.ref 2), some (.ref 3), some (.ref 196), some (.int (nI i))] [] 212 u h P) : AW L_law 660 [some (.ref 2), some (.ref 3), some (.ref 196), some (.int (nI i))] [] 212 u h P := by
  obtain ⟨K, R, g, x2⟩ := id J
  have x3 := J.x3
  refine AW.aload_n 661 dL_law_660 rfl (by rfl) ?_
  refine AW.aload_n 662 dL_law_661 rfl (by rfl) ?_
  refine AW.iload_n 663 dL_law_662 rfl (by rfl) ?_
  refine AW.iconst 664 dL_law_663 rfl (nI 1) rfl ?_
  first | refine AW.iaddN 665 dL_law_664 rfl ?_ | refine AW.iadd 665 dL_law_664 rfl ?_
  refine AW.iaload 666 _ dL_law_665 rfl (by assumption) (by first | exact Or.inl rfl | exact Or.inr rfl) (ix_nI (by omega)) (by omega) ?_
  refine AW.aload_n 667 dL_law_666 rfl (by rfl) ?_
  refine AW.iload_n 668 dL_law_667 rfl (by rfl) ?_
  refine AW.iconst 669 dL_law_668 rfl (nI 2) rfl ?_
  first | refine AW.iaddN 670 dL_law_669 rfl ?_ | refine AW.iadd 670 dL_law_669 rfl ?_
  refine AW.iaload 671 _ dL_law_670 rfl (by assumption) (by first | exact Or.inl rfl | exact Or.inr rfl) (ix_nI (by omega)) (by omega) ?_
  refine AW.cV2 674 dL_law_671 rfl mi_X7_signed mv_X7_signed lk_L_81 ⟨(Nat.le_of_ble_eq_true rfl), (Nat.le_of_ble_eq_true rfl)⟩ rfl (by assumption) rfl (Nat.le_of_ble_eq_true rfl) (c_signed K (V_ok g.1) (fun h1 K1 F1 => ?_))
  have R1 := R.far F1
  have y2 := (F1 2 (by decide)).trans x2
  obtain ⟨_, _, _, _, _, _, y196, -⟩ := id R1.1
  refine AW.aload_n 675 dL_law_674 rfl (by rfl) ?_
  refine AW.aload_n 676 dL_law_675 rfl (by rfl) ?_
  refine AW.iload_n 677 dL_law_676 rfl (by rfl) ?_
  refine AW.iconst 678 dL_law_677 rfl (nI 1) rfl ?_
  first | refine AW.iaddN 679 dL_law_678 rfl ?_ | refine AW.iadd 679 dL_law_678 rfl ?_
  refine AW.iaload 680 _ dL_law_679 rfl (by assumption) (by first | exact Or.inl rfl | exact Or.inr rfl) (ix_nI (by omega)) (by omega) ?_
  refine AW.aload_n 681 dL_law_680 rfl (by rfl) ?_
  refine AW.iload_n 682 dL_law_681 rfl (by rfl) ?_
  refine AW.iconst 683 dL_law_682 rfl (nI 2) rfl ?_
  first | refine AW.iaddN 684 dL_law_683 rfl ?_ | refine AW.iadd 684 dL_law_683 rfl ?_
  refine AW.iaload 685 _ dL_law_684 rfl (by assumption) (by first | exact Or.inl rfl | exact Or.inr rfl) (ix_nI (by omega)) (by omega) ?_
  refine AW.cV2 688 dL_law_685 rfl mi_X8_signed mv_X8_signed lk_L_84 ⟨(Nat.le_of_ble_eq_true rfl), (Nat.le_of_ble_eq_true rfl)⟩ rfl (by assumption) rfl (Nat.le_of_ble_eq_true rfl) (r_signed R1 (fun h2 R2 F2 => ?_))
  refine AW.icmp_eq 902 691 dL_law_688 (by decide) rfl (fun c => ?_) (fun c => ?_)
  · exact next h2 _ (J.step K1 F1 R2 F2 (congrArg Prod.snd (E_signed g _ _)) (g.int _ _ _))
  · exact absurd (congrArg Prod.fst (E_signed g _ _)) c
theorem lw_between (hL : L ≤ 2048) (hi : i + 4 ≤ L) (J : LawAt L xs h X) (next : ∀ h X, LawAt L xs h X → AW L_law 902 [some (.ref 2), some (.ref 3), some (.ref 196), some (.int (nI i))] [] 212 u h P) : AW L_law 693 [some (.ref 2), some (.ref 3), some (.ref 196), some (.int (nI i))] [] 212 u h P := by
  obtain ⟨K, R, g, x2⟩ := id J
  have x3 := J.x3
  refine AW.aload_n 694 dL_law_693 rfl (by rfl) ?_
  refine AW.aload_n 695 dL_law_694 rfl (by rfl) ?_
  refine AW.iload_n 696 dL_law_695 rfl (by rfl) ?_
  refine AW.iconst 697 dL_law_696 rfl (nI 1) rfl ?_
  first | refine AW.iaddN 698 dL_law_697 rfl ?_ | refine AW.iadd 698 dL_law_697 rfl ?_
  refine AW.iaload 699 _ dL_law_698 rfl (by assumption) (by first | exact Or.inl rfl | exact Or.inr rfl) (ix_nI (by omega)) (by omega) ?_
  refine AW.aload_n 700 dL_law_699 rfl (by rfl) ?_
  refine AW.iload_n 701 dL_law_700 rfl (by rfl) ?_
  refine AW.iconst 702 dL_law_701 rfl (nI 2) rfl ?_
  first | refine AW.iaddN 703 dL_law_702 rfl ?_ | refine AW.iadd 703 dL_law_702 rfl ?_
  refine AW.iaload 704 _ dL_law_703 rfl (by assumption) (by first | exact Or.inl rfl | exact Or.inr rfl) (ix_nI (by omega)) (by omega) ?_
  refine AW.cV2 707 dL_law_704 rfl mi_X7_between mv_X7_between lk_L_85 ⟨(Nat.le_of_ble_eq_true rfl), (Nat.le_of_ble_eq_true rfl)⟩ rfl (by assumption) rfl (Nat.le_of_ble_eq_true rfl) (c_between K (V_ok g.1) (fun h1 K1 F1 => ?_))
  have R1 := R.far F1
  have y2 := (F1 2 (by decide)).trans x2
  obtain ⟨_, _, _, _, _, _, y196, -⟩ := id R1.1
  refine AW.aload_n 708 dL_law_707 rfl (by rfl) ?_
  refine AW.aload_n 709 dL_law_708 rfl (by rfl) ?_
  refine AW.iload_n 710 dL_law_709 rfl (by rfl) ?_
  refine AW.iconst 711 dL_law_710 rfl (nI 1) rfl ?_
  first | refine AW.iaddN 712 dL_law_711 rfl ?_ | refine AW.iadd 712 dL_law_711 rfl ?_
  refine AW.iaload 713 _ dL_law_712 rfl (by assumption) (by first | exact Or.inl rfl | exact Or.inr rfl) (ix_nI (by omega)) (by omega) ?_
  refine AW.aload_n 714 dL_law_713 rfl (by rfl) ?_
  refine AW.iload_n 715 dL_law_714 rfl (by rfl) ?_
  refine AW.iconst 716 dL_law_715 rfl (nI 2) rfl ?_
  first | refine AW.iaddN 717 dL_law_716 rfl ?_ | refine AW.iadd 717 dL_law_716 rfl ?_
  refine AW.iaload 718 _ dL_law_717 rfl (by assumption) (by first | exact Or.inl rfl | exact Or.inr rfl) (ix_nI (by omega)) (by omega) ?_
  refine AW.cV2 721 dL_law_718 rfl mi_X8_between mv_X8_between lk_L_88 ⟨(Nat.le_of_ble_eq_true rfl), (Nat.le_of_ble_eq_true rfl)⟩ rfl (by assumption) rfl (Nat.le_of_ble_eq_true rfl) (r_between R1 (fun h2 R2 F2 => ?_))
  refine AW.icmp_eq 902 724 dL_law_721 (by decide) rfl (fun c => ?_) (fun c => ?_)
  · exact next h2 _ (J.step K1 F1 R2 F2 (congrArg Prod.snd (E_between g _ _)) (g.int _ _ _))
  · exact absurd (congrArg Prod.fst (E_between g _ _)) c
theorem lw_number (hL : L ≤ 2048) (hi : i + 4 ≤ L) (J : LawAt L xs h X) (next : ∀ h X, LawAt L xs h X → AW L_law 902 [some (.ref 2), some (.ref 3), some (.ref 196), some (.int (nI i))] [] 212 u h P) : AW L_law 726 [some (.ref 2), some (.ref 3), some (.ref 196), some (.int (nI i))] [] 212 u h P := by
  obtain ⟨K, R, g, x2⟩ := id J
  have x3 := J.x3
  refine AW.aload_n 727 dL_law_726 rfl (by rfl) ?_
  refine AW.aload_n 728 dL_law_727 rfl (by rfl) ?_
  refine AW.iload_n 729 dL_law_728 rfl (by rfl) ?_
  refine AW.iconst 730 dL_law_729 rfl (nI 1) rfl ?_
  first | refine AW.iaddN 731 dL_law_730 rfl ?_ | refine AW.iadd 731 dL_law_730 rfl ?_
  refine AW.iaload 732 _ dL_law_731 rfl (by assumption) (by first | exact Or.inl rfl | exact Or.inr rfl) (ix_nI (by omega)) (by omega) ?_
  refine AW.aload_n 733 dL_law_732 rfl (by rfl) ?_
  refine AW.iload_n 734 dL_law_733 rfl (by rfl) ?_
  refine AW.iconst 735 dL_law_734 rfl (nI 2) rfl ?_
  first | refine AW.iaddN 736 dL_law_735 rfl ?_ | refine AW.iadd 736 dL_law_735 rfl ?_
  refine AW.iaload 737 _ dL_law_736 rfl (by assumption) (by first | exact Or.inl rfl | exact Or.inr rfl) (ix_nI (by omega)) (by omega) ?_
  refine AW.cV2 740 dL_law_737 rfl mi_X7_number mv_X7_number lk_L_89 ⟨(Nat.le_of_ble_eq_true rfl), (Nat.le_of_ble_eq_true rfl)⟩ rfl (by assumption) rfl (Nat.le_of_ble_eq_true rfl) (c_number K (fun h1 K1 F1 => ?_))
  have R1 := R.far F1
  have y2 := (F1 2 (by decide)).trans x2
  obtain ⟨_, _, _, _, _, _, y196, -⟩ := id R1.1
  refine AW.aload_n 741 dL_law_740 rfl (by rfl) ?_
  refine AW.aload_n 742 dL_law_741 rfl (by rfl) ?_
  refine AW.iload_n 743 dL_law_742 rfl (by rfl) ?_
  refine AW.iconst 744 dL_law_743 rfl (nI 1) rfl ?_
  first | refine AW.iaddN 745 dL_law_744 rfl ?_ | refine AW.iadd 745 dL_law_744 rfl ?_
  refine AW.iaload 746 _ dL_law_745 rfl (by assumption) (by first | exact Or.inl rfl | exact Or.inr rfl) (ix_nI (by omega)) (by omega) ?_
  refine AW.aload_n 747 dL_law_746 rfl (by rfl) ?_
  refine AW.iload_n 748 dL_law_747 rfl (by rfl) ?_
  refine AW.iconst 749 dL_law_748 rfl (nI 2) rfl ?_
  first | refine AW.iaddN 750 dL_law_749 rfl ?_ | refine AW.iadd 750 dL_law_749 rfl ?_
  refine AW.iaload 751 _ dL_law_750 rfl (by assumption) (by first | exact Or.inl rfl | exact Or.inr rfl) (ix_nI (by omega)) (by omega) ?_
  refine AW.cV2 754 dL_law_751 rfl mi_X8_number mv_X8_number lk_L_92 ⟨(Nat.le_of_ble_eq_true rfl), (Nat.le_of_ble_eq_true rfl)⟩ rfl (by assumption) rfl (Nat.le_of_ble_eq_true rfl) (r_number R1 (A_num g.1 _ _) (fun h2 R2 F2 => ?_))
  refine AW.icmp_eq 902 757 dL_law_754 (by decide) rfl (fun c => ?_) (fun c => ?_)
  · exact next h2 _ (J.step K1 F1 R2 F2 rfl (g.stlG (G_num g.1 _ _)))
  · exact absurd rfl c
theorem lw_as (hL : L ≤ 2048) (hi : i + 4 ≤ L) (J : LawAt L xs h X) (next : ∀ h X, LawAt L xs h X → AW L_law 902 [some (.ref 2), some (.ref 3), some (.ref 196), some (.int (nI i))] [] 212 u h P) : AW L_law 759 [some (.ref 2), some (.ref 3), some (.ref 196), some (.int (nI i))] [] 212 u h P := by
  obtain ⟨K, R, g, x2⟩ := id J
  have x3 := J.x3
  refine AW.aload_n 760 dL_law_759 rfl (by rfl) ?_
  refine AW.aload_n 761 dL_law_760 rfl (by rfl) ?_
  refine AW.iload_n 762 dL_law_761 rfl (by rfl) ?_
  refine AW.iconst 763 dL_law_762 rfl (nI 1) rfl ?_
  first | refine AW.iaddN 764 dL_law_763 rfl ?_ | refine AW.iadd 764 dL_law_763 rfl ?_
  refine AW.iaload 765 _ dL_law_764 rfl (by assumption) (by first | exact Or.inl rfl | exact Or.inr rfl) (ix_nI (by omega)) (by omega) ?_
  refine AW.aload_n 766 dL_law_765 rfl (by rfl) ?_
  refine AW.iload_n 767 dL_law_766 rfl (by rfl) ?_
  refine AW.iconst 768 dL_law_767 rfl (nI 2) rfl ?_
  first | refine AW.iaddN 769 dL_law_768 rfl ?_ | refine AW.iadd 769 dL_law_768 rfl ?_
  refine AW.iaload 770 _ dL_law_769 rfl (by assumption) (by first | exact Or.inl rfl | exact Or.inr rfl) (ix_nI (by omega)) (by omega) ?_
  refine AW.aload_n 771 dL_law_770 rfl (by rfl) ?_
  refine AW.iload_n 772 dL_law_771 rfl (by rfl) ?_
  refine AW.iconst 773 dL_law_772 rfl (nI 3) rfl ?_
  first | refine AW.iaddN 774 dL_law_773 rfl ?_ | refine AW.iadd 774 dL_law_773 rfl ?_
  refine AW.iaload 775 _ dL_law_774 rfl (by assumption) (by first | exact Or.inl rfl | exact Or.inr rfl) (ix_nI (by omega)) (by omega) ?_
  refine AW.cV3 778 dL_law_775 rfl mi_X7_as mv_X7_as lk_L_93 ⟨(Nat.le_of_ble_eq_true rfl), (Nat.le_of_ble_eq_true rfl)⟩ rfl (by assumption) rfl (Nat.le_of_ble_eq_true rfl) (c_as K (fun h1 K1 F1 => ?_))
  have R1 := R.far F1
  have y2 := (F1 2 (by decide)).trans x2
  obtain ⟨_, _, _, _, _, _, y196, -⟩ := id R1.1
  refine AW.aload_n 779 dL_law_778 rfl (by rfl) ?_
  refine AW.aload_n 780 dL_law_779 rfl (by rfl) ?_
  refine AW.iload_n 781 dL_law_780 rfl (by rfl) ?_
  refine AW.iconst 782 dL_law_781 rfl (nI 1) rfl ?_
  first | refine AW.iaddN 783 dL_law_782 rfl ?_ | refine AW.iadd 783 dL_law_782 rfl ?_
  refine AW.iaload 784 _ dL_law_783 rfl (by assumption) (by first | exact Or.inl rfl | exact Or.inr rfl) (ix_nI (by omega)) (by omega) ?_
  refine AW.aload_n 785 dL_law_784 rfl (by rfl) ?_
  refine AW.iload_n 786 dL_law_785 rfl (by rfl) ?_
  refine AW.iconst 787 dL_law_786 rfl (nI 2) rfl ?_
  first | refine AW.iaddN 788 dL_law_787 rfl ?_ | refine AW.iadd 788 dL_law_787 rfl ?_
  refine AW.iaload 789 _ dL_law_788 rfl (by assumption) (by first | exact Or.inl rfl | exact Or.inr rfl) (ix_nI (by omega)) (by omega) ?_
  refine AW.aload_n 790 dL_law_789 rfl (by rfl) ?_
  refine AW.iload_n 791 dL_law_790 rfl (by rfl) ?_
  refine AW.iconst 792 dL_law_791 rfl (nI 3) rfl ?_
  first | refine AW.iaddN 793 dL_law_792 rfl ?_ | refine AW.iadd 793 dL_law_792 rfl ?_
  refine AW.iaload 794 _ dL_law_793 rfl (by assumption) (by first | exact Or.inl rfl | exact Or.inr rfl) (ix_nI (by omega)) (by omega) ?_
  refine AW.cV3 797 dL_law_794 rfl mi_X8_as mv_X8_as lk_L_97 ⟨(Nat.le_of_ble_eq_true rfl), (Nat.le_of_ble_eq_true rfl)⟩ rfl (by assumption) rfl (Nat.le_of_ble_eq_true rfl) (r_as R1 (fun h2 R2 F2 => ?_))
  refine AW.lcmp 798 dL_law_797 rfl ?_
  refine AW.if_eq 902 801 dL_law_798 (by decide) rfl (fun c => ?_) (fun c => ?_)
  · exact next h2 _ (J.step K1 F1 R2 F2 rfl (g.as _ _ _))
  · exact absurd (by simp [lg_cmp]) c
theorem lw_type (hL : L ≤ 2048) (hi : i + 4 ≤ L) (J : LawAt L xs h X) (next : ∀ h X, LawAt L xs h X → AW L_law 902 [some (.ref 2), some (.ref 3), some (.ref 196), some (.int (nI i))] [] 212 u h P) : AW L_law 803 [some (.ref 2), some (.ref 3), some (.ref 196), some (.int (nI i))] [] 212 u h P := by
  obtain ⟨K, R, g, x2⟩ := id J
  have x3 := J.x3
  refine AW.aload_n 804 dL_law_803 rfl (by rfl) ?_
  refine AW.aload_n 805 dL_law_804 rfl (by rfl) ?_
  refine AW.iload_n 806 dL_law_805 rfl (by rfl) ?_
  refine AW.iconst 807 dL_law_806 rfl (nI 1) rfl ?_
  first | refine AW.iaddN 808 dL_law_807 rfl ?_ | refine AW.iadd 808 dL_law_807 rfl ?_
  refine AW.iaload 809 _ dL_law_808 rfl (by assumption) (by first | exact Or.inl rfl | exact Or.inr rfl) (ix_nI (by omega)) (by omega) ?_
  refine AW.cV1 812 dL_law_809 rfl mi_X7_type mv_X7_type lk_L_98 ⟨(Nat.le_of_ble_eq_true rfl), (Nat.le_of_ble_eq_true rfl)⟩ rfl (by assumption) rfl (Nat.le_of_ble_eq_true rfl) (c_type K (fun h1 K1 F1 => ?_))
  have R1 := R.far F1
  have y2 := (F1 2 (by decide)).trans x2
  obtain ⟨_, _, _, _, _, _, y196, -⟩ := id R1.1
  refine AW.aload_n 813 dL_law_812 rfl (by rfl) ?_
  refine AW.aload_n 814 dL_law_813 rfl (by rfl) ?_
  refine AW.iload_n 815 dL_law_814 rfl (by rfl) ?_
  refine AW.iconst 816 dL_law_815 rfl (nI 1) rfl ?_
  first | refine AW.iaddN 817 dL_law_816 rfl ?_ | refine AW.iadd 817 dL_law_816 rfl ?_
  refine AW.iaload 818 _ dL_law_817 rfl (by assumption) (by first | exact Or.inl rfl | exact Or.inr rfl) (ix_nI (by omega)) (by omega) ?_
  refine AW.cV1 821 dL_law_818 rfl mi_X8_type mv_X8_type lk_L_101 ⟨(Nat.le_of_ble_eq_true rfl), (Nat.le_of_ble_eq_true rfl)⟩ rfl (by assumption) rfl (Nat.le_of_ble_eq_true rfl) (r_type R1 (fun h2 R2 F2 => ?_))
  refine AW.icmp_eq 902 824 dL_law_821 (by decide) rfl (fun c => ?_) (fun c => ?_)
  · exact next h2 _ (J.step K1 F1 R2 F2 rfl (g.type _))
  · exact absurd rfl c
theorem lw_clear (hL : L ≤ 2048) (hi : i + 4 ≤ L) (J : LawAt L xs h X) (next : ∀ h X, LawAt L xs h X → AW L_law 902 [some (.ref 2), some (.ref 3), some (.ref 196), some (.int (nI i))] [] 212 u h P) : AW L_law 826 [some (.ref 2), some (.ref 3), some (.ref 196), some (.int (nI i))] [] 212 u h P := by
  obtain ⟨K, R, g, x2⟩ := id J
  have x3 := J.x3
  refine AW.aload_n 827 dL_law_826 rfl (by rfl) ?_
  refine AW.cV0 830 dL_law_827 rfl mi_X7_clear mv_X7_clear lk_L_102 ⟨(Nat.le_of_ble_eq_true rfl), (Nat.le_of_ble_eq_true rfl)⟩ rfl (by assumption) rfl (Nat.le_of_ble_eq_true rfl) (c_clear K (fun h1 K1 F1 => ?_))
  have R1 := R.far F1
  have y2 := (F1 2 (by decide)).trans x2
  obtain ⟨_, _, _, _, _, _, y196, -⟩ := id R1.1
  refine AW.aload_n 831 dL_law_830 rfl (by rfl) ?_
  refine AW.cV0 834 dL_law_831 rfl mi_X8_clear mv_X8_clear lk_L_105 ⟨(Nat.le_of_ble_eq_true rfl), (Nat.le_of_ble_eq_true rfl)⟩ rfl (by assumption) rfl (Nat.le_of_ble_eq_true rfl) (r_clear R1 (fun h2 R2 F2 => ?_))
  refine AW.icmp_eq 902 837 dL_law_834 (by decide) rfl (fun c => ?_) (fun c => ?_)
  · exact next h2 _ (J.step K1 F1 R2 F2 rfl (g))
  · exact absurd rfl c
theorem lw_does (hL : L ≤ 2048) (hi : i + 4 ≤ L) (J : LawAt L xs h X) (next : ∀ h X, LawAt L xs h X → AW L_law 902 [some (.ref 2), some (.ref 3), some (.ref 196), some (.int (nI i))] [] 212 u h P) : AW L_law 839 [some (.ref 2), some (.ref 3), some (.ref 196), some (.int (nI i))] [] 212 u h P := by
  obtain ⟨K, R, g, x2⟩ := id J
  have x3 := J.x3
  refine AW.aload_n 840 dL_law_839 rfl (by rfl) ?_
  refine AW.cV0 843 dL_law_840 rfl mi_X7_does mv_X7_does lk_L_106 ⟨(Nat.le_of_ble_eq_true rfl), (Nat.le_of_ble_eq_true rfl)⟩ rfl (by assumption) rfl (Nat.le_of_ble_eq_true rfl) (c_does K (Ok := GdS) (fun σ s => V_ok s) (fun σ L f s => by rw [(E_car s L f).1]; exact (E_car s L f).2) g.1 (fun lt vl h1 K1 F1 => ?_))
  have R1 := R.far F1
  have y2 := (F1 2 (by decide)).trans x2
  obtain ⟨_, _, _, _, _, _, y196, -⟩ := id R1.1
  refine AW.aload_n 844 dL_law_843 rfl (by rfl) ?_
  refine AW.cV0 847 dL_law_844 rfl mi_X8_does mv_X8_does lk_L_109 ⟨(Nat.le_of_ble_eq_true rfl), (Nat.le_of_ble_eq_true rfl)⟩ rfl (by assumption) rfl (Nat.le_of_ble_eq_true rfl) (r_does (lt0 := lt) (vl0 := vl) R1 (fun h2 R2 F2 => ?_))
  refine AW.icmp_eq 902 850 dL_law_847 (by decide) rfl (fun c => ?_) (fun c => ?_)
  · exact next h2 _ (J.step K1 F1 R2 F2 (congrArg Prod.snd (E_do g _)) (G_do g _))
  · exact absurd (congrArg Prod.fst (E_do g _)) c
theorem lw_back (hL : L ≤ 2048) (hi : i + 4 ≤ L) (J : LawAt L xs h X) (next : ∀ h X, LawAt L xs h X → AW L_law 902 [some (.ref 2), some (.ref 3), some (.ref 196), some (.int (nI i))] [] 212 u h P) : AW L_law 852 [some (.ref 2), some (.ref 3), some (.ref 196), some (.int (nI i))] [] 212 u h P := by
  obtain ⟨K, R, g, x2⟩ := id J
  have x3 := J.x3
  refine AW.aload_n 853 dL_law_852 rfl (by rfl) ?_
  refine AW.cV0 856 dL_law_853 rfl mi_X7_back mv_X7_back lk_L_110 ⟨(Nat.le_of_ble_eq_true rfl), (Nat.le_of_ble_eq_true rfl)⟩ rfl (by assumption) rfl (Nat.le_of_ble_eq_true rfl) (c_back K (fun h1 K1 F1 => ?_))
  have R1 := R.far F1
  have y2 := (F1 2 (by decide)).trans x2
  obtain ⟨_, _, _, _, _, _, y196, -⟩ := id R1.1
  refine AW.aload_n 857 dL_law_856 rfl (by rfl) ?_
  refine AW.cV0 860 dL_law_857 rfl mi_X8_back mv_X8_back lk_L_113 ⟨(Nat.le_of_ble_eq_true rfl), (Nat.le_of_ble_eq_true rfl)⟩ rfl (by assumption) rfl (Nat.le_of_ble_eq_true rfl) (r_back R1 (fun h2 R2 F2 => ?_))
  refine AW.icmp_eq 902 863 dL_law_860 (by decide) rfl (fun c => ?_) (fun c => ?_)
  · exact next h2 _ (J.step K1 F1 R2 F2 rfl (g.back))
  · exact absurd rfl c
theorem lw_told (hL : L ≤ 2048) (hi : i + 4 ≤ L) (J : LawAt L xs h X) (next : ∀ h X, LawAt L xs h X → AW L_law 902 [some (.ref 2), some (.ref 3), some (.ref 196), some (.int (nI i))] [] 212 u h P) : AW L_law 865 [some (.ref 2), some (.ref 3), some (.ref 196), some (.int (nI i))] [] 212 u h P := by
  obtain ⟨K, R, g, x2⟩ := id J
  have x3 := J.x3
  refine AW.aload_n 866 dL_law_865 rfl (by rfl) ?_
  refine AW.aload_n 867 dL_law_866 rfl (by rfl) ?_
  refine AW.iload_n 868 dL_law_867 rfl (by rfl) ?_
  refine AW.iconst 869 dL_law_868 rfl (nI 1) rfl ?_
  first | refine AW.iaddN 870 dL_law_869 rfl ?_ | refine AW.iadd 870 dL_law_869 rfl ?_
  refine AW.iaload 871 _ dL_law_870 rfl (by assumption) (by first | exact Or.inl rfl | exact Or.inr rfl) (ix_nI (by omega)) (by omega) ?_
  refine AW.cV1 874 dL_law_871 rfl mi_X7_told mv_X7_told lk_L_114 ⟨(Nat.le_of_ble_eq_true rfl), (Nat.le_of_ble_eq_true rfl)⟩ rfl (by assumption) rfl (Nat.le_of_ble_eq_true rfl) (c_told K (fun h1 K1 F1 => ?_))
  have R1 := R.far F1
  have y2 := (F1 2 (by decide)).trans x2
  obtain ⟨_, _, _, _, _, _, y196, -⟩ := id R1.1
  refine AW.aload_n 875 dL_law_874 rfl (by rfl) ?_
  refine AW.aload_n 876 dL_law_875 rfl (by rfl) ?_
  refine AW.iload_n 877 dL_law_876 rfl (by rfl) ?_
  refine AW.iconst 878 dL_law_877 rfl (nI 1) rfl ?_
  first | refine AW.iaddN 879 dL_law_878 rfl ?_ | refine AW.iadd 879 dL_law_878 rfl ?_
  refine AW.iaload 880 _ dL_law_879 rfl (by assumption) (by first | exact Or.inl rfl | exact Or.inr rfl) (ix_nI (by omega)) (by omega) ?_
  refine AW.cV1 883 dL_law_880 rfl mi_X8_told mv_X8_told lk_L_117 ⟨(Nat.le_of_ble_eq_true rfl), (Nat.le_of_ble_eq_true rfl)⟩ rfl (by assumption) rfl (Nat.le_of_ble_eq_true rfl) (r_told R1 (fun h2 R2 F2 => ?_))
  refine AW.icmp_eq 902 886 dL_law_883 (by decide) rfl (fun c => ?_) (fun c => ?_)
  · exact next h2 _ (J.step K1 F1 R2 F2 rfl (g.told _))
  · exact absurd rfl c
theorem lw_digest (hL : L ≤ 2048) (hi : i + 4 ≤ L) (J : LawAt L xs h X) (next : ∀ h X, LawAt L xs h X → AW L_law 902 [some (.ref 2), some (.ref 3), some (.ref 196), some (.int (nI i))] [] 212 u h P) : AW L_law 888 [some (.ref 2), some (.ref 3), some (.ref 196), some (.int (nI i))] [] 212 u h P := by
  obtain ⟨K, R, g, x2⟩ := id J
  have x3 := J.x3
  refine AW.aload_n 889 dL_law_888 rfl (by rfl) ?_
  refine AW.cV0 892 dL_law_889 rfl mi_X7_digest mv_X7_digest lk_L_118 ⟨(Nat.le_of_ble_eq_true rfl), (Nat.le_of_ble_eq_true rfl)⟩ rfl (by assumption) rfl (Nat.le_of_ble_eq_true rfl) (c_digest K (V_ok g.1) (fun h1 K1 F1 => ?_))
  have R1 := R.far F1
  have y2 := (F1 2 (by decide)).trans x2
  obtain ⟨_, _, _, _, _, _, y196, -⟩ := id R1.1
  refine AW.aload_n 893 dL_law_892 rfl (by rfl) ?_
  refine AW.cV0 896 dL_law_893 rfl mi_X8_digest mv_X8_digest lk_L_122 ⟨(Nat.le_of_ble_eq_true rfl), (Nat.le_of_ble_eq_true rfl)⟩ rfl (by assumption) rfl (Nat.le_of_ble_eq_true rfl) (r_digest R1 (fun h2 R2 F2 => ?_))
  have E := E_dig g
  rw [E]
  refine AW.lcmp 897 dL_law_896 rfl ?_
  refine AW.if_eq 902 900 dL_law_897 (by decide) rfl (fun c => ?_) (fun c => ?_)
  · exact next h2 X (J.step K1 F1 R2 F2 rfl g)
  · exact absurd (by simp [lg_cmp]) c
theorem law_loop (hL : L ≤ 2048) : ∀ k i, L < i + 4 + k → i ≤ 2048 → ∀ h X, LawAt L xs h X → AW L_law 18 [some (.ref 2), some (.ref 3), some (.ref 196), some (.int (nI i))] [] 212 u h (fun r _ _ => r = some (.int (nI 1))) := by
  intro k
  induction k with
  | zero =>
    intro i hi hi2 h X J
    have x2 := J.2.2.2
    refine AW.iload_n 19 dL_law_18 rfl (by rfl) ?_
    refine AW.aload_n 20 dL_law_19 rfl (by rfl) ?_
    refine AW.arraylength 21 dL_law_20 rfl (by assumption) (Or.inr rfl) ?_
    refine AW.iconst 22 dL_law_21 rfl (nI 4) rfl ?_
    refine AW.isub 23 dL_law_22 rfl ?_
    refine AW.icmp_gt 908 26 dL_law_23 (by decide) rfl (fun c => ?_) (fun c => ?_)
    · refine AW.iconst 909 dL_law_908 rfl (nI 1) rfl ?_
      refine AW.zret dL_law_909 rfl (by first | exact z_0 | exact z_1 | exact z_b01 _ | assumption) ?_
      rfl
    · exfalso
      apply c
      rw [Int32.lt_iff_toInt_lt, show Int32.ofNat L = nI L from rfl, Int32.toInt_sub, nI_toInt (by omega), nI_toInt (by omega), nI_toInt (by omega), Int.bmod_eq_of_le (by omega) (by omega)]
      omega
  | succ k ih =>
    intro i hi hi2 h X J
    have x2 := J.2.2.2
    refine AW.iload_n 19 dL_law_18 rfl (by rfl) ?_
    refine AW.aload_n 20 dL_law_19 rfl (by rfl) ?_
    refine AW.arraylength 21 dL_law_20 rfl (by assumption) (Or.inr rfl) ?_
    refine AW.iconst 22 dL_law_21 rfl (nI 4) rfl ?_
    refine AW.isub 23 dL_law_22 rfl ?_
    refine AW.icmp_gt 908 26 dL_law_23 (by decide) rfl (fun c => ?_) (fun c => ?_)
    · refine AW.iconst 909 dL_law_908 rfl (nI 1) rfl ?_
      refine AW.zret dL_law_909 rfl (by first | exact z_0 | exact z_1 | exact z_b01 _ | assumption) ?_
      rfl
    · have hi4 : i + 4 ≤ L := by
        rw [Int32.lt_iff_toInt_lt, show Int32.ofNat L = nI L from rfl, Int32.toInt_sub, nI_toInt (by omega), nI_toInt (by omega), nI_toInt (by omega), Int.bmod_eq_of_le (by omega) (by omega)] at c
        omega
      have next : ∀ h X, LawAt L xs h X → AW L_law 902 [some (.ref 2), some (.ref 3), some (.ref 196), some (.int (nI i))] [] 212 u h (fun r _ _ => r = some (.int (nI 1))) := by
        intro h X J
        refine AW.iinc 905 dL_law_902 rfl (by rfl) (4) (nI (i + 4)) rfl (by show nI i + nI 4 = _; rw [nI_add]) rfl ?_
        refine AW.goto 18 dL_law_905 (by decide) ?_
        exact ih (i + 4) (by omega) (by omega) h X J
      refine AW.aload_n 27 dL_law_26 rfl (by rfl) ?_
      refine AW.iload_n 28 dL_law_27 rfl (by rfl) ?_
      refine AW.iaload 29 _ dL_law_28 rfl (by assumption) (by first | exact Or.inl rfl | exact Or.inr rfl) (ix_nI (by omega)) (by omega) ?_
      refine AW.bipush 31 dL_law_29 rfl (nI 31) rfl ?_
      refine AW.iand 32 dL_law_31 rfl ?_
      obtain ⟨j, hj, ej⟩ := and31 (xs i)
      rw [ej]
      have hc : j = 0 ∨ j = 1 ∨ j = 2 ∨ j = 3 ∨ j = 4 ∨ j = 5 ∨ j = 6 ∨ j = 7 ∨ j = 8 ∨ j = 9 ∨ j = 10 ∨ j = 11 ∨ j = 12 ∨ j = 13 ∨ j = 14 ∨ j = 15 ∨ j = 16 ∨ j = 17 ∨ j = 18 ∨ j = 19 ∨ j = 20 ∨ j = 21 ∨ j = 22 ∨ j = 23 ∨ j = 24 ∨ j = 25 ∨ 25 < j := by omega
      rcases hc with rfl | rfl | rfl | rfl | rfl | rfl | rfl | rfl | rfl | rfl | rfl | rfl | rfl | rfl | rfl | rfl | rfl | rfl | rfl | rfl | rfl | rfl | rfl | rfl | rfl | rfl | hc
      · refine AW.tsIn 152 dL_law_32 (by decide) (by decide) rfl (by decide) ?_
        exact lw_points hL hi4 J next
      · refine AW.tsIn 175 dL_law_32 (by decide) (by decide) rfl (by decide) ?_
        exact lw_puts hL hi4 J next
      · refine AW.tsIn 218 dL_law_32 (by decide) (by decide) rfl (by decide) ?_
        exact lw_meets hL hi4 J next
      · refine AW.tsIn 261 dL_law_32 (by decide) (by decide) rfl (by decide) ?_
        exact lw_joins hL hi4 J next
      · refine AW.tsIn 304 dL_law_32 (by decide) (by decide) rfl (by decide) ?_
        exact lw_complements hL hi4 J next
      · refine AW.tsIn 337 dL_law_32 (by decide) (by decide) rfl (by decide) ?_
        exact lw_turns hL hi4 J next
      · refine AW.tsIn 370 dL_law_32 (by decide) (by decide) rfl (by decide) ?_
        exact lw_takes hL hi4 J next
      · refine AW.tsIn 403 dL_law_32 (by decide) (by decide) rfl (by decide) ?_
        exact lw_of hL hi4 J next
      · refine AW.tsIn 436 dL_law_32 (by decide) (by decide) rfl (by decide) ?_
        exact lw_row hL hi4 J next
      · refine AW.tsIn 469 dL_law_32 (by decide) (by decide) rfl (by decide) ?_
        exact lw_below hL hi4 J next
      · refine AW.tsIn 502 dL_law_32 (by decide) (by decide) rfl (by decide) ?_
        exact lw_count hL hi4 J next
      · refine AW.tsIn 525 dL_law_32 (by decide) (by decide) rfl (by decide) ?_
        exact lw_evens hL hi4 J next
      · refine AW.tsIn 538 dL_law_32 (by decide) (by decide) rfl (by decide) ?_
        exact lw_covers hL hi4 J next
      · refine AW.tsIn 571 dL_law_32 (by decide) (by decide) rfl (by decide) ?_
        exact lw_mark hL hi4 J next
      · refine AW.tsIn 604 dL_law_32 (by decide) (by decide) rfl (by decide) ?_
        exact lw_chains hL hi4 J next
      · refine AW.tsIn 637 dL_law_32 (by decide) (by decide) rfl (by decide) ?_
        exact lw_marked hL hi4 J next
      · refine AW.tsIn 660 dL_law_32 (by decide) (by decide) rfl (by decide) ?_
        exact lw_signed hL hi4 J next
      · refine AW.tsIn 693 dL_law_32 (by decide) (by decide) rfl (by decide) ?_
        exact lw_between hL hi4 J next
      · refine AW.tsIn 726 dL_law_32 (by decide) (by decide) rfl (by decide) ?_
        exact lw_number hL hi4 J next
      · refine AW.tsIn 759 dL_law_32 (by decide) (by decide) rfl (by decide) ?_
        exact lw_as hL hi4 J next
      · refine AW.tsIn 803 dL_law_32 (by decide) (by decide) rfl (by decide) ?_
        exact lw_type hL hi4 J next
      · refine AW.tsIn 826 dL_law_32 (by decide) (by decide) rfl (by decide) ?_
        exact lw_clear hL hi4 J next
      · refine AW.tsIn 839 dL_law_32 (by decide) (by decide) rfl (by decide) ?_
        exact lw_does hL hi4 J next
      · refine AW.tsIn 852 dL_law_32 (by decide) (by decide) rfl (by decide) ?_
        exact lw_back hL hi4 J next
      · refine AW.tsIn 865 dL_law_32 (by decide) (by decide) rfl (by decide) ?_
        exact lw_told hL hi4 J next
      · refine AW.tsIn 888 dL_law_32 (by decide) (by decide) rfl (by decide) ?_
        exact lw_digest hL hi4 J next
      · refine AW.tsOut 902 dL_law_32 (Or.inr (by rw [nI_toInt (by omega)]; omega)) (by decide) ?_
        exact next h X J
theorem law_0 (hL : L ≤ 2048) : AW L_law 0 [some (.ref 2), none, none, none] [] 3 (600000, 7302250) (hL0 L xs) (fun r _ _ => r = some (.int (nI 1))) := by
  refine AW.uc 209 7507 (Nat.le_of_ble_eq_true rfl) (Nat.le_of_ble_eq_true rfl) ?_
  refine AW.new (Y := L_law) (u := (208, 7500)) tyX7 [.null, .null, .null, .null, .int 0, .int 0, .int 0] 3 dL_law_0 rfl cl_L_7 ginbX7 giniX7 (ci := 7) rfl tyX7_ok gX7 (fun j hj => match j, hj with | 0, _ => rfl | 1, _ => rfl | 2, _ => rfl | 3, _ => rfl | 4, _ => rfl | 5, _ => rfl | 6, _ => rfl | k + 7, h => absurd h (by omega)) (fun _ => rfl) ?_
  refine AW.dup 4 dL_law_3 rfl rfl ?_
  refine AW.callI (Y := L_law) (u := (16, 6318)) 7 dL_law_4 rfl mi_X7_init rfl rfl mt_X7_init lk_L_9 ⟨(Nat.le_of_ble_eq_true rfl), (Nat.le_of_ble_eq_true rfl)⟩ rfl (Nat.le_of_ble_eq_true rfl) _ rfl (c_newCls (by rw [hs_ne (by decide)]; rfl) (by rw [hs_ne (by decide)]; rfl) (hs_eq _ _ _) (fun h1 K1 F1 => ?_))
  have x2 : h1 2 = .inl (6, (L, .inl xs)) := by rw [F1 2 (by decide), hs_ne (by decide)]; rfl
  refine AW.astore_n 8 dL_law_7 rfl (Nat.le_of_ble_eq_true rfl) rfl ?_
  refine AW.new (Y := L_law) (u := (15, 6295)) tyX8 [.null, .null, .null, .int 0, .null, .null, .int 0, .null, .int 0, .int 0, .null, .null, .null, .null, .null, .null, .null, .int 0, .int 0, .int 0, .null, .null, .long 0] 11 dL_law_8 rfl cl_L_10 ginbX8 giniX8 (ci := 8) rfl tyX8_ok gX8 (fun j hj => match j, hj with | 0, _ => rfl | 1, _ => rfl | 2, _ => rfl | 3, _ => rfl | 4, _ => rfl | 5, _ => rfl | 6, _ => rfl | 7, _ => rfl | 8, _ => rfl | 9, _ => rfl | 10, _ => rfl | 11, _ => rfl | 12, _ => rfl | 13, _ => rfl | 14, _ => rfl | 15, _ => rfl | 16, _ => rfl | 17, _ => rfl | 18, _ => rfl | 19, _ => rfl | 20, _ => rfl | 21, _ => rfl | 22, _ => rfl | k + 23, h => absurd h (by omega)) (fun _ => rfl) ?_
  refine AW.dup 12 dL_law_11 rfl rfl ?_
  refine AW.callI (Y := L_law) (u := (0, 0)) 15 dL_law_12 rfl mi_X8_init rfl rfl mt_X8_init lk_L_12 ⟨(Nat.le_of_ble_eq_true rfl), (Nat.le_of_ble_eq_true rfl)⟩ rfl (Nat.le_of_ble_eq_true rfl) _ rfl (r_newModel (hs_eq _ _ _) (fun h2 R2 F2 => ?_))
  have F3 : ∀ z, z < 196 → h2 z = h1 z := fun z hz => by rw [F2 z hz, hs_ne (by omega)]
  refine AW.astore_n 16 dL_law_15 rfl (Nat.le_of_ble_eq_true rfl) rfl ?_
  refine AW.iconst 17 dL_law_16 rfl (nI 0) rfl ?_
  refine AW.istore_n 18 dL_law_17 rfl (Nat.le_of_ble_eq_true rfl) rfl ?_
  exact law_loop hL L 0 (by omega) (by omega) h2 X00 ⟨K1.far F3, R2, G_00, by rw [F3 2 (by decide), x2]⟩
end LAW
