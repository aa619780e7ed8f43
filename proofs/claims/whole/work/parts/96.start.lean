/-! THE CLAIM OUT OF ONE WALK OF THE LAW'S BODY. Your part is whole_start (and what it stands on); all else here is the same for every law, but numbers. -/
def R_law : String := "UncrossedPartsLaw"
def lw_P (b : Addr) (xs : List Int32) (args : Array Value) (s : State) : Prop := args = #[.ref b] ∧ s.IntsAt b xs ∧ xs.length ≤ 2048 ∧ (Jvm.Cond.and given_1 narrow_1).before args s = true
def lw_Q (_ : Array Value) (s : State) (o : Outcome) (t : State) : Prop := o = .returned (some (.int 1)) ∧ Framed s o t [] 600000 7302250
def lw_Z (below : List Frame) (a : Array Value) (s : State) : State → Prop := fun t => ∃ o, t.status = .running ∧ Ended t below o ∧ lw_Q a s o t
/-- the law's own end, with 1 on the stack, nothing written that was there before, its room as the claim has it -/
theorem lw_ret {p : Program} {l : Launch} {e : Env} {s : State} {m : MethodId} {below : List Frame} {meth : Method} {c : Code} {b : Nat} (hx : p.tables.exec = Jvm.exec) (hb : c.code = code) (hr : meth.sig.returnType = ret) (hlocks : meth.locks = false) {pc : Nat} {H : Heap} {ls : Array Slot} (hdg : decode code pc = .ok (.ireturn, 1)) : W p l e room_1 s m #[Value.ref b] below meth c H [] 600000 7302250 (lw_Z below #[Value.ref b] s) (F0 m pc ls [.int 1]) := by
  intro T hT X
  obtain ⟨fs, hret, hrun, hended, hW, hframe⟩ := X.leave (v := some (.int 1)) (hlocks := hlocks) (fun h => by rw [hr] at h; cases h)
  have hmeth' : T.vm.method? m = some meth := X.method'
  refine ⟨T.setFrames fs, ?_, .returned (some (.int 1)), hrun, hended, rfl, ⟨_, rfl⟩, hW, hframe⟩
  jvm_step X.here [X.here.top, hx, hb, hdg, hmeth', hr, ret, narrow_b1]
  (try refine ⟨rfl, ?_⟩); (try refine ⟨rfl, ?_⟩)
  first | (intro acts; rw [hret _ acts rfl rfl rfl]) | rw [hret _ _ rfl rfl rfl]
  exact Steps.refl _
/-- what holds at the law's entry: the machine, the code, the tables' words (any of lw_tbl by 'hts w (by decide +kernel)'), the script of L ints xs at the cell b, what the Statement gives of the start (any of its parts by flat_of_before) -/
def lw_At (p : Program) (s : State) (m : MethodId) (meth : Method) (c : Code) (b L : Nat) (xs : Nat → Int32) : Prop :=
  p.tables.exec = Jvm.exec ∧ c.code = code ∧ meth.sig.returnType = ret ∧ c.maxLocals = 4 ∧ s.vm.findClass R_law = some m.cls ∧ (∀ w ∈ lw_tbl, w.before #[Value.ref b] s = true) ∧ va_X b L xs s s.heap ∧ b < s.heap.size ∧ meth.locks = false ∧ (Jvm.Cond.and given_1 narrow_1).before #[Value.ref b] s = true
theorem ws_D {s : State} {args : Array Value} (hts : ∀ w ∈ gT, w.before args s = true) : ∃ D : va_G, ∀ (c : Nat) (q : vw_C), vwCl[c]? = some q → u_Kn s q.1 q.2.1 q.2.2 (D.1 c) (D.2 c) := by
  obtain ⟨c0, i0, K0⟩ := u_known (C := RX0) (T := TX0) (N := 3) (n := 3) hts gX0 (hts _ ginbX0)
  obtain ⟨c1, i1, K1⟩ := u_known (C := RX1) (T := TX1) (N := 9) (n := 9) hts gX1 (hts _ ginbX1)
  obtain ⟨c2, i2, K2⟩ := u_known (C := RX2) (T := TX2) (N := 6) (n := 6) hts gX2 (hts _ ginbX2)
  obtain ⟨c3, i3, K3⟩ := u_known (C := RX3) (T := TX3) (N := 2) (n := 2) hts gX3 (hts _ ginbX3)
  obtain ⟨c4, i4, K4⟩ := u_known (C := RX4) (T := TX4) (N := 3) (n := 3) hts gX4 (hts _ ginbX4)
  obtain ⟨c5, i5, K5⟩ := u_known (C := RX5) (T := TX5) (N := 4) (n := 4) hts gX5 (hts _ ginbX5)
  obtain ⟨c6, i6, K6⟩ := u_known (C := RX6) (T := TX6) (N := 3) (n := 3) hts gX6 (hts _ ginbX6)
  obtain ⟨c7, i7, K7⟩ := u_known (C := RX7) (T := TX7) (N := 7) (n := 7) hts gX7 (hts _ ginbX7)
  obtain ⟨c8, i8, K8⟩ := u_known (C := RX8) (T := TX8) (N := 23) (n := 23) hts gX8 (hts _ ginbX8)
  refine ⟨(fun k => match k with | 0 => c0 | 1 => c1 | 2 => c2 | 3 => c3 | 4 => c4 | 5 => c5 | 6 => c6 | 7 => c7 | _ => c8, fun k => match k with | 0 => i0 | 1 => i1 | 2 => i2 | 3 => i3 | 4 => i4 | 5 => i5 | 6 => i6 | 7 => i7 | _ => i8), ?_⟩
  intro c q hq
  match c, hq with
  | 0, hq => cases hq; exact K0
  | 1, hq => cases hq; exact K1
  | 2, hq => cases hq; exact K2
  | 3, hq => cases hq; exact K3
  | 4, hq => cases hq; exact K4
  | 5, hq => cases hq; exact K5
  | 6, hq => cases hq; exact K6
  | 7, hq => cases hq; exact K7
  | 8, hq => cases hq; exact K8
  | k + 9, hq => exact absurd hq (by simp [vwCl])
theorem ws_gT {s : State} {args : Array Value} (hts : ∀ w ∈ lw_tbl, w.before args s = true) : ∀ w ∈ gT, w.before args s = true := fun w hw => hts w (List.mem_filter.mp hw).1
theorem ws_N {s : State} {args : Array Value} (hts : ∀ w ∈ lw_tbl, w.before args s = true) : aNs s := by
  refine ⟨fun q hq => ?_, fun q hq => ?_, va_AO.of (hts _ (List.mem_of_getElem? (i := 102) (by decide +kernel))), va_AO.of (hts _ (List.mem_of_getElem? (i := 202) (by decide +kernel))), ?_, ?_⟩
  · simp only [nM, List.mem_cons, List.not_mem_nil, or_false] at hq
    rcases hq with rfl | rfl | rfl | rfl
    · exact va_Nw.of rfl (hts _ (List.mem_of_getElem? (i := 327) (by decide +kernel)))
    · exact va_Nw.of rfl (hts _ (List.mem_of_getElem? (i := 478) (by decide +kernel)))
    · exact va_Nw.of rfl (hts _ (List.mem_of_getElem? (i := 510) (by decide +kernel)))
    · exact va_Nw.of rfl (hts _ (List.mem_of_getElem? (i := 625) (by decide +kernel)))
  · simp only [nF, List.mem_cons, List.not_mem_nil, or_false] at hq
    rcases hq with rfl | rfl | rfl
    · exact va_Nw.of rfl (hts _ (List.mem_of_getElem? (i := 439) (by decide +kernel)))
    · exact va_Nw.of rfl (hts _ (List.mem_of_getElem? (i := 565) (by decide +kernel)))
    · exact va_Nw.of rfl (hts _ (List.mem_of_getElem? (i := 587) (by decide +kernel)))
  · have h := hts (Cond.arrayOver (.array .int)) (List.mem_of_getElem? (i := 146) (by decide +kernel))
    exact h
  · have h := hts (Cond.arrayOver (.array .long)) (List.mem_of_getElem? (i := 252) (by decide +kernel))
    exact h
/-- a static row -/
theorem ws_S {s : State} {args : Array Value} {n : String} {f : Nat → Nat} {A : Nat → Prop} (hA : ∀ a : Nat, a < s.heap.size → ¬ A a) (hl : (Cond.laysStatic RX7 n "[I").before args s = true) (hini : (Cond.initialized RX7).before args s = true) (harr : (Cond.arrayOf (.static RX7 n "[I") .int).before args s = true) (hlen : (Cond.eq (.length (.static RX7 n "[I")) (.int 9)).before args s = true) (hel : ∀ j, j < 9 → (Cond.eq (.elem (.static RX7 n "[I") (.int (Int32.ofNat j))) (.int (nI (f j)))).before args s = true) : ∃ t : Nat, va_Z RX7 n "[I" (.ref t) A s s.heap ∧ va_T .int t 9 (fun j => .int (nI (f j))) A s s.heap := by
  obtain ⟨t, ht, hT⟩ := va_Tof (f := fun j => .int (nI (f j))) (N := 9) (A := A) (by decide) harr (va_eqt hlen) (fun j hj => va_eqt (hel j hj)) hA
  exact ⟨t, va_Zref hl hini ht hA, hT⟩
theorem whole_start {p : Program} {e : Env} {s : State} {m : MethodId} {below : List Frame} {meth : Method} {c : Code} (l : Launch) (hflags : l.flags = flags0) {b L : Nat} {xs : Nat → Int32} (hL : L ≤ 2048) (C0 : lw_At p s m meth c b L xs) : W p l e room_1 s m #[Value.ref b] below meth c s.heap [] 0 0 (lw_Z below #[Value.ref b] s) (entryFrame m ([Value.ref b] : List Value).toArray 4) := by
  obtain ⟨hx, hb, hr, hml, hown, hts, hX, hbl, hlocks, hgv⟩ := C0
  have hgt := ws_gT hts
  obtain ⟨D, hD⟩ := ws_D hgt
  have hs := flat_of_before _ hgv
  have hA : ∀ a : Nat, a < s.heap.size → ¬ (fun q : Nat => s.heap.size ≤ q) a := fun a h q => Nat.not_le.mpr h q
  obtain ⟨t0, z0, T0⟩ := ws_S (n := "CATALAN") (f := catN) hA (hts _ (List.mem_of_getElem? (i := 440) (by decide +kernel))) (hts _ (List.mem_of_getElem? (i := 72) (by decide +kernel))) (hs _ (by decide +kernel)) (hs _ (by decide +kernel)) (fun j hj => hs _ (by
    have : ∀ j, j < 9 → (Cond.eq (.elem (.static RX7 "CATALAN" "[I") (.int (Int32.ofNat j))) (.int (nI (catN j)))) ∈ flatC (Jvm.Cond.and given_1 narrow_1) := by decide +kernel
    exact this j hj))
  obtain ⟨t1, z1, T1⟩ := ws_S (n := "LONG_CHAINS") (f := lngN) hA (hts _ (List.mem_of_getElem? (i := 566) (by decide +kernel))) (hts _ (List.mem_of_getElem? (i := 72) (by decide +kernel))) (hs _ (by decide +kernel)) (hs _ (by decide +kernel)) (fun j hj => hs _ (by
    have : ∀ j, j < 9 → (Cond.eq (.elem (.static RX7 "LONG_CHAINS" "[I") (.int (Int32.ofNat j))) (.int (nI (lngN j)))) ∈ flatC (Jvm.Cond.and given_1 narrow_1) := by decide +kernel
    exact this j hj))
  obtain ⟨e0, f0, a0, r0⟩ := aoT T0
  obtain ⟨e1, f1, a1, r1⟩ := aoT T1
  obtain ⟨e2, f2, a2, r2⟩ := aoX hX
  obtain ⟨k0, K0, N0⟩ := aoA (hts _ (List.mem_of_getElem? (i := 123) (by decide +kernel) : Cond.arrayClass .int ∈ lw_tbl))
  obtain ⟨k1, K1, N1⟩ := aoA (hts _ (List.mem_of_getElem? (i := 267) (by decide +kernel) : Cond.arrayClass .long ∈ lw_tbl))
  obtain ⟨k2, K2, N2⟩ := aoB (hts _ (List.mem_of_getElem? (i := 146) (by decide +kernel) : Cond.arrayOver (.array .int) ∈ lw_tbl))
  obtain ⟨k3, K3, N3⟩ := aoB (hts _ (List.mem_of_getElem? (i := 252) (by decide +kernel) : Cond.arrayOver (.array .long) ∈ lw_tbl))
  obtain ⟨k4, K4, N4⟩ := aoC (hts _ (List.mem_of_getElem? (i := 102) (by decide +kernel) : Cond.arrayOver (.object RX3) ∈ lw_tbl))
  obtain ⟨k5, K5, N5⟩ := aoC (hts _ (List.mem_of_getElem? (i := 202) (by decide +kernel) : Cond.arrayOver (.object RX6) ∈ lw_tbl))
  obtain ⟨M, hM⟩ : ∃ M : aM, M = ((fun k => match k with | 0 => k0 | 1 => k1 | 2 => k2 | 3 => k3 | 4 => k4 | 5 => k5 | 6 => e0.cls | 7 => e1.cls | _ => e2.cls), (t0, t1, b, s.heap.size)) := ⟨_, rfl⟩
  have q0 := (Array.getElem?_eq_some_iff.mp f0).1
  have q1 := (Array.getElem?_eq_some_iff.mp f1).1
  have hR : Rep D M 3 (hL0 L xs) s.heap := by
    subst hM
    refine ⟨Nat.le_refl _, rfl, ⟨q0, q1, hbl⟩, fun k hk => ?_, fun k hk => ?_, fun k h1 h2 => by omega⟩
    · match k, hk with
      | 0, _ => exact ⟨9, fun i => nI (catN i), e0, rfl, f0, rfl, r0⟩
      | 1, _ => exact ⟨9, fun i => nI (lngN i), e1, rfl, f1, rfl, r1⟩
      | 2, _ => exact ⟨L, xs, e2, rfl, f2, rfl, r2⟩
    · unfold hL0
      rw [if_neg (by omega), if_neg (by omega), if_neg (by omega)]
  have hK : va_K D vwCl (aT M) s := by
    subst hM
    refine ⟨hD, fun k q hq => ?_⟩
    match k, hq with
    | 0, hq => cases hq; exact ⟨K0, N0⟩
    | 1, hq => cases hq; exact ⟨K1, N1⟩
    | 2, hq => cases hq; exact ⟨K2, N2⟩
    | 3, hq => cases hq; exact ⟨K3, N3⟩
    | 4, hq => cases hq; exact ⟨K4, N4⟩
    | 5, hq => cases hq; exact ⟨K5, N5⟩
    | k + 6, hq => exact absurd hq (by simp [aT])
  have hSt : aSt M s := by
    subst hM
    refine ⟨⟨z0, fun k hk => ?_⟩, z1, ws_N hts⟩
    match k, hk with
    | 0, _ => exact a0
    | 1, _ => exact a1
    | 2, _ => exact a2
  have hMb : aB M = s.heap.size := by subst hM; rfl
  have hM2 : aR M 2 = b := by subst hM; rfl
  have hl := lv_entry ([.ref b]) (n := 4) (Nat.le_of_ble_eq_true rfl)
  rw [lg_entry_eq]
  refine law_0 hL D M p l e room_1 s m _ below meth c _ ⟨hx, hb, hml, hown, hgt, hK, hSt, (fun q => absurd q (by decide)), ⟨Nat.le_of_ble_eq_true rfl, Nat.le_of_ble_eq_true rfl⟩, ?_⟩ s.heap [] 0 0 _ hR va_S.rf (Nat.le_of_ble_eq_true rfl) (Nat.le_of_ble_eq_true rfl) ⟨hl.1, hl.2.1, fun i v hv => ?_⟩
  · intro r ins pc N' h' H locs cells slots lsA hk hP hd hR' hS' hc hs
    subst hP
    refine va_forget (fun q hq => ?_) ?_
    · have := hS'.2.2 q hq
      rw [← hMb]
      exact this
    · refine W.widen (k := 600000) (n := 7302250) hc hs ?_
      rcases hk with ⟨e1, -, -⟩ | ⟨v, e1, -, -⟩ | ⟨v, e1, rfl, e2, -⟩ | ⟨v, e1, -, -⟩ | ⟨t, a, e1, -, -⟩
      · cases e1
      · cases e1
      · exact lw_ret hx hb hr hlocks hd
      · cases e1
      · cases e1
  · match i, hv with
    | 0, hv =>
      cases hv
      have := hl.2.2 (0, .ref b) (show (0, Value.ref b) ∈ (0, Value.ref b) :: lv_args 1 [] from List.mem_cons_self)
      rw [show vm M (.ref 2) = .ref b from congrArg Value.ref hM2]
      exact this
    | 1, hv => cases hv
    | 2, hv => cases hv
    | 3, hv => cases hv
set_option maxHeartbeats 4000000 in
theorem lw_walk (l : Launch) (hflags : l.flags = flags0) (b : Addr) (xs : List Int32) : MetFree l x (headSpec (Jvm.Cond.code x code maxLocals ret :: tables_1) room_1) (lw_P b xs) (fun _ _ _ _ _ => True) lw_Q := by
  refine MetFree.of_bodyS (code := code) (maxLocals := maxLocals) (ret := ret) (by decide) ?_ ?_
  · intro args s m h hn
    obtain ⟨meth, c, h1, h2, h3, h4, h5, h6, -, -⟩ := Cond.code_spec hn (atoms_spec (ws := Jvm.Cond.code x code maxLocals ret :: tables_1) h _ List.mem_cons_self)
    exact ⟨meth, c, h1, h2, h3, h4, h5, h6⟩
  · intro p e s m args below meth c s₁ B hml0 hP _
    obtain ⟨rfl, hx, hbd, hgv⟩ := hP
    obtain ⟨scr, harrAt, hlist, hof, hsmall⟩ := hx
    obtain ⟨hcb, hkn, -, -⟩ := State.arrayAt?_spec harrAt
    have hown : s.vm.findClass R_law = some m.cls := findClass_of_methodNamed B.named
    have hts0 : ∀ c ∈ (Jvm.Cond.code x code maxLocals ret :: tables_1), c.before #[Value.ref b] s = true := atoms_spec (ws := Jvm.Cond.code x code maxLocals ret :: tables_1) B.pre
    have hts : ∀ w ∈ lw_tbl, w.before #[Value.ref b] s = true := k2_hts_sels lw_privs (fun w hw => hts0 w (List.mem_cons_of_mem _ hw)) lw_privs_ok
    have hml : c.maxLocals = 4 := B.maxLocals_eq (hts0 _ List.mem_cons_self)
    have X₀ : Stand p l e room_1 s m #[Value.ref b] below meth c s₁ [] 0 0 := Stand.of_body B
    have hh0 : s₁.heap = s.heap := by rw [B.state]; rfl
    have hsz : scr.slots.size = xs.length := by rw [← Array.length_toList, hlist, List.length_map]
    have hval : ∀ j : Nat, j < xs.length → scr.slots[j]? = some (.int (xs.getD j 0)) := fun j hj => by
      rw [← Array.getElem?_toList, hlist]
      simp [hj]
    have hbl : b < s.heap.size := (Array.getElem?_eq_some_iff.mp hcb).1
    have hX : va_X b xs.length (fun j => xs.getD j 0) s s.heap := ⟨scr, hcb, hof, hkn, hsz, hval⟩
    have K : W p l e room_1 s m #[Value.ref b] below meth c s₁.heap [] 0 0 (lw_Z below #[Value.ref b] s) (entryFrame m ([Value.ref b] : List Value).toArray 4) := by
      rw [hh0]
      exact whole_start l hflags hbd ⟨B.exec, B.bytes, B.returns, hml, hown, hts, hX, hbl, B.notSynchronized, hgv⟩
    obtain ⟨t, a1, o, b1, b2, b3⟩ := K s₁ rfl X₀
    exact ⟨t, o, a1, b1, b2, b3⟩
theorem lw_pre_spec {args : Array Value} {s : State} (h : (Jvm.Cond.and given_1 narrow_1).before args s = true) (hr : rest_1_c.before args s = true) : ∃ (b : Addr) (xs : List Int32), lw_P b xs args s := by
  have hs := flat_of_before _ h
  have hq := flat_of_before _ hr
  have hc : (Cond.count 1).before args s = true := hs _ (by decide +kernel)
  have harr : (Cond.arrayOf (.arg 0) .int).before args s = true := hs _ (by decide +kernel)
  have hle : (Cond.le (.length (.arg 0)) (.int 2048)).before args s = true := hs _ (by decide +kernel)
  have hlen : (Cond.isInt (.length (.arg 0))).before args s = true := hq _ (by decide +kernel)
  have hall : (Cond.all (.arg 0) (.isInt (.elem (.arg 0) (.index 0)))).before args s = true := hq _ (by decide +kernel)
  obtain ⟨b, xs, hb, hx⟩ := State.ints_of_pre rfl harr hlen hall
  have hsm : xs.length < 2 ^ 31 := hx.choose_spec.2.2.2
  have hev : (Term.length (.arg 0)).eval args s none [] s = some (.int xs.length.toInt32) := hx.length_eval hb
  have hv := Cond.le_ints hev (show (Term.int 2048).eval args s none [] s = some (.int 2048) from rfl)
  have hd : xs.length.toInt32 ≤ 2048 := by
    simpa [Cond.before, Cond.holds, hv] using hle
  have hN : xs.length ≤ 2048 := (Int32.ofNat_le_ofNat hsm (by decide)).mp (show Int32.ofNat xs.length ≤ Int32.ofNat 2048 from hd)
  exact ⟨b, xs, Cond.one_arg hc (show args[0]? = some (.ref b) from hb), hx, hN, h⟩
theorem lw_comes (l : Launch) (hflags : l.flags = flags0) : Comes l x (Jvm.Cond.code x code maxLocals ret :: tables_1) room_1 (fun tb e args s => Calls_1 tb e args s ∧ rest_1 tb e args s ∧ Pre_1 tb e args s)
    (fun _ _ args s o t => lw_Q args s o t) := by
  intro p e ha hc hk s m args below hf hfit hheap happ hpre
  obtain ⟨b, xs, hP⟩ := lw_pre_spec hpre.2.2 hpre.2.1
  obtain ⟨k, o, h1, h2, h3, hQ⟩ := lw_walk l hflags b xs p e ha hc hk s m args below hf ((Spec.applies_iff_loose hf).mp happ).1 hP trivial
  exact ⟨k, o, h1, h2, h3, hQ⟩
theorem lw_frame {s t : State} {o : Outcome} {args : Array Value} (h : Framed s o t [] 600000 7302250) :
    Framed s o t (fieldLocs frame_1_writes args s ++ arrayLocs frame_1_arrays args s ++ staticLocs frame_1_statics s) 600000 7302250 := h
theorem lw_limb (L : Cond) (hL : ∀ (args : Array Value) (s t : State), L.after args s (.returned (some (.int 1))) t = true) :
    ArmFor flags0 classFile x code maxLocals ret World_1 tables_1 room_1 Calls_1 rest_1 Pre_1
      (fun tb e a s o t => postC L tb e a s o t ∧ Framed s o t (fieldLocs frame_1_writes a s ++ arrayLocs frame_1_arrays a s ++ staticLocs frame_1_statics s) 600000 7302250) := by
  intro l hflags _ _ p e ha hc hk s m args below hf hfit hheap happ hpre
  obtain ⟨k, o, h1, h2, h3, rfl, hF⟩ := lw_comes l hflags p e ha hc hk s m args below hf hfit hheap happ hpre
  exact ⟨k, _, h1, h2, h3, hL args s _, lw_frame hF⟩
theorem i_vc : Claimed_1_1 ∧ Claimed_1_2 := ⟨lw_limb limb_1_1 (fun args s t => by simp [limb_1_1, Cond.after, Cond.holds, Cond.value]), lw_limb limb_1_2 (fun args s t => Cond.after_iff.mpr (by
  first | (rw [show limb_1_2 = Cond.eq .result (.int 1) from rfl, Cond.eq_ints (x := 1) (y := 1) rfl rfl]; simp; done) | (simp [limb_1_2, Cond.value, Term.eval]; done)))⟩

