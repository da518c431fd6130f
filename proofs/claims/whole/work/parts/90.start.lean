-- ===== end of PART A; then your names; then what follows =====
/-! THE CLAIM OUT OF ONE WALK OF THE LAW'S BODY. Your part is whole_start (and what it stands on); all else here is the same for every law, but numbers. -/
def R_law : String := "SeldomOpsLaw"
def lw_P (b : Addr) (xs : List Int32) (args : Array Value) (s : State) : Prop := args = #[.ref b] ∧ s.IntsAt b xs ∧ xs.length ≤ 3072 ∧ (Jvm.Cond.and given_1 narrow_1).before args s = true
def lw_Q (_ : Array Value) (s : State) (o : Outcome) (t : State) : Prop := o = .returned (some (.int 1)) ∧ Framed s o t [] 600000 7302250
def lw_Z (below : List Frame) (a : Array Value) (s : State) : State → Prop := fun t => ∃ o, t.status = .running ∧ Ended t below o ∧ lw_Q a s o t
/-- the law's own end, with 1 on the stack, nothing written that was there before, its room as the claim has it -/
theorem lw_ret {p : Program} {l : Launch} {e : Env} {s : State} {m : MethodId} {below : List Frame} {meth : Method} {c : Code} {b : Nat} (hx : p.tables.exec = Jvm.exec) (hb : c.code = code) (hr : meth.sig.returnType = ret) (hlocks : meth.locks = false) {pc : Nat} {H : Heap} {ls : Array Slot} (hdg : decode code pc = .ok (.ireturn, 1)) : W p l e room_1 s m #[Value.ref b] below meth c H [] 600000 7302250 (lw_Z below #[Value.ref b] s) (F0 m pc ls [.int 1]) := by
  intro T hT X
  obtain ⟨fs, hret, hrun, hended, hW, hframe⟩ := X.leave (v := some (.int 1)) (hlocks := hlocks) (fun h => by rw [hr] at h; cases h)
  have hmeth' : T.vm.method? m = some meth := X.method'
  refine ⟨T.setFrames fs, ?_, .returned (some (.int 1)), hrun, hended, rfl, ⟨_, rfl⟩, hW, hframe⟩
  jvm_step X.here [X.here.top, hx, hb, hdg, hmeth', hr, ret, narrow_b1]
  (try refine ⟨rfl, ?_⟩); (try refine ⟨rfl, ?_⟩)
  first | (intro acts; rw [hret _ acts rfl rfl rfl]) | rw [hret _ _ rfl rfl rfl]
  exact Steps.refl _
/-- what holds at the law's entry: the machine, the code, the tables' words (any of lw_tbl by 'hts w (by decide +kernel)'), the script of L ints xs at the cell b, what the Statement gives of the start (any of its parts by flat_of_before) -/
def lw_At (p : Program) (s : State) (m : MethodId) (meth : Method) (c : Code) (b L : Nat) (xs : Nat → Int32) : Prop :=
  p.tables.exec = Jvm.exec ∧ c.code = code ∧ meth.sig.returnType = ret ∧ c.maxLocals = 4 ∧ s.vm.findClass R_law = some m.cls ∧ (∀ w ∈ lw_tbl, w.before #[Value.ref b] s = true) ∧ va_X b L xs s s.heap ∧ b < s.heap.size ∧ meth.locks = false ∧ (Jvm.Cond.and given_1 narrow_1).before #[Value.ref b] s = true

/-- a table of ints that a static holds -/
theorem st_tab {args : Array Value} {s : State} {n : String} {f : Nat → Int32} (hl : (Cond.laysStatic "SeldomOps" n "[I").before args s = true) (hini : (Cond.initialized "SeldomOps").before args s = true) (h1 : (Cond.arrayOf (.static "SeldomOps" n "[I") .int).before args s = true) (h2 : (Cond.eq (.length (.static "SeldomOps" n "[I")) (.int 9)).before args s = true)
    (h3 : ∀ j : Nat, j < 9 → (Cond.eq (.elem (.static "SeldomOps" n "[I") (.int (Int32.ofNat j))) (.int (f j))).before args s = true) : ∃ t : Nat, va_Z "SeldomOps" n "[I" (.ref t) (fun q => s.heap.size ≤ q) s s.heap ∧ va_T .int t 9 (fun j => .int (f j)) (fun q => s.heap.size ≤ q) s s.heap := by
  have hA : ∀ a : Nat, a < s.heap.size → ¬ (fun q => s.heap.size ≤ q) a := fun a h => Nat.not_le.mpr h
  obtain ⟨t, ht, hT⟩ := va_Tof (A := fun q => s.heap.size ≤ q) (N := 9) (f := fun j => .int (f j)) (by decide) h1 (va_eqt h2) (fun j hj => va_eqt (h3 j hj)) hA
  exact ⟨t, va_Zof hl hini ht hA, hT⟩
theorem st_prim {args : Array Value} {s : State} {t : FieldType} (ht : t = .int ∨ t = .long ∨ t = .boolean) (h : (Cond.arrayClass t).before args s = true) : ∃ c : ClassId, ArrOfT s c t ∧ va_RA s c t := by
  obtain ⟨c, k, comp, h1, h2, h3⟩ := Cond.arrayClass_spec h
  refine ⟨c, fun n z => ⟨fun k h => (by cases h), k, h2, comp, h3⟩, ?_⟩
  rcases ht with rfl | rfl | rfl <;> exact h1
theorem st_obj {args : Array Value} {s : State} {C : String} (h : (Cond.arrayOver (.object C)).before args s = true) : ∃ c : ClassId, ArrOfT s c (.object C) ∧ va_RA s c (.object C) := by
  obtain ⟨comp, c, k, h1, h2, h3, h4, h5⟩ := Cond.arrayOver_spec h
  exact ⟨c, fun n z => ⟨fun k h => (by cases h), k, h3, comp, h4⟩, k, comp, h3, h4, h1, h5⟩

set_option maxRecDepth 100000 in
set_option maxHeartbeats 4000000 in
theorem whole_start {p : Program} {e : Env} {s : State} {m : MethodId} {below : List Frame} {meth : Method} {c : Code} (l : Launch) {b L : Nat} {xs : Nat → Int32} (hL : L ≤ 3072) (C0 : lw_At p s m meth c b L xs) (LN : meth.name = "law") : W p l e room_1 s m #[Value.ref b] below meth c s.heap [] 0 0 (lw_Z below #[Value.ref b] s) (entryFrame m ([Value.ref b] : List Value).toArray 4) := by
  obtain ⟨hx, hb, hr, hml, hown, hts, hX, hbl, hlocks, hgv⟩ := id C0
  have hflat := flat_of_before _ hgv
  obtain ⟨c0, i0, K0⟩ := u_known (C := RX0) (T := TX0) (N := 8) (n := 8) hts xl_0 (hts (.instantiable RX0 8) (List.mem_append_right _ (List.mem_of_getElem? (i := 156) rfl)))
  obtain ⟨c1, i1, K1⟩ := u_known (C := RX1) (T := TX1) (N := 6) (n := 6) hts xl_1 (hts (.instantiable RX1 6) (List.mem_append_right _ (List.mem_of_getElem? (i := 61) rfl)))
  obtain ⟨c2, i2, K2⟩ := u_known (C := RX2) (T := TX2) (N := 16) (n := 16) hts xl_2 (hts (.instantiable RX2 16) (List.mem_append_right _ (List.mem_of_getElem? (i := 274) rfl)))
  obtain ⟨c3, i3, K3⟩ := u_known (C := RX4) (T := TX4) (N := 6) (n := 6) hts xl_3 (hts (.instantiable RX4 6) (List.mem_append_right _ (List.mem_of_getElem? (i := 25) rfl)))
  obtain ⟨c4, i4, K4⟩ := u_known (C := RX5) (T := TX5) (N := 2) (n := 2) hts xl_4 (hts (.instantiable RX5 2) (List.mem_append_right _ (List.mem_of_getElem? (i := 67) rfl)))
  obtain ⟨c5, i5, K5⟩ := u_known (C := RX6) (T := TX6) (N := 4) (n := 4) hts xl_5 (hts (.instantiable RX6 4) (List.mem_append_right _ (List.mem_of_getElem? (i := 280) rfl)))
  obtain ⟨c6, i6, K6⟩ := u_known (C := RX7) (T := TX7) (N := 6) (n := 6) hts xl_6 (hts (.instantiable RX7 6) (List.mem_append_right _ (List.mem_of_getElem? (i := 433) rfl)))
  obtain ⟨c7, i7, K7⟩ := u_known (C := RX8) (T := TX8) (N := 5) (n := 5) hts xl_7 (hts (.instantiable RX8 5) (List.mem_append_right _ (List.mem_of_getElem? (i := 129) rfl)))
  obtain ⟨c8, i8, K8⟩ := u_known (C := RX9) (T := TX9) (N := 15) (n := 15) hts xl_8 (hts (.instantiable RX9 15) (List.mem_append_right _ (List.mem_of_getElem? (i := 123) rfl)))
  obtain ⟨c9, i9, K9⟩ := u_known (C := RX10) (T := TX10) (N := 2) (n := 2) hts xl_9 (hts (.instantiable RX10 2) (List.mem_append_right _ (List.mem_of_getElem? (i := 73) rfl)))
  obtain ⟨c10, i10, K10⟩ := u_known (C := RX11) (T := TX11) (N := 5) (n := 5) hts xl_10 (hts (.instantiable RX11 5) (List.mem_append_right _ (List.mem_of_getElem? (i := 17) rfl)))
  obtain ⟨c11, i11, K11⟩ := u_known (C := RX12) (T := TX12) (N := 67) (n := 67) hts xl_11 (hts (.instantiable RX12 67) (List.mem_append_right _ (List.mem_of_getElem? (i := 962) rfl)))
  obtain ⟨a0, A0, B0⟩ := st_prim (t := .int) (Or.inl rfl) (hts (.arrayClass .int) (List.mem_append_right _ (List.mem_of_getElem? (i := 153) rfl)))
  obtain ⟨a1, A1, B1⟩ := st_prim (t := .long) (Or.inr (Or.inl rfl)) (hts (.arrayClass .long) (List.mem_append_right _ (List.mem_of_getElem? (i := 59) rfl)))
  obtain ⟨a2, A2, B2⟩ := st_prim (t := .boolean) (Or.inr (Or.inr rfl)) (hts (.arrayClass .boolean) (List.mem_append_right _ (List.mem_of_getElem? (i := 299) rfl)))
  have O3 := hts (.arrayOver (.object "SeldomOps$Call")) (List.mem_append_right _ (List.mem_of_getElem? (i := 155) rfl))
  obtain ⟨a3, A3, B3⟩ := st_obj O3
  have O4 := hts (.arrayOver (.object "SeldomOps$Method")) (List.mem_append_right _ (List.mem_of_getElem? (i := 31) rfl))
  obtain ⟨a4, A4, B4⟩ := st_obj O4
  have O5 := hts (.arrayOver (.object "SeldomOps$Table")) (List.mem_append_right _ (List.mem_of_getElem? (i := 33) rfl))
  obtain ⟨a5, A5, B5⟩ := st_obj O5
  obtain ⟨t0, Z0, T0⟩ := st_tab (n := "MOVE_UPPER") (f := fun j => [1, 2, 1, 1, 1, 2, 2, 2, 1].getD j 0) (hts (.laysStatic "SeldomOps" "MOVE_UPPER" "[I") (List.mem_append_right _ (List.mem_of_getElem? (i := 619) rfl))) (hts (.initialized "SeldomOps") (List.mem_append_right _ (List.mem_of_getElem? (i := 1) rfl))) (hflat _ (by decide +kernel)) (hflat _ (by decide +kernel)) (fun j hj => by
    rcases (show j = 0 ∨ j = 1 ∨ j = 2 ∨ j = 3 ∨ j = 4 ∨ j = 5 ∨ j = 6 ∨ j = 7 ∨ j = 8 by omega) with rfl | rfl | rfl | rfl | rfl | rfl | rfl | rfl | rfl <;> exact hflat _ (by decide +kernel))
  obtain ⟨t1, Z1, T1⟩ := st_tab (n := "MOVE_UNDER") (f := fun j => [0, 0, 0, 1, 2, 0, 1, 2, 1].getD j 0) (hts (.laysStatic "SeldomOps" "MOVE_UNDER" "[I") (List.mem_append_right _ (List.mem_of_getElem? (i := 621) rfl))) (hts (.initialized "SeldomOps") (List.mem_append_right _ (List.mem_of_getElem? (i := 1) rfl))) (hflat _ (by decide +kernel)) (hflat _ (by decide +kernel)) (fun j hj => by
    rcases (show j = 0 ∨ j = 1 ∨ j = 2 ∨ j = 3 ∨ j = 4 ∨ j = 5 ∨ j = 6 ∨ j = 7 ∨ j = 8 by omega) with rfl | rfl | rfl | rfl | rfl | rfl | rfl | rfl | rfl <;> exact hflat _ (by decide +kernel))
  obtain ⟨h1, hF⟩ := law_true L xs s.heap.size hL
  generalize hD : ((fun k => if k = 0 then c0 else if k = 1 then c1 else if k = 2 then c2 else if k = 3 then c3 else if k = 4 then c4 else if k = 5 then c5 else if k = 6 then c6 else if k = 7 then c7 else if k = 8 then c8 else if k = 9 then c9 else if k = 10 then c10 else c11, fun k => if k = 0 then i0 else if k = 1 then i1 else if k = 2 then i2 else if k = 3 then i3 else if k = 4 then i4 else if k = 5 then i5 else if k = 6 then i6 else if k = 7 then i7 else if k = 8 then i8 else if k = 9 then i9 else if k = 10 then i10 else i11) : va_G) = D
  generalize hcA : (fun t : FieldType => if t = .int then a0 else if t = .long then a1 else if t = .boolean then a2 else if t = .object "SeldomOps$Call" then a3 else if t = .object "SeldomOps$Method" then a4 else a5) = cA
  have hG := FL_law_ok (D := D) (cA := cA) (b0 := s.heap.size) (sa := fun k => if k = 0 then t0 else if k = 1 then t1 else b) (l := l) hF
  have hK : xK (D, cA, s.heap.size, (fun k => if k = 0 then t0 else if k = 1 then t1 else b), L, xs) s := by
    refine ⟨⟨?_, ?_⟩, ?_, ?_⟩
    · intro k q hq
      subst hD
      match k, hq with
      | 0, hq => cases hq; exact K0
      | 1, hq => cases hq; exact K1
      | 2, hq => cases hq; exact K2
      | 3, hq => cases hq; exact K3
      | 4, hq => cases hq; exact K4
      | 5, hq => cases hq; exact K5
      | 6, hq => cases hq; exact K6
      | 7, hq => cases hq; exact K7
      | 8, hq => cases hq; exact K8
      | 9, hq => cases hq; exact K9
      | 10, hq => cases hq; exact K10
      | 11, hq => cases hq; exact K11
      | k + 12, hq => simp [vwCl] at hq
    · intro k q hq
      subst hcA
      match k, hq with
      | 0, hq => cases hq; exact ⟨A0, B0⟩
      | 1, hq => cases hq; exact ⟨A1, B1⟩
      | 2, hq => cases hq; exact ⟨A2, B2⟩
      | 3, hq => cases hq; exact ⟨A3, B3⟩
      | 4, hq => cases hq; exact ⟨A4, B4⟩
      | 5, hq => cases hq; exact ⟨A5, B5⟩
      | k + 6, hq => simp [xtys] at hq
    · intro w hw
      have hw2 := List.mem_filter.mp hw
      refine va_Nw.of ?_ (hts w (List.mem_append_right _ hw2.1))
      have h3 := hw2.2
      cases w <;> first | rfl | exact absurd h3 Bool.false_ne_true
    · intro C hC
      simp only [xao, List.mem_cons, List.not_mem_nil, or_false] at hC
      rcases hC with rfl | rfl | rfl
      · exact va_AO.of O3
      · exact va_AO.of O4
      · exact va_AO.of O5
  have hR : xR (D, cA, s.heap.size, (fun k => if k = 0 then t0 else if k = 1 then t1 else b), L, xs) (hp00 s.heap.size) s s.heap := by
    refine ⟨rfl, Nat.le_refl _, fun a q h => (by cases h), ⟨fun k hk => ?_, Z0, Z1⟩⟩
    rcases (show k = 0 ∨ k = 1 ∨ k = 2 by omega) with rfl | rfl | rfl
    · exact T0
    · exact T1
    · obtain ⟨scr, g1, g2, g3, g4, g5⟩ := hX
      exact ⟨scr, g1, g2, g3, by show L ≤ _; omega, by rw [g4]; rfl, g5, Nat.not_le.mpr hbl⟩
  have hl := lv_entry ([.ref b]) (n := 4) (Nat.le_of_ble_eq_true rfl)
  rw [lg_entry_eq]
  refine hG p e room_1 s m _ below meth c s.heap [] 0 0 _ _ ⟨hx, hb, hr, hml, hown, fun w hw => hts w (List.mem_filter.mp hw).1, hlocks, LN, hK, by decide, by decide⟩ (by decide) (by decide) (fun _ h => by cases h) ⟨hl.1, hl.2.1, fun q hq => ?_⟩ hR ?_
  · rcases List.mem_cons.mp hq with rfl | hq
    · exact ⟨hl.2.2 (0, .ref b) List.mem_cons_self, rfl⟩
    · cases hq
  · intro v h' H' locs' pc' ls' i hQ hR' hL' hd hi
    obtain ⟨rfl, rfl, -⟩ := hQ
    refine va_forget (fun q hq => hL' q hq) ?_
    rcases hi with ⟨rfl, -⟩ | ⟨-, x, h⟩ | ⟨-, x, h⟩ | ⟨-, h⟩
    · exact lw_ret hx hb hr hlocks hd
    · cases h
    · cases x <;> cases h
    · cases h
-- ===== YOUR PART ENDS =====
set_option maxHeartbeats 4000000 in
theorem lw_walk (l : Launch) (b : Addr) (xs : List Int32) : MetFree l x (headSpec (Jvm.Cond.code x code maxLocals ret :: tables_1) room_1) (lw_P b xs) (fun _ _ _ _ _ => True) lw_Q := by
  refine MetFree.of_bodyS (code := code) (maxLocals := maxLocals) (ret := ret) (by decide) ?_ ?_
  · intro args s m h hn
    obtain ⟨meth, c, h1, h2, h3, h4, h5, h6, -, -⟩ := Cond.code_spec hn (atoms_spec (ws := Jvm.Cond.code x code maxLocals ret :: tables_1) h _ List.mem_cons_self)
    exact ⟨meth, c, h1, h2, h3, h4, h5, h6⟩
  · intro p e s m args below meth c s₁ B hml0 hP _
    obtain ⟨rfl, hx, hbd, hgv⟩ := hP
    obtain ⟨scr, harrAt, hlist, hof, hsmall⟩ := hx
    obtain ⟨hcb, hkn, -, -⟩ := State.arrayAt?_spec harrAt
    have hown : s.vm.findClass R_law = some m.cls := findClass_of_methodNamed B.named
    have hts0 : ∀ c ∈ (Jvm.Cond.code x code maxLocals ret :: tables_1), c.before #[Value.ref b] s = true := atoms_spec (ws := Jvm.Cond.code x code maxLocals ret :: tables_1) B.pre
    have hts : ∀ w ∈ lw_tbl, w.before #[Value.ref b] s = true := k2_hts_sels lw_privs (fun w hw => hts0 w (List.mem_cons_of_mem _ hw)) lw_privs_ok
    have hml : c.maxLocals = 4 := B.maxLocals_eq (hts0 _ List.mem_cons_self)
    have X₀ : Stand p l e room_1 s m #[Value.ref b] below meth c s₁ [] 0 0 := Stand.of_body B
    have hh0 : s₁.heap = s.heap := by rw [B.state]; rfl
    have hsz : scr.slots.size = xs.length := by rw [← Array.length_toList, hlist, List.length_map]
    have hval : ∀ j : Nat, j < xs.length → scr.slots[j]? = some (.int (xs.getD j 0)) := fun j hj => by
      rw [← Array.getElem?_toList, hlist]
      simp [hj]
    have hbl : b < s.heap.size := (Array.getElem?_eq_some_iff.mp hcb).1
    have hX : va_X b xs.length (fun j => xs.getD j 0) s s.heap := ⟨scr, hcb, hof, hkn, hsz, hval⟩
    have K : W p l e room_1 s m #[Value.ref b] below meth c s₁.heap [] 0 0 (lw_Z below #[Value.ref b] s) (entryFrame m ([Value.ref b] : List Value).toArray 4) := by
      rw [hh0]
      exact whole_start l hbd ⟨B.exec, B.bytes, B.returns, hml, hown, hts, hX, hbl, B.notSynchronized, hgv⟩ (name_of_methodNamed B.named B.method).1
    obtain ⟨t, a1, o, b1, b2, b3⟩ := K s₁ rfl X₀
    exact ⟨t, o, a1, b1, b2, b3⟩
theorem lw_pre_spec {args : Array Value} {s : State} (h : (Jvm.Cond.and given_1 narrow_1).before args s = true) (hr : rest_1_c.before args s = true) : ∃ (b : Addr) (xs : List Int32), lw_P b xs args s := by
  have hs := flat_of_before _ h
  have hq := flat_of_before _ hr
  have hc : (Cond.count 1).before args s = true := hs _ (by decide +kernel)
  have harr : (Cond.arrayOf (.arg 0) .int).before args s = true := hs _ (by decide +kernel)
  have hle : (Cond.le (.length (.arg 0)) (.int 3072)).before args s = true := hs _ (by decide +kernel)
  have hlen : (Cond.isInt (.length (.arg 0))).before args s = true := hq _ (by decide +kernel)
  have hall : (Cond.all (.arg 0) (.isInt (.elem (.arg 0) (.index 0)))).before args s = true := hq _ (by decide +kernel)
  obtain ⟨b, xs, hb, hx⟩ := State.ints_of_pre rfl harr hlen hall
  have hsm : xs.length < 2 ^ 31 := hx.choose_spec.2.2.2
  have hev : (Term.length (.arg 0)).eval args s none [] s = some (.int xs.length.toInt32) := hx.length_eval hb
  have hv := Cond.le_ints hev (show (Term.int 3072).eval args s none [] s = some (.int 3072) from rfl)
  have hd : xs.length.toInt32 ≤ 3072 := by
    simpa [Cond.before, Cond.holds, hv] using hle
  have hN : xs.length ≤ 3072 := (Int32.ofNat_le_ofNat hsm (by decide)).mp (show Int32.ofNat xs.length ≤ Int32.ofNat 3072 from hd)
  exact ⟨b, xs, Cond.one_arg hc (show args[0]? = some (.ref b) from hb), hx, hN, h⟩
theorem lw_comes (l : Launch) : Comes l x (Jvm.Cond.code x code maxLocals ret :: tables_1) room_1 (fun tb e args s => Calls_1 tb e args s ∧ rest_1 tb e args s ∧ Pre_1 tb e args s)
    (fun _ _ args s o t => lw_Q args s o t) := by
  intro p e ha hc hk s m args below hf hfit hheap happ hpre
  obtain ⟨b, xs, hP⟩ := lw_pre_spec hpre.2.2 hpre.2.1
  obtain ⟨k, o, h1, h2, h3, hQ⟩ := lw_walk l b xs p e ha hc hk s m args below hf ((Spec.applies_iff_loose hf).mp happ).1 hP trivial
  exact ⟨k, o, h1, h2, h3, hQ⟩
theorem lw_frame {s t : State} {o : Outcome} {args : Array Value} (h : Framed s o t [] 600000 7302250) :
    Framed s o t (fieldLocs frame_1_writes args s ++ arrayLocs frame_1_arrays args s ++ staticLocs frame_1_statics s) 600000 7302250 := h
theorem lw_limb (L : Cond) (hL : ∀ (args : Array Value) (s t : State), L.after args s (.returned (some (.int 1))) t = true) :
    ArmFor flags0 classFile x code maxLocals ret World_1 tables_1 room_1 Calls_1 rest_1 Pre_1
      (fun tb e a s o t => postC L tb e a s o t ∧ Framed s o t (fieldLocs frame_1_writes a s ++ arrayLocs frame_1_arrays a s ++ staticLocs frame_1_statics s) 600000 7302250) := by
  intro l _ _ _ p e ha hc hk s m args below hf hfit hheap happ hpre
  obtain ⟨k, o, h1, h2, h3, rfl, hF⟩ := lw_comes l p e ha hc hk s m args below hf hfit hheap happ hpre
  exact ⟨k, _, h1, h2, h3, hL args s _, lw_frame hF⟩
theorem i_vc : Claimed_1_1 ∧ Claimed_1_2 := ⟨lw_limb limb_1_1 (fun args s t => by simp [limb_1_1, Cond.after, Cond.holds, Cond.value]), lw_limb limb_1_2 (fun args s t => Cond.after_iff.mpr (by
  first | (rw [show limb_1_2 = Cond.eq .result (.int 1) from rfl, Cond.eq_ints (x := 1) (y := 1) rfl rfl]; simp; done) | (simp [limb_1_2, Cond.value, Term.eval]; done)))⟩
