/-! new cells -/
def xoky : FieldType → Bool
  | .float => false
  | .double => false
  | _ => true
theorem xdef {g : Hp} {a k : Nat} {t : FieldType} (ht : xoky t = true) (h1 : hI g a k = 0) (h2 : hL g a k = 0) (h3 : hR g a k = none) : defaultValue t = xval g a k t := by
  cases t <;> first | (simp [xval, h1, h2, h3, defaultValue, va_rf]; done) | (simp [xoky] at ht; done)
theorem aN_I (h : Hp) (q : Nat ⊕ (FieldType × Nat)) : hI (aN h q) (hz h) = fun _ => 0 := upr_eq
theorem aN_L (h : Hp) (q : Nat ⊕ (FieldType × Nat)) : hL (aN h q) (hz h) = fun _ => 0 := upr_eq
theorem aN_R (h : Hp) (q : Nat ⊕ (FieldType × Nat)) : hR (aN h q) (hz h) = fun _ => none := upr_eq
section XN
variable {G : xG} {l : Launch} {M : xM} {d k n pc : Nat} {lv : xLv} {st : List Value} {h : Hp} {Q : xPost}
theorem xe_new {idx ci : Nat} (hd : decode M.2.1 pc = .ok (.new idx, 3)) (hcl : xcl ci) (hok : ∀ j, j < xnf ci → xoky (xty ci j) = true) (hw : ∃ C T N, vwCl[ci]? = some (C, T, N) ∧ Cond.classLink M.1.cls idx C ∈ xws ∧ Cond.instantiable C N ∈ xws ∧ Cond.initialized C ∈ xws)
    (kk : xv G l M d k n (pc + 3) lv (.ref (hz h) :: st) (aN h (.inl ci)) Q) : xv G l M d (k + 1) (n + xnf ci) pc lv st h Q := by
  intro p e R s m args below meth c H locs cells slots ls Z C hc hs hL' hl hR' hr
  obtain ⟨Cn, T, N, hc1, w1, w2, w3⟩ := hw
  obtain ⟨C2, T2, N2, hc2, hN, hws, hty, hnm⟩ := hcl
  cases hc1.symm.trans hc2
  have hts := C.2.2.2.2.2.1
  have hK := C.2.2.2.2.2.2.2.2.1.1
  have hKn := hK.1 ci _ hc1
  refine W.newcK C.1 C.2.1 C.2.2.2.2.1 (hts _ w1) (hts _ w2) (hts _ w3) rfl hd (by omega) (by omega) hKn.2.1 hR'.1 fun H1 kC hkC e1 z1 o1 => ?_
  refine kk p e R s m args below meth c H1 locs (cells + 1) (slots + N) ls Z C (by omega) (by omega) hL' hl (hR'.new (q := .inl ci) (by rw [z1, hR'.1]) (fun b hb => o1 b (by rw [← hR'.1]; exact hb)) ?_) hr
  refine ⟨_, hc1, (u_born (xty ci) hts hws hKn hkC e1 hty).to fun j hj => ?_⟩
  have hj' : j < xnf ci := by omega
  have e2 : vp_V (xfs (aN h (.inl ci)) (hz h) ci) j = xval (aN h (.inl ci)) (hz h) j (xty ci j) := by
    simp [vp_V, xfs_get hj']
  show defaultValue (xty ci j) = vp_V (xfs (aN h (.inl ci)) (hz h) ci) j
  rw [e2]
  exact xdef (hok j hj') (by rw [aN_I]) (by rw [aN_L]) (by rw [aN_R])
theorem xe_newa {at0 : ArrayType} {t : FieldType} {x : Int32} {N : Nat} (hd : decode M.2.1 pc = .ok (.newarray at0, 2)) (hat : newarray.typeOf at0 = t) (ht : t = .int ∨ t = .long ∨ t = .boolean) (hw : Cond.arrayClass t ∈ xws) (hx : ¬ x < 0) (hN : x.toNatClampNeg = N) (hb : N * 8 ≤ 536870912)
    (kk : xv G l M d k n (pc + 2) lv (.ref (hz h) :: st) (aN h (.inr (t, N))) Q) : xv G l M d (k + 1) (n + N) pc lv (.int x :: st) h Q := by
  intro p e R s m args below meth c H locs cells slots ls Z C hc hs hL' hl hR' hr
  have hK := C.2.2.2.2.2.2.2.2.1
  refine va_newaK C.1 C.2.1 (by rw [hat]; exact C.2.2.2.2.2.1 _ hw) rfl hd rfl hx hN (by rw [hat]; rcases ht with rfl | rfl | rfl <;> simp [componentBytes] <;> omega) (by omega) (by omega) hR'.1 fun H1 cA e1 z1 o1 hAr hNm => ?_
  rw [hat] at e1 hNm
  have hm : t ∈ xtys := by rcases ht with rfl | rfl | rfl <;> decide
  have hra := (xtys_at hK hm).2
  have hcA : cA = G.2.1 t := by
    rcases ht with rfl | rfl | rfl <;> exact Option.some.inj (hNm.symm.trans hra)
  subst hcA
  refine kk p e R s m args below meth c H1 locs (cells + 1) (slots + N) ls Z C (by omega) (by omega) hL' hl (hR'.new (q := .inr (t, N)) (by rw [z1, hR'.1]) (fun b hb => o1 b (by rw [← hR'.1]; exact hb)) ?_) hr
  show H1[hz h]? = some (vp_cell (G.2.1 t) (N, xrow (aN h (.inr (t, N))) (hz h) t))
  rw [e1]
  rcases ht with rfl | rfl | rfl <;> simp [xrow, vp_cell, defaultValue, aN_I, aN_L]
theorem xe_anewa {idx : Nat} {Cn : String} {x : Int32} {N : Nat} (hd : decode M.2.1 pc = .ok (.anewarray idx, 3)) (hm : FieldType.object Cn ∈ xtys) (hao : Cn ∈ xao) (hw : Cond.classLink M.1.cls idx Cn ∈ xws) (hx : ¬ x < 0) (hN : x.toNatClampNeg = N) (hb : N * 4 ≤ 536870912)
    (kk : xv G l M d k n (pc + 3) lv (.ref (hz h) :: st) (aN h (.inr (.object Cn, N))) Q) : xv G l M d (k + 1) (n + N) pc lv (.int x :: st) h Q := by
  intro p e R s m args below meth c H locs cells slots ls Z C hc hs hL' hl hR' hr
  have hK := C.2.2.2.2.2.2.2.2.1
  subst hN
  refine W.anew C.1 C.2.1 C.2.2.2.2.1 (C.2.2.2.2.2.1 _ hw) (va_AO.use (hK.2.2 Cn hao)) rfl hd rfl hx hb (by omega) (by omega) fun cA kA comp f1 f2 f3 f4 => ?_
  generalize hH1 : H.push ({ cls := cA, slots := Array.replicate x.toNatClampNeg .null, vm := .none } : Cell) = H1
  have z1 : H1.size = H.size + 1 := by rw [← hH1, Array.size_push]
  have e1 : H1[H.size]? = some (arrV cA x.toNatClampNeg (fun _ => .null)) := by rw [← hH1, Array.getElem?_push_size, ← arrV_new]
  have o1 : ∀ q : Nat, q < H.size → H1[q]? = H[q]? := fun q hq => by rw [← hH1, Array.getElem?_push, if_neg (Nat.ne_of_lt hq)]
  obtain ⟨kA', comp', g1, g2, g3, g4⟩ := (xtys_at hK hm).2
  have hcA : cA = G.2.1 (.object Cn) := Option.some.inj (f1.symm.trans g4)
  subst hcA
  have hgo := kk p e R s m args below meth c H1 locs (cells + 1) (slots + x.toNatClampNeg) ls Z C (by omega) (by omega) hL' hl (hR'.new (q := .inr (.object Cn, x.toNatClampNeg)) z1 o1 (by
    show H1[hz h]? = some (vp_cell (G.2.1 (.object Cn)) (x.toNatClampNeg, xrow (aN h (.inr (.object Cn, x.toNatClampNeg))) (hz h) (.object Cn)))
    rw [← hR'.1, e1]
    simp [xrow, vp_cell, hR'.1, aN_R, va_rf])) hr
  rw [← hR'.1] at hgo
  exact hgo
/-! tables -/
theorem xe_getsN {idx kst : Nat} {nm host : String} (hd : decode M.2.1 pc = .ok (.getstatic idx, 3)) (hk : (kst = 0 ∧ nm = "MOVE_UPPER") ∨ (kst = 1 ∧ nm = "MOVE_UNDER")) (hw : Cond.fieldLinkNest M.1.cls idx "SeldomOps" nm "[I" host ∈ xnest)
    (kk : xv G l M d k n (pc + 3) lv (.ref (G.2.2.2.1 kst) :: st) h Q) : xv G l M d k n pc lv st h Q := by
  intro p e R s m args below meth c H locs cells slots ls Z C hc hs hL' hl hR' hr
  have hlink : (Cond.fieldLinkNest M.1.cls idx "SeldomOps" nm "[I" host).before args s = true := va_Nw.use rfl (C.2.2.2.2.2.2.2.2.1.2.1 _ hw)
  have hZ : va_Z "SeldomOps" nm "[I" (.ref (G.2.2.2.1 kst)) (xA G) s H := by
    rcases hk with ⟨rfl, rfl⟩ | ⟨rfl, rfl⟩
    · exact hR'.2.2.2.2.1
    · exact hR'.2.2.2.2.2
  obtain ⟨cf, kf, fi, f, a, cell, h1, h2, h3, h4, h5, h6, h7, h8⟩ := hZ
  exact va_WgetsN C.1 C.2.1 C.2.2.2.2.1 hlink h1 h2 h3 h4 h5 (fun e => by rw [e] at h6; cases h6) h7 rfl hd (kk p e R s m args below meth c H locs cells slots ls Z C hc hs hL' hl hR' hr)
theorem xe_tald {kst : Nat} {i : Int32} (hd : decode M.2.1 pc = .ok (.iaload, 1)) (hk : kst < 3) (hin : vp_in i (stN G kst)) (kk : xv G l M d k n (pc + 1) lv (.int (stF G kst i.toNatClampNeg) :: st) h Q) : xv G l M d k n pc lv (.int i :: .ref (G.2.2.2.1 kst) :: st) h Q := by
  intro p e R s m args below meth c H locs cells slots ls Z C hc hs hL' hl hR' hr
  obtain ⟨cell, h1, h2, h3, h4, h5, h6, h7⟩ := hR'.2.2.2.1 kst hk
  have hlt : i.toNatClampNeg < stN G kst := Nat.not_le.mp fun q => hin (Or.inr q)
  have hin' : ¬ (i < 0 ∨ cell.slots.size ≤ i.toNatClampNeg) := by
    intro q
    rcases q with q | q
    · exact hin (Or.inl q)
    · omega
  exact W.iald (v := .int (stF G kst i.toNatClampNeg)) C.1 C.2.1 h1 h2 h3 hin' (h6 _ hlt) rfl rfl hd (kk p e R s m args below meth c H locs cells slots ls Z C hc hs hL' hl hR' hr)
theorem xe_tlen {kst : Nat} {v : Int32} (hd : decode M.2.1 pc = .ok (.arraylength, 1)) (hk : kst < 3) (hv : Int32.ofNat (stN G kst) = v) (kk : xv G l M d k n (pc + 1) lv (.int v :: st) h Q) : xv G l M d k n pc lv (.ref (G.2.2.2.1 kst) :: st) h Q := by
  intro p e R s m args below meth c H locs cells slots ls Z C hc hs hL' hl hR' hr
  obtain ⟨cell, h1, h2, h3, h4, h5, h6, h7⟩ := hR'.2.2.2.1 kst hk
  exact W.alen (n := v) C.1 C.2.1 h1 h2 (by rw [h5, hv]) rfl rfl hd (kk p e R s m args below meth c H locs cells slots ls Z C hc hs hL' hl hR' hr)
/-! the library's own -/
theorem xe_objInit {idx a : Nat} (hd : decode M.2.1 pc = .ok (.invokespecial idx, 3)) (hw : Cond.methodLink M.1.cls idx objectInit ∈ xws ∧ Cond.instanceMethod objectInit ∈ xws ∧ Cond.code objectInit ⟨#[0xb1]⟩ 1 none ∈ xws) (h1 : 1 ≤ d) (hst : (st.map fun v => v.category).sum ≤ 8) (kk : xv G l M d k n (pc + 3) lv st h Q) : xv G l M d k n pc lv (.ref a :: st) h Q := by
  intro p e R s m args below meth c H locs cells slots ls Z C hc hs hL' hl hR' hr
  have hts := C.2.2.2.2.2.1
  have hfr := C.2.2.2.2.2.2.2.2.2.1
  have hlo := C.2.2.2.2.2.2.2.2.2.2
  refine W.objInit C.1 C.2.1 C.2.2.2.2.1 (hts _ hw.1) (hts _ hw.2.1) (hts _ hw.2.2) rfl (by show ls.size = c.maxLocals; rw [C.2.2.2.1]; exact hl.1) rfl hd (by omega) (by show 2 * 0 + _ + 12 ≤ _; omega) ?_
  exact kk p e R s m args below meth c H locs cells slots ls Z C hc hs hL' hl hR' hr
theorem xe_mmax {idx : Nat} {x y : Int32} (hd : decode M.2.1 pc = .ok (.invokestatic idx, 3)) (hw : Cond.methodLink M.1.cls idx Lib.Math.max.name ∈ xws ∧ Cond.static Lib.Math.max.name ∈ xws ∧ Cond.initialized "java/lang/Math" ∈ xws ∧ Cond.code Lib.Math.max.name Lib.Math.max.code 2 (some .int) ∈ xws) (h1 : 1 ≤ d) (hst : (st.map fun v => v.category).sum ≤ 8)
    (kk : xv G l M d k n (pc + 3) lv (.int (if x < y then y else x) :: st) h Q) : xv G l M d k n pc lv (.int y :: .int x :: st) h Q := by
  intro p e R s m args below meth c H locs cells slots ls Z C hc hs hL' hl hR' hr
  have hts := C.2.2.2.2.2.1
  have hfr := C.2.2.2.2.2.2.2.2.2.1
  have hlo := C.2.2.2.2.2.2.2.2.2.2
  exact va_mmax C.1 C.2.1 (by rw [C.2.2.2.1, hl.1]) C.2.2.2.2.1 (hts _ hw.1) (hts _ hw.2.1) (hts _ hw.2.2.1) (hts _ hw.2.2.2) (by omega) (by omega) (by omega) (by omega) hd (kk p e R s m args below meth c H locs cells slots ls Z C hc hs hL' hl hR' hr)
theorem xe_mmin {idx : Nat} {x y : Int32} (hd : decode M.2.1 pc = .ok (.invokestatic idx, 3)) (hw : Cond.methodLink M.1.cls idx Lib.Math.min.name ∈ xws ∧ Cond.static Lib.Math.min.name ∈ xws ∧ Cond.initialized "java/lang/Math" ∈ xws ∧ Cond.code Lib.Math.min.name Lib.Math.min.code 2 (some .int) ∈ xws) (h1 : 1 ≤ d) (hst : (st.map fun v => v.category).sum ≤ 8)
    (kk : xv G l M d k n (pc + 3) lv (.int (if y < x then y else x) :: st) h Q) : xv G l M d k n pc lv (.int y :: .int x :: st) h Q := by
  intro p e R s m args below meth c H locs cells slots ls Z C hc hs hL' hl hR' hr
  have hts := C.2.2.2.2.2.1
  have hfr := C.2.2.2.2.2.2.2.2.2.1
  have hlo := C.2.2.2.2.2.2.2.2.2.2
  exact va_mmin C.1 C.2.1 (by rw [C.2.2.2.1, hl.1]) C.2.2.2.2.1 (hts _ hw.1) (hts _ hw.2.1) (hts _ hw.2.2.1) (hts _ hw.2.2.2) (by omega) (by omega) (by omega) (by omega) hd (kk p e R s m args below meth c H locs cells slots ls Z C hc hs hL' hl hR' hr)
theorem x_nn (z : Int32) (hz : ¬ z < 0) : z.toInt = (z.toNatClampNeg : Int) := by
  have hz0 : (0 : Int) ≤ z.toInt := by
    have := Int32.not_lt.mp hz
    simpa using Int32.le_iff_toInt_le.mp this
  show z.toInt = ((z.toInt.toNat : Nat) : Int)
  omega
/-- System.arraycopy between arrays of longs -/
theorem xe_copyL {idx a0 a n0 n1 : Nat} {sp dp x : Int32} (hd : decode M.2.1 pc = .ok (.invokestatic idx, 3)) (hw : Cond.methodLink M.1.cls idx arraycopyName ∈ xws ∧ Cond.native arraycopyName ∈ xws ∧ Cond.static arraycopyName ∈ xws ∧ Cond.initialized "java/lang/System" ∈ xws) (h1 : 1 ≤ d) (hst : (st.map fun v => v.category).sum ≤ 8)
    (hT0 : hT h a0 = some (.inr (.long, n0))) (hT1 : hT h a = some (.inr (.long, n1))) (hsp : ¬ sp < 0) (hdp : ¬ dp < 0) (hx : ¬ x < 0) (h4 : sp.toNatClampNeg + x.toNatClampNeg ≤ n0) (h5 : dp.toNatClampNeg + x.toNatClampNeg ≤ n1)
    (kk : xv G l M d k n (pc + 3) lv st (wLr h a (va_cpy (hL h a0) (hL h a) sp.toNatClampNeg dp.toNatClampNeg x.toNatClampNeg)) Q) : xv G l M d k n pc lv (.int x :: .int dp :: .ref a :: .int sp :: .ref a0 :: st) h Q := by
  intro p e R s m args below meth c H locs cells slots ls Z C hc hs hL' hl hR' hr
  have hts := C.2.2.2.2.2.1
  have hfr := C.2.2.2.2.2.2.2.2.2.1
  have hlo := C.2.2.2.2.2.2.2.2.2.2
  have hK := C.2.2.2.2.2.2.2.2.1
  obtain ⟨-, hc0'⟩ := hR'.2.2.1 a0 _ hT0
  have hc0 : H[a0]? = some (vp_cell (G.2.1 .long) (n0, .inr (.inl (hL h a0)))) := hc0'
  obtain ⟨hA, hc1'⟩ := hR'.2.2.1 a _ hT1
  have hc1 : H[a]? = some (vp_cell (G.2.1 .long) (n1, .inr (.inl (hL h a)))) := hc1'
  have hmem : FieldType.long ∈ xtys := by decide
  obtain ⟨-, k0, hk0, cm0, hkk0⟩ := (xtys_at hK hmem).1 n0 (fun j => .long (hL h a0 j))
  obtain ⟨-, k1, hk1, cm1, hkk1⟩ := (xtys_at hK hmem).1 n1 (fun j => .long (hL h a j))
  intro T hT X
  obtain ⟨vm', X', step⟩ := X.arraycopy C.1 C.2.2.2.2.1 (hts _ hw.1) (hts _ hw.2.1) (hts _ hw.2.2.1) (hts _ hw.2.2.2) (src := a0) (dst := a) (cs := vp_cell (G.2.1 .long) (n0, .inr (.inl (hL h a0)))) (cd := vp_cell (G.2.1 .long) (n1, .inr (.inl (hL h a)))) (srcPos := sp) (destPos := dp) (n := x) (by rw [hT]; exact hc0) (by rw [hT]; exact hc1)
    (fun _ h => by cases h) (fun _ h => by cases h) (fun h => by cases h) (fun h => by cases h) hk0 hk1 hkk0 hkk1 rfl hsp hdp hx
    (by rw [x_nn sp hsp, x_nn x hx]; show ¬ _ > ((arrV _ n0 (fun j => .long (hL h a0 j))).slots.size : Int); rw [arrV_size]; omega)
    (by rw [x_nn dp hdp, x_nn x hx]; show ¬ _ > ((arrV _ n1 (fun j => .long (hL h a j))).slots.size : Int); rw [arrV_size]; omega)
    (fun vm₁ _ i hi => by
      have e : (vp_cell (G.2.1 .long) (n0, .inr (.inl (hL h a0)))).slots.getD (sp.toNatClampNeg + i) .null = .long (hL h a0 (sp.toNatClampNeg + i)) := by
        show (arrV _ n0 (fun j => .long (hL h a0 j))).slots.getD _ _ = _
        rw [Array.getD_eq_getD_getElem?, arrV_read _ _ (by omega)]
        rfl
      refine ⟨?_, ?_⟩
      · rw [e]; rfl
      · rw [e]; exact trivial)
    (g := F0 m pc ls (.int x :: .int dp :: .ref a :: .int sp :: .ref a0 :: st)) rfl (by rw [C.2.2.2.1]; exact hl.1) (rest := st) rfl (by rw [C.2.1]; exact hd) (by omega) (by show 2 * 0 + _ + (5 + 2 + 11) ≤ _; omega)
  rw [show copied (vp_cell (G.2.1 .long) (n0, .inr (.inl (hL h a0)))) (vp_cell (G.2.1 .long) (n1, .inr (.inl (hL h a)))) sp dp x = vp_cell (G.2.1 .long) (n1, .inr (.inl (va_cpy (hL h a0) (hL h a) sp.toNatClampNeg dp.toNatClampNeg x.toNatClampNeg))) from va_copied (fun z => .long z) _ _ (hL h a0) (hL h a) h4] at X' step
  have hl0 : a < H.size := (Array.getElem?_eq_some_iff.mp hc1).1
  generalize hrow : va_cpy (hL h a0) (hL h a) sp.toNatClampNeg dp.toNatClampNeg x.toNatClampNeg = row at X' step kk
  have oq : ∀ q : Nat, q ≠ a → (H.setIfInBounds a (vp_cell (G.2.1 .long) (n1, .inr (.inl row))))[q]? = H[q]? := fun q hq => by simp [Array.getElem?_setIfInBounds, Ne.symm hq]
  have e1 : (H.setIfInBounds a (vp_cell (G.2.1 .long) (n1, .inr (.inl row))))[a]? = some (vp_cell (G.2.1 .long) (n1, .inr (.inl row))) := by simp [Array.getElem?_setIfInBounds, hl0]
  have hheap : ((T.setVm vm').setCell a (vp_cell (G.2.1 .long) (n1, .inr (.inl row)))).heap = H.setIfInBounds a (vp_cell (G.2.1 .long) (n1, .inr (.inl row))) := by rw [← hT]; rfl
  have hR2 : xR G (wLr h a row) s (H.setIfInBounds a (vp_cell (G.2.1 .long) (n1, .inr (.inl row)))) := hR'.put (g := wLr h a row) hT1 rfl rfl (fun _ _ => rfl) (fun b hb => upr_ne hb) (fun _ _ => rfl) (by simp) oq (by
    show (H.setIfInBounds a (vp_cell (G.2.1 .long) (n1, .inr (.inl row))))[a]? = some (vp_cell (G.2.1 .long) (n1, .inr (.inl (hL (wLr h a row) a))))
    rw [e1, show hL (wLr h a row) a = row from upr_eq])
  obtain ⟨t, a1, b1⟩ := kk p e R s m args below meth c _ _ cells slots ls Z C hc hs (fun q hq => by
      rcases List.mem_append.mp hq with h | h
      · exact hL' q h
      · obtain ⟨z, -, hz⟩ := List.mem_map.mp h
        rw [← hz]
        exact hA) hl hR2 hr _ hheap X'
  exact ⟨t, step t a1, b1⟩
/-! calls -/
theorem x_blind {av : List Value} : FrameBlind (va_Pc av (fun U => xK G U ∧ xR G h U U.heap)) := fun a U g mk q => ⟨q.1, xK.warm (U := U.calling g mk a) (State.WarmedH.refl U) q.2.1, xR.moved (u := U) (U := U.calling g mk a) (Vm.Alike.refl U.vm) q.2.2⟩
theorem x_good {M1 : xM} (h1 : Cond.code M1.1 M1.2.1 M1.2.2.1 M1.2.2.2 ∈ xws) : GoodIn xws (xwm M1) := fun w hw => by
  rcases List.mem_cons.mp hw with rfl | hw
  · exact ⟨h1, good_of_word (xws_good _ h1)⟩
  · exact ⟨hw, good_of_word (xws_good _ hw)⟩
/-- behind a call -/
theorem x_back {p : Program} {e : Env} {R : Room} {s : State} {m : MethodId} {args : Array Value} {below : List Frame} {meth : Method} {c : Code} {H : Heap} {locs : List Loc} {cells slots : Nat} {ls : Array Slot} {Z : State → Prop} {k1 n1 : Nat} {rest : List Value} {Q1 : xPost} {av : Array Value}
    (C : xC G M d p R s m args meth c) (hc : cells + (k1 + k) ≤ R.cells) (hs : slots + (n1 + n) ≤ R.slots) (hL' : ∀ q ∈ locs, gB G ≤ q.base) (hl : xhas ls M.2.2.1 lv)
    (hr : ∀ (v : Option Value) (h' : Hp) (H' : Heap) (locs' : List Loc) (pc' : Nat) (ls' : Array Slot) (i : Instr), Q v h' → xR G h' s H' → (∀ q ∈ locs', gB G ≤ q.base) → decode M.2.1 pc' = .ok (i, 1) → xRet i v → W p l e R s m args below meth c H' locs' R.cells R.slots Z (F0 m pc' ls' v.toList))
    (hrun : va_Run p l e R s m args below meth c H locs cells slots k1 n1 (F0 m pc ls st) rest (xQ G Q1 av) (xA G))
    (kk : ∀ v h', Q1 v h' → xv G l M d k n (pc + 3) lv (v.toList ++ rest) h' Q) : W p l e R s m args below meth c H locs cells slots Z (F0 m pc ls st) := by
  intro T hT X
  obtain ⟨v, st₀, t, T', L, h0, X', hL, e1, e2, ⟨v', h', hv, hq, hK', hR'⟩, stp⟩ := hrun T hT X
  cases hv
  have hal : t.vm.Alike s.vm := by rw [← e2]; exact X'.warmed.alike.symm
  obtain ⟨t2, a1, b1⟩ := kk v h' hq p e R s m args below meth c t.heap (locs ++ L) (cells + k1) (slots + n1) ls Z C (by omega) (by omega) (fun q hq => by
      rcases List.mem_append.mp hq with h | h
      · exact hL' q h
      · exact hL q h) hl (hR'.moved hal) hr T' e1 X'
  exact ⟨t2, stp t2 a1, b1⟩
theorem x_room {R : Room} {d1 k1 n1 maxL : Nat} (h1 : d1 + 1 ≤ d) (hf : d ≤ R.frames) (hlo : d * 64 ≤ R.locals) (hm : maxL ≤ 45) : (xrm d1 k1 n1).frames + 1 ≤ R.frames ∧ 8 + (maxL + 11) + (xrm d1 k1 n1).locals ≤ R.locals := by
  constructor
  · show d1 + 1 ≤ _; omega
  · show 8 + (maxL + 11) + d1 * 64 ≤ _; omega
theorem x_mon {m : MethodId} {ls : Array Slot} {rest : List Value} {st' : List Value} (h : (rest.map fun v => v.category).sum ≤ 8) : 2 * (F0 m pc ls st').monitorRoom + (rest.map fun v => v.category).sum ≤ 8 := by
  show 2 * 0 + _ ≤ 8
  omega
theorem xe_callV {M1 : xM} {d1 k1 n1 idx na b ci N : Nat} {T : u_T} {As rest : List Value} {Q1 : xPost} (hd : decode M.2.1 pc = .ok (.invokevirtual idx, 3)) (hm : xmk M1 na) (hlk : Cond.methodLink M.1.cls idx M1.1 ∈ xws ∧ Cond.instanceMethod M1.1 ∈ xws ∧ Cond.selects M1.1.cls M1.1 M1.1 ∈ xws) (hci : vwCl[ci]? = some (M1.1.cls, T, N)) (hT0 : hT h b = some (.inl ci))
    (hc1 : xc G l M1 d1 k1 n1 (.ref b :: As) h Q1) (hd1 : d1 + 1 ≤ d) (hrest : (rest.map fun v => v.category).sum ≤ 8) (hlen : As.length = na) (hst : st = As.reverse ++ .ref b :: rest) (kk : ∀ v h', Q1 v h' → xv G l M d k n (pc + 3) lv (v.toList ++ rest) h' Q) : xv G l M d (k1 + k) (n1 + n) pc lv st h Q := by
  intro p e R s m args below meth c H locs cells slots ls Z C hc hs hL' hl hR' hr
  have hts := C.2.2.2.2.2.1
  have hK := C.2.2.2.2.2.2.2.2.1
  obtain ⟨m1, m2, m3, m4⟩ := hm
  have hat := (hR'.2.2.1 b _ hT0).2
  obtain ⟨r, hr1, cellB, g1, g2, g3, -⟩ := hat
  have hrm := x_room (k1 := k1) (n1 := n1) hd1 C.2.2.2.2.2.2.2.2.2.1 C.2.2.2.2.2.2.2.2.2.2 m4
  have cw : CallW R s args M.1.cls M1.1.cls idx M1.1 M1.2.1 M1.2.2.1 M1.2.2.2 (xwm M1) (xrm d1 k1 n1) k1 n1 na := ⟨callB_of na hts (x_good m1) rfl rfl rfl (hts _ m2) (hts _ hlk.1) m3 hrm, hts _ hlk.2.1, hts _ hlk.2.2⟩
  exact x_back C hc hs hL' hl hr (va_runV (n := na) (As := As) (rest := rest) ⟨C.1, C.2.1, C.2.2.2.1, C.2.2.2.2.1, hts⟩ hc1 cw ⟨x_blind, ⟨cellB, g1, by rw [g3]; rfl, by rw [g2]; exact (hK.1.1 ci _ hci).2.1⟩, fun U hU hW => ⟨rfl, hK.warm hW, by rw [hU]; exact hR'.moved hW.alike⟩⟩ rfl hlen hl.1 hst (x_mon hrest) hd ⟨by omega, by omega⟩) kk
theorem xe_callS {M1 : xM} {d1 k1 n1 idx na : Nat} {As rest : List Value} {Q1 : xPost} (hd : decode M.2.1 pc = .ok (.invokestatic idx, 3)) (hm : xmk M1 na) (hlk : Cond.methodLink M.1.cls idx M1.1 ∈ xws ∧ Cond.static M1.1 ∈ xws)
    (hc1 : xc G l M1 d1 k1 n1 As h Q1) (hd1 : d1 + 1 ≤ d) (hrest : (rest.map fun v => v.category).sum ≤ 8) (hlen : As.length = na) (hst : st = As.reverse ++ rest) (kk : ∀ v h', Q1 v h' → xv G l M d k n (pc + 3) lv (v.toList ++ rest) h' Q) : xv G l M d (k1 + k) (n1 + n) pc lv st h Q := by
  intro p e R s m args below meth c H locs cells slots ls Z C hc hs hL' hl hR' hr
  have hts := C.2.2.2.2.2.1
  have hK := C.2.2.2.2.2.2.2.2.1
  obtain ⟨m1, m2, m3, m4⟩ := hm
  have hrm := x_room (k1 := k1) (n1 := n1) hd1 C.2.2.2.2.2.2.2.2.2.1 C.2.2.2.2.2.2.2.2.2.2 m4
  exact x_back C hc hs hL' hl hr (va_runS (n := na) (As := As) (rest := rest) ⟨C.1, C.2.1, C.2.2.2.1, C.2.2.2.2.1, hts⟩ hc1 ⟨callB_of na hts (x_good m1) rfl rfl rfl (hts _ m2) (hts _ hlk.1) m3 hrm, hts _ hlk.2⟩ ⟨x_blind, fun U hU hW => ⟨rfl, hK.warm hW, by rw [hU]; exact hR'.moved hW.alike⟩⟩ rfl hlen hl.1 hst (x_mon hrest) hd ⟨by omega, by omega⟩) kk
theorem xe_callSN {M1 : xM} {d1 k1 n1 idx na : Nat} {host : String} {As rest : List Value} {Q1 : xPost} (hd : decode M.2.1 pc = .ok (.invokestatic idx, 3)) (hm : xmk M1 na) (hlk : Cond.methodLinkNest M.1.cls idx M1.1 host ∈ xnest ∧ Cond.static M1.1 ∈ xws)
    (hc1 : xc G l M1 d1 k1 n1 As h Q1) (hd1 : d1 + 1 ≤ d) (hrest : (rest.map fun v => v.category).sum ≤ 8) (hlen : As.length = na) (hst : st = As.reverse ++ rest) (kk : ∀ v h', Q1 v h' → xv G l M d k n (pc + 3) lv (v.toList ++ rest) h' Q) : xv G l M d (k1 + k) (n1 + n) pc lv st h Q := by
  intro p e R s m args below meth c H locs cells slots ls Z C hc hs hL' hl hR' hr
  have hts := C.2.2.2.2.2.1
  have hK := C.2.2.2.2.2.2.2.2.1
  obtain ⟨m1, m2, m3, m4⟩ := hm
  have hrm := x_room (k1 := k1) (n1 := n1) hd1 C.2.2.2.2.2.2.2.2.2.1 C.2.2.2.2.2.2.2.2.2.2 m4
  exact x_back C hc hs hL' hl hr (va_runSN (n := na) (As := As) (rest := rest) ⟨C.1, C.2.1, C.2.2.2.1, C.2.2.2.2.1, hts⟩ hc1 ⟨va_cnB na hts (x_good m1) rfl rfl rfl (hK.2.1 _ hlk.1) (hts _ m2) m3 hrm, hts _ hlk.2, trivial⟩ ⟨x_blind, fun U hU hW => ⟨rfl, hK.warm hW, by rw [hU]; exact hR'.moved hW.alike⟩⟩ rfl hlen hl.1 hst (x_mon hrest) hd ⟨by omega, by omega⟩) kk
theorem xe_callI {M1 : xM} {d1 k1 n1 idx na b : Nat} {As rest : List Value} {Q1 : xPost} (hd : decode M.2.1 pc = .ok (.invokespecial idx, 3)) (hm : xmk M1 na) (hni : M1.1.name = "<init>" ∧ M1.2.2.2 = none) (hlk : Cond.methodLink M.1.cls idx M1.1 ∈ xws ∧ Cond.instanceMethod M1.1 ∈ xws)
    (hc1 : xc G l M1 d1 k1 n1 (.ref b :: As) h Q1) (hd1 : d1 + 1 ≤ d) (hrest : (rest.map fun v => v.category).sum ≤ 8) (hlen : As.length = na) (hst : st = As.reverse ++ .ref b :: rest) (kk : ∀ v h', Q1 v h' → xv G l M d k n (pc + 3) lv (v.toList ++ rest) h' Q) : xv G l M d (k1 + k) (n1 + n) pc lv st h Q := by
  intro p e R s m args below meth c H locs cells slots ls Z C hc hs hL' hl hR' hr
  have hts := C.2.2.2.2.2.1
  have hK := C.2.2.2.2.2.2.2.2.1
  obtain ⟨m1, m2, m3, m4⟩ := hm
  have hrm := x_room (k1 := k1) (n1 := n1) hd1 C.2.2.2.2.2.2.2.2.2.1 C.2.2.2.2.2.2.2.2.2.2 m4
  have cb : CallB R s args M.1.cls idx M1.1 M1.2.1 M1.2.2.1 none (xwm M1) (xrm d1 k1 n1) k1 n1 na := callB_of na hts (x_good m1) (by rw [← hni.2]; rfl) rfl rfl (hts _ m2) (hts _ hlk.1) m3 hrm
  exact x_back C hc hs hL' hl hr (va_runI (n := na) (As := As) (rest := rest) ⟨C.1, C.2.1, C.2.2.2.1, C.2.2.2.2.1, hts⟩ hc1 ⟨cb, hni.1, hts _ hlk.2⟩ ⟨x_blind, fun U hU hW => ⟨rfl, hK.warm hW, by rw [hU]; exact hR'.moved hW.alike⟩⟩ rfl hlen hl.1 hst (x_mon hrest) hd ⟨by omega, by omega⟩) kk
theorem xe_callIN {M1 : xM} {d1 k1 n1 idx na b : Nat} {host : String} {As rest : List Value} {Q1 : xPost} (hd : decode M.2.1 pc = .ok (.invokespecial idx, 3)) (hm : xmk M1 na) (hni : M1.1.name = "<init>" ∧ M1.2.2.2 = none) (hlk : Cond.methodLinkNest M.1.cls idx M1.1 host ∈ xnest ∧ Cond.instanceMethod M1.1 ∈ xws)
    (hc1 : xc G l M1 d1 k1 n1 (.ref b :: As) h Q1) (hd1 : d1 + 1 ≤ d) (hrest : (rest.map fun v => v.category).sum ≤ 8) (hlen : As.length = na) (hst : st = As.reverse ++ .ref b :: rest) (kk : ∀ v h', Q1 v h' → xv G l M d k n (pc + 3) lv (v.toList ++ rest) h' Q) : xv G l M d (k1 + k) (n1 + n) pc lv st h Q := by
  intro p e R s m args below meth c H locs cells slots ls Z C hc hs hL' hl hR' hr
  have hts := C.2.2.2.2.2.1
  have hK := C.2.2.2.2.2.2.2.2.1
  obtain ⟨m1, m2, m3, m4⟩ := hm
  have hrm := x_room (k1 := k1) (n1 := n1) hd1 C.2.2.2.2.2.2.2.2.2.1 C.2.2.2.2.2.2.2.2.2.2 m4
  have cb : va_CN R s args M.1.cls idx M1.1 host M1.2.1 M1.2.2.1 none (xwm M1) (xrm d1 k1 n1) k1 n1 na := va_cnB na hts (x_good m1) (by rw [← hni.2]; rfl) rfl rfl (hK.2.1 _ hlk.1) (hts _ m2) m3 hrm
  exact x_back C hc hs hL' hl hr (va_runIN (n := na) (As := As) (rest := rest) ⟨C.1, C.2.1, C.2.2.2.1, C.2.2.2.2.1, hts⟩ hc1 ⟨cb, hni.1, hts _ hlk.2⟩ ⟨x_blind, fun U hU hW => ⟨rfl, hK.warm hW, by rw [hU]; exact hR'.moved hW.alike⟩⟩ rfl hlen hl.1 hst (x_mon hrest) hd ⟨by omega, by omega⟩) kk
end XN
