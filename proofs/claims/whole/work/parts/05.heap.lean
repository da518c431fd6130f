theorem hI_wI (h : Hp) (a k : Nat) (v : Int32) (b j : Nat) : hI (wI h a k v) b j = if b = a then (if j = k then v else hI h b j) else hI h b j := rfl
theorem hL_wL (h : Hp) (a k : Nat) (v : Int64) (b j : Nat) : hL (wL h a k v) b j = if b = a then (if j = k then v else hL h b j) else hL h b j := rfl
theorem hR_wR (h : Hp) (a k : Nat) (v : Option Nat) (b j : Nat) : hR (wR h a k v) b j = if b = a then (if j = k then v else hR h b j) else hR h b j := rfl
theorem xcl_lt {D : va_G} {a ci : Nat} {fs : List Value} {H : Heap} (h : va_at D vwCl (a, .inr (ci, fs)) H) : ci < 12 := by
  obtain ⟨r, h1, -⟩ := h
  exact (List.getElem?_eq_some_iff.mp h1).1
theorem xfs_get {h : Hp} {a ci f : Nat} (hf : f < xnf ci) : (xfs h a ci)[f]? = some (xval h a f (xty ci f)) := by
  simp [xfs, hf]
theorem xfs_len {h : Hp} {a ci : Nat} : (xfs h a ci).length = xnf ci := by simp [xfs]
theorem xfs_set {h g : Hp} {a ci f : Nat} {v : Value} (hf : f < xnf ci) (h0 : xval g a f (xty ci f) = v) (h1 : ∀ j, j ≠ f → xval g a j (xty ci j) = xval h a j (xty ci j)) : (xfs h a ci).set f v = xfs g a ci := by
  apply List.ext_getElem?
  intro j
  by_cases hj : j = f
  · subst hj
    rw [List.getElem?_set_self (by rw [xfs_len]; exact hf), xfs_get hf, h0]
  · rw [List.getElem?_set_ne (Ne.symm hj)]
    by_cases hl : j < xnf ci
    · rw [xfs_get hl, xfs_get hl, h1 j hj]
    · rw [List.getElem?_eq_none (by rw [xfs_len]; omega), List.getElem?_eq_none (by rw [xfs_len]; omega)]
theorem xval_wI {h : Hp} {a f : Nat} {x : Int32} {ty : FieldType} {j : Nat} (hj : j ≠ f) : xval (wI h a f x) a j ty = xval h a j ty := by
  unfold xval
  split <;> first | rfl | simp [hI_wI, hj]
theorem xval_wL {h : Hp} {a f : Nat} {x : Int64} {ty : FieldType} {j : Nat} (hj : j ≠ f) : xval (wL h a f x) a j ty = xval h a j ty := by
  unfold xval
  split <;> first | rfl | simp [hL_wL, hj]
theorem xval_wR {h : Hp} {a f : Nat} {x : Option Nat} {ty : FieldType} {j : Nat} (hj : j ≠ f) : xval (wR h a f x) a j ty = xval h a j ty := by
  unfold xval
  split <;> first | rfl | simp [hR_wR, hj]
section XH
variable {G : xG} {l : Launch} {M : xM} {d k n pc : Nat} {lv : xLv} {st : List Value} {h : Hp} {Q : xPost}
/-- a field is read -/
theorem xe_get {a idx ci f : Nat} {fin : Bool} {v : Value} (hd : decode M.2.1 pc = .ok (.getfield idx, 3)) (hf : xfl M.1.cls idx ci f fin) (hcl : xcl ci) (hT0 : hT h a = some (.inl ci)) (hv : xval h a f (xty ci f) = v) (kk : xv G l M d k n (pc + 3) lv (v :: st) h Q) : xv G l M d k n pc lv (.ref a :: st) h Q := by
  intro p e R s m args below meth c H locs cells slots ls Z C hc hs hL hl hR hr
  obtain ⟨Cn, T, N, hc1, hlt, hlk, hdecl, -⟩ := hf
  obtain ⟨C2, T2, N2, hc2, hN, hws, hty, hnm⟩ := hcl
  cases hc1.symm.trans hc2
  have hat := (hR.2.2.1 a _ hT0).2
  have hP : va_P G.1 vwCl [(a, .inr (ci, xfs h a ci))] H := fun j q hq => by
    cases j with
    | zero => cases hq; exact hat
    | succ j => cases hq
  exact va_get (D := G.1) (cl := vwCl) (tys := xtys.map fun t => (G.2.1 t, t)) C.1 C.2.1 C.2.2.2.2.2.1 hws C.2.2.2.2.1 C.2.2.2.2.2.2.2.2.1.1 hP 0 rfl hc1 f hlt (C.2.2.2.2.2.1 _ hlk) (fun x hx => by rw [hdecl] at hx; exact hx) (by rw [xfs_get (by omega), hv]) hd (kk p e R s m args below meth c H locs cells slots ls Z C hc hs hL hl hR hr)
/-- a field is written: what is common -/
theorem xw_put {p : Program} {e : Env} {R : Room} {s : State} {m : MethodId} {args : Array Value} {below : List Frame} {meth : Method} {c : Code} {H : Heap} {locs : List Loc} {cells slots : Nat} {ls : Array Slot} {Z : State → Prop} {a idx ci f : Nat} {fin : Bool} {v : Value}
    (C : xC G M d p R s m args meth c) (hd : decode M.2.1 pc = .ok (.putfield idx, 3)) (hf : xfl M.1.cls idx ci f fin) (hcl : xcl ci) (hfin : fin = true → M.1.name = "<init>" ∧ ∃ T N, vwCl[ci]? = some (M.1.cls, T, N)) (hat : va_at G.1 vwCl (a, .inr (ci, xfs h a ci)) H) (hn : narrow (xty ci f) v = v) (hfit : fits (xty ci f) v = true)
    (kk : ∀ (H1 : Heap) (slot : Nat), va_at G.1 vwCl (a, .inr (ci, (xfs h a ci).set f v)) H1 → H1.size = H.size → (∀ q : Nat, q ≠ a → H1[q]? = H[q]?) → W p l e R s m args below meth c H1 (locs ++ [⟨a, slot⟩]) cells slots Z (F0 m (pc + 3) ls st)) : W p l e R s m args below meth c H locs cells slots Z (F0 m pc ls (v :: .ref a :: st)) := by
  obtain ⟨Cn, T, N, hc1, hlt, hlk, hdecl, hfl⟩ := hf
  obtain ⟨C2, T2, N2, hc2, hN, hws, hty, hnm⟩ := hcl
  cases hc1.symm.trans hc2
  have hK := C.2.2.2.2.2.2.2.2.1.1
  have hts := C.2.2.2.2.2.1
  have hap := va_apart (own := M.1.cls) hts hws (xty ci) hty hnm hK hc1
  obtain ⟨r, h1, cell, q1, q2, q3, q4⟩ := hat
  have hr : r = (Cn, T, N) := Option.some.inj (h1.symm.trans hc1)
  subst hr
  obtain ⟨hS, hfc, kC, hkC, hkind⟩ := hK.1 ci _ hc1
  obtain ⟨cf, kf, fi, fd, hi, hsl⟩ := hS f hlt
  have hst := (u_facts hfc hkC (u_lays hts hws hlt) hi).1
  have hlink := hts _ hlk
  have hsame : s.fieldFound? Cn (T f).2.1 (T f).2.2.1 = some (cf, kf, fi, fd) := by rw [hdecl] at hi; exact hi
  have hlen : f < (xfs h a ci).length := by rw [xfs_len]; omega
  have fin2 : ∀ H' : Heap, H'[a]? = some (cell.setSlot fd.slot v) → H'.size = H.size → (∀ q, q ≠ a → H'[q]? = H[q]?) → W p l e R s m args below meth c H' (locs ++ [⟨a, fd.slot⟩]) cells slots Z (F0 m (pc + 3) ls st) := by
    intro H' e1 e2 e3
    rw [hsl] at e1
    exact kk H' fd.slot ⟨_, hc1, t_OB.to (V := updV (vp_V (xfs h a ci)) f v) ⟨_, e1, q2, q3, t_set q4 hap hlt v⟩ (fun j _ => vp_updV_set hlen v j)⟩ e2 e3
  cases fin with
  | false =>
    have hlay := hts _ (hws _ (u_in_lay hlt))
    unfold u_lay at hlay
    rw [if_neg (by rw [hfl]; decide)] at hlay
    have h6 := u_store hfc hkC hkind hlay hi (hty f hlt) hn hfit
    exact W.putK C.1 C.2.1 (f := fd) ⟨C.2.2.2.2.1, hlink, ⟨_, _, _, hsame⟩, hst⟩ (by rw [q2]; exact h6) q1 q3 (by rw [hsl]; exact k2_hasslot (q4 f hlt)) rfl rfl hd fin2
  | true =>
    have hlay := hts _ (hws _ (u_in_lay hlt))
    unfold u_lay at hlay
    rw [if_pos hfl] at hlay
    obtain ⟨hin, T', N', hown⟩ := hfin rfl
    have hcn : Cn = M.1.cls := by cases hown.symm.trans hc1; rfl
    have hcf : m.cls = cf := by
      obtain ⟨_, _, c', _, _, _, -, -, hf', -, -, -, hown2, -⟩ := Cond.laysFinal_spec hlay
      have e1 : c' = cf := by have := hi.symm.trans hf'; simp at this; exact this.1.symm
      rw [hdecl, hcn] at hown2
      rw [← e1]; exact Option.some.inj (C.2.2.2.2.1.symm.trans hown2)
    have h6 := u_fits hfc hkC hkind (Or.inr hlay) hi (hty f hlt) hn hfit
    exact W.putFinK C.1 C.2.1 C.2.2.2.2.1 hlink hsame hst hcf (C.2.2.2.2.2.2.2.1.trans hin) (by rw [q2]; exact h6) q1 q3 (by rw [hsl]; exact k2_hasslot (q4 f hlt)) rfl rfl hd fin2
theorem xlocs {locs : List Loc} {b a slot : Nat} (h : ∀ q ∈ locs, b ≤ q.base) (ha : b ≤ a) : ∀ q ∈ locs ++ [⟨a, slot⟩], b ≤ q.base := fun q hq => by
  rcases List.mem_append.mp hq with h1 | h1
  · exact h q h1
  · rw [List.mem_singleton.mp h1]; exact ha
theorem xe_putI {a idx ci f : Nat} {fin : Bool} {x : Int32} (hd : decode M.2.1 pc = .ok (.putfield idx, 3)) (hf : xfl M.1.cls idx ci f fin) (hcl : xcl ci) (hlt : f < xnf ci) (hfin : fin = true → M.1.name = "<init>" ∧ ∃ T N, vwCl[ci]? = some (M.1.cls, T, N)) (hT0 : hT h a = some (.inl ci)) (hx : xty ci f = .int ∨ (xty ci f = .boolean ∧ (x = 0 ∨ x = 1)))
    (kk : xv G l M d k n (pc + 3) lv st (wI h a f x) Q) : xv G l M d k n pc lv (.int x :: .ref a :: st) h Q := by
  intro p e R s m args below meth c H locs cells slots ls Z C hc hs hL hl hR hr
  have hat := (hR.2.2.1 a _ hT0)
  have hn : narrow (xty ci f) (.int x) = .int x := by rcases hx with e1 | ⟨e1, rfl | rfl⟩ <;> rw [e1] <;> rfl
  have hfit : fits (xty ci f) (.int x) = true := by rcases hx with e1 | ⟨e1, rfl | rfl⟩ <;> rw [e1] <;> rfl
  have hxv : xval (wI h a f x) a f (xty ci f) = .int x := by rcases hx with e1 | ⟨e1, rfl | rfl⟩ <;> rw [e1] <;> simp [xval, hI_wI]
  refine xw_put C hd hf hcl hfin hat.2 hn hfit (fun H1 slot e1 e2 e3 => ?_)
  refine kk p e R s m args below meth c H1 _ cells slots ls Z C hc hs (xlocs hL hat.1) hl (hR.put (g := wI h a f x) hT0 rfl rfl (fun b hb => up2_ne hb) (fun _ _ => rfl) (fun _ _ => rfl) e2 e3 ?_) hr
  rw [xfs_set (g := wI h a f x) hlt hxv (fun j hj => xval_wI hj)] at e1
  exact e1
theorem xe_putL {a idx ci f : Nat} {fin : Bool} {x : Int64} (hd : decode M.2.1 pc = .ok (.putfield idx, 3)) (hf : xfl M.1.cls idx ci f fin) (hcl : xcl ci) (hlt : f < xnf ci) (hfin : fin = true → M.1.name = "<init>" ∧ ∃ T N, vwCl[ci]? = some (M.1.cls, T, N)) (hT0 : hT h a = some (.inl ci)) (hx : xty ci f = .long)
    (kk : xv G l M d k n (pc + 3) lv st (wL h a f x) Q) : xv G l M d k n pc lv (.long x :: .ref a :: st) h Q := by
  intro p e R s m args below meth c H locs cells slots ls Z C hc hs hL hl hR hr
  have hat := (hR.2.2.1 a _ hT0)
  have hn : narrow (xty ci f) (.long x) = .long x := by rw [hx]; rfl
  have hfit : fits (xty ci f) (.long x) = true := by rw [hx]; rfl
  have hxv : xval (wL h a f x) a f (xty ci f) = .long x := by rw [hx]; simp [xval, hL_wL]
  refine xw_put C hd hf hcl hfin hat.2 hn hfit (fun H1 slot e1 e2 e3 => ?_)
  refine kk p e R s m args below meth c H1 _ cells slots ls Z C hc hs (xlocs hL hat.1) hl (hR.put (g := wL h a f x) hT0 rfl rfl (fun _ _ => rfl) (fun b hb => up2_ne hb) (fun _ _ => rfl) e2 e3 ?_) hr
  rw [xfs_set (g := wL h a f x) hlt hxv (fun j hj => xval_wL hj)] at e1
  exact e1
theorem xe_putR {a idx ci f : Nat} {fin : Bool} {x : Option Nat} (hd : decode M.2.1 pc = .ok (.putfield idx, 3)) (hf : xfl M.1.cls idx ci f fin) (hcl : xcl ci) (hlt : f < xnf ci) (hfin : fin = true → M.1.name = "<init>" ∧ ∃ T N, vwCl[ci]? = some (M.1.cls, T, N)) (hT0 : hT h a = some (.inl ci)) (hx : (∃ C, xty ci f = .object C) ∨ ∃ t, xty ci f = .array t)
    (kk : xv G l M d k n (pc + 3) lv st (wR h a f x) Q) : xv G l M d k n pc lv (va_rf x :: .ref a :: st) h Q := by
  intro p e R s m args below meth c H locs cells slots ls Z C hc hs hL hl hR hr
  have hat := (hR.2.2.1 a _ hT0)
  have hn : narrow (xty ci f) (va_rf x) = va_rf x := by rcases hx with ⟨t, e1⟩ | ⟨t, e1⟩ <;> rw [e1] <;> cases x <;> rfl
  have hfit : fits (xty ci f) (va_rf x) = true := by rcases hx with ⟨t, e1⟩ | ⟨t, e1⟩ <;> rw [e1] <;> cases x <;> rfl
  have hxv : xval (wR h a f x) a f (xty ci f) = va_rf x := by rcases hx with ⟨t, e1⟩ | ⟨t, e1⟩ <;> rw [e1] <;> simp [xval, hR_wR]
  refine xw_put C hd hf hcl hfin hat.2 hn hfit (fun H1 slot e1 e2 e3 => ?_)
  refine kk p e R s m args below meth c H1 _ cells slots ls Z C hc hs (xlocs hL hat.1) hl (hR.put (g := wR h a f x) hT0 rfl rfl (fun _ _ => rfl) (fun _ _ => rfl) (fun b hb => up2_ne hb) e2 e3 ?_) hr
  rw [xfs_set (g := wR h a f x) hlt hxv (fun j hj => xval_wR hj)] at e1
  exact e1
/-! arrays -/
theorem xtys_at {U : State} (hK : xK G U) {t : FieldType} (ht : t ∈ xtys) : ArrOfT U (G.2.1 t) t ∧ va_RA U (G.2.1 t) t := by
  obtain ⟨j, hj⟩ := List.getElem?_of_mem ht
  have := hK.1.2 j (G.2.1 t, t) (by rw [List.getElem?_map, hj]; rfl)
  exact this
theorem xe_iald {a nn : Nat} {i : Int32} (hd : decode M.2.1 pc = .ok (.iaload, 1)) (hT0 : hT h a = some (.inr (.int, nn))) (hin : vp_in i nn) (kk : xv G l M d k n (pc + 1) lv (.int (hI h a i.toNatClampNeg) :: st) h Q) : xv G l M d k n pc lv (.int i :: .ref a :: st) h Q := by
  intro p e R s m args below meth c H locs cells slots ls Z C hc hs hL hl hR hr
  have hat : H[a]? = some (vp_cell (G.2.1 .int) (nn, .inl (hI h a))) := (hR.2.2.1 a _ hT0).2
  have hlt : i.toNatClampNeg < nn := Nat.not_le.mp fun q => hin (Or.inr q)
  exact W.iald (v := .int (hI h a i.toNatClampNeg)) C.1 C.2.1 hat ((xtys_at C.2.2.2.2.2.2.2.2.1 (t := .int) (by decide)).1 nn (fun j => .int (hI h a j))) (fun q => by cases q) (by show ¬ (i < 0 ∨ (arrV _ _ _).slots.size ≤ _); rw [arrV_size]; exact hin) (by show (arrV _ _ _).slots[_]? = _; rw [arrV_read _ _ hlt]) rfl rfl hd (kk p e R s m args below meth c H locs cells slots ls Z C hc hs hL hl hR hr)
theorem xe_zald {a nn : Nat} {i : Int32} (hd : decode M.2.1 pc = .ok (.baload, 1)) (hT0 : hT h a = some (.inr (.boolean, nn))) (hin : vp_in i nn) (kk : xv G l M d k n (pc + 1) lv (.int (hI h a i.toNatClampNeg) :: st) h Q) : xv G l M d k n pc lv (.int i :: .ref a :: st) h Q := by
  intro p e R s m args below meth c H locs cells slots ls Z C hc hs hL hl hR hr
  have hat : H[a]? = some (vp_cell (G.2.1 .boolean) (nn, .inl (hI h a))) := (hR.2.2.1 a _ hT0).2
  have hlt : i.toNatClampNeg < nn := Nat.not_le.mp fun q => hin (Or.inr q)
  exact W.zald (v := .int (hI h a i.toNatClampNeg)) C.1 C.2.1 hat ((xtys_at C.2.2.2.2.2.2.2.2.1 (t := .boolean) (by decide)).1 nn (fun j => .int (hI h a j))) (fun q => by cases q) (by show ¬ (i < 0 ∨ (arrV _ _ _).slots.size ≤ _); rw [arrV_size]; exact hin) (by show (arrV _ _ _).slots[_]? = _; rw [arrV_read _ _ hlt]) rfl rfl hd (kk p e R s m args below meth c H locs cells slots ls Z C hc hs hL hl hR hr)
theorem xe_lald {a nn : Nat} {i : Int32} (hd : decode M.2.1 pc = .ok (.laload, 1)) (hT0 : hT h a = some (.inr (.long, nn))) (hin : vp_in i nn) (kk : xv G l M d k n (pc + 1) lv (.long (hL h a i.toNatClampNeg) :: st) h Q) : xv G l M d k n pc lv (.int i :: .ref a :: st) h Q := by
  intro p e R s m args below meth c H locs cells slots ls Z C hc hs hL' hl hR hr
  have hat : H[a]? = some (vp_cell (G.2.1 .long) (nn, .inr (.inl (hL h a)))) := (hR.2.2.1 a _ hT0).2
  have hlt : i.toNatClampNeg < nn := Nat.not_le.mp fun q => hin (Or.inr q)
  exact W.lald (v := .long (hL h a i.toNatClampNeg)) C.1 C.2.1 hat ((xtys_at C.2.2.2.2.2.2.2.2.1 (t := .long) (by decide)).1 nn (fun j => .long (hL h a j))) (fun q => by cases q) (by show ¬ (i < 0 ∨ (arrV _ _ _).slots.size ≤ _); rw [arrV_size]; exact hin) (by show (arrV _ _ _).slots[_]? = _; rw [arrV_read _ _ hlt]) rfl rfl hd (kk p e R s m args below meth c H locs cells slots ls Z C hc hs hL' hl hR hr)
theorem xe_aald {a nn : Nat} {i : Int32} {Cn : String} (hd : decode M.2.1 pc = .ok (.aaload, 1)) (hT0 : hT h a = some (.inr (.object Cn, nn))) (hC : FieldType.object Cn ∈ xtys) (hin : vp_in i nn) (kk : xv G l M d k n (pc + 1) lv (va_rf (hR h a i.toNatClampNeg) :: st) h Q) : xv G l M d k n pc lv (.int i :: .ref a :: st) h Q := by
  intro p e R s m args below meth c H locs cells slots ls Z C hc hs hL' hl hR' hr
  have hat : H[a]? = some (vp_cell (G.2.1 (.object Cn)) (nn, .inr (.inr (.inr (.inr (hR h a)))))) := (hR'.2.2.1 a _ hT0).2
  have hlt : i.toNatClampNeg < nn := Nat.not_le.mp fun q => hin (Or.inr q)
  exact W.aald (v := va_rf (hR h a i.toNatClampNeg)) (ty := .object Cn) C.1 C.2.1 hat ((xtys_at C.2.2.2.2.2.2.2.2.1 hC).1 nn (fun j => va_rf (hR h a j))) rfl (fun q => by cases q) (by show ¬ (i < 0 ∨ (arrV _ _ _).slots.size ≤ _); rw [arrV_size]; exact hin) (by show (arrV _ _ _).slots[_]? = _; rw [arrV_read _ _ hlt]) rfl rfl hd (kk p e R s m args below meth c H locs cells slots ls Z C hc hs hL' hl hR' hr)
theorem xe_alen {a nn : Nat} {t : FieldType} {v : Int32} (hd : decode M.2.1 pc = .ok (.arraylength, 1)) (hT0 : hT h a = some (.inr (t, nn))) (ht : t ∈ xtys) (hv : Int32.ofNat nn = v) (kk : xv G l M d k n (pc + 1) lv (.int v :: st) h Q) : xv G l M d k n pc lv (.ref a :: st) h Q := by
  intro p e R s m args below meth c H locs cells slots ls Z C hc hs hL' hl hR' hr
  have hat : va_at G.1 vwCl (a, .inl (G.2.1 t, nn, xrow h a t)) H := (hR'.2.2.1 a _ hT0).2
  have hP : va_P G.1 vwCl [(a, .inl (G.2.1 t, nn, xrow h a t))] H := fun j q hq => by
    cases j with
    | zero => cases hq; exact hat
    | succ j => cases hq
  obtain ⟨j, hj⟩ := List.getElem?_of_mem ht
  exact va_alen (D := G.1) (cl := vwCl) (tys := xtys.map fun t => (G.2.1 t, t)) C.1 C.2.1 C.2.2.2.2.2.2.2.2.1.1 hP 0 j rfl (by rw [List.getElem?_map, hj]; rfl) hv hd (kk p e R s m args below meth c H locs cells slots ls Z C hc hs hL' hl hR' hr)
theorem xupd_eq (f : Nat → Int32) (mk : Int32 → Value) (i : Nat) (x : Int32) : updV (fun j => mk (f j)) i (mk x) = fun j => mk (if j = i then x else f j) := by
  funext q
  by_cases hq : q = i
  · simp [updV, hq]
  · simp [updV, hq]
theorem xe_iast {a nn : Nat} {i x : Int32} (hd : decode M.2.1 pc = .ok (.iastore, 1)) (hT0 : hT h a = some (.inr (.int, nn))) (hin : vp_in i nn) (kk : xv G l M d k n (pc + 1) lv st (wI h a i.toNatClampNeg x) Q) : xv G l M d k n pc lv (.int x :: .int i :: .ref a :: st) h Q := by
  intro p e R s m args below meth c H locs cells slots ls Z C hc hs hL hl hR hr
  obtain ⟨hA, hat0⟩ := hR.2.2.1 a _ hT0
  have hat : H[a]? = some (vp_cell (G.2.1 .int) (nn, .inl (hI h a))) := hat0
  refine W.iast C.1 C.2.1 hat ((xtys_at C.2.2.2.2.2.2.2.2.1 (t := .int) (by decide)).1 nn (fun j => .int (hI h a j))) (fun q => by cases q) (by show ¬ (i < 0 ∨ (arrV _ _ _).slots.size ≤ _); rw [arrV_size]; exact hin) rfl rfl hd fun H1 e1 z oq => ?_
  refine kk p e R s m args below meth c H1 _ cells slots ls Z C hc hs (xlocs hL hA) hl (hR.put (g := wI h a i.toNatClampNeg x) hT0 rfl rfl (fun b hb => up2_ne hb) (fun _ _ => rfl) (fun _ _ => rfl) z oq ?_) hr
  show H1[a]? = some (vp_cell (G.2.1 .int) (nn, .inl (hI (wI h a i.toNatClampNeg x) a)))
  rw [e1, vp_cell_i, vp_cell_i, arrV_store, xupd_eq]
  congr 2
  funext j
  simp [hI_wI]
theorem xe_zast {a nn : Nat} {i x : Int32} (hd : decode M.2.1 pc = .ok (.bastore, 1)) (hT0 : hT h a = some (.inr (.boolean, nn))) (hin : vp_in i nn) (hx : x = 0 ∨ x = 1) (kk : xv G l M d k n (pc + 1) lv st (wI h a i.toNatClampNeg x) Q) : xv G l M d k n pc lv (.int x :: .int i :: .ref a :: st) h Q := by
  intro p e R s m args below meth c H locs cells slots ls Z C hc hs hL hl hR hr
  obtain ⟨hA, hat0⟩ := hR.2.2.1 a _ hT0
  have hat : H[a]? = some (vp_cell (G.2.1 .boolean) (nn, .inl (hI h a))) := hat0
  refine W.zast C.1 C.2.1 hat ((xtys_at C.2.2.2.2.2.2.2.2.1 (t := .boolean) (by decide)).1 nn (fun j => .int (hI h a j))) (fun q => by cases q) (by show ¬ (i < 0 ∨ (arrV _ _ _).slots.size ≤ _); rw [arrV_size]; exact hin) rfl rfl hd fun H1 e1 z oq => ?_
  have hnx : narrow .boolean (.int x) = .int x := by rcases hx with rfl | rfl <;> rfl
  rw [hnx] at e1
  refine kk p e R s m args below meth c H1 _ cells slots ls Z C hc hs (xlocs hL hA) hl (hR.put (g := wI h a i.toNatClampNeg x) hT0 rfl rfl (fun b hb => up2_ne hb) (fun _ _ => rfl) (fun _ _ => rfl) z oq ?_) hr
  show H1[a]? = some (vp_cell (G.2.1 .boolean) (nn, .inl (hI (wI h a i.toNatClampNeg x) a)))
  rw [e1, vp_cell_i, vp_cell_i, arrV_store, xupd_eq]
  congr 2
  funext j
  simp [hI_wI]
theorem xe_last {a nn : Nat} {i : Int32} {x : Int64} (hd : decode M.2.1 pc = .ok (.lastore, 1)) (hT0 : hT h a = some (.inr (.long, nn))) (hin : vp_in i nn) (kk : xv G l M d k n (pc + 1) lv st (wL h a i.toNatClampNeg x) Q) : xv G l M d k n pc lv (.long x :: .int i :: .ref a :: st) h Q := by
  intro p e R s m args below meth c H locs cells slots ls Z C hc hs hL' hl hR hr
  obtain ⟨hA, hat0⟩ := hR.2.2.1 a _ hT0
  have hat : H[a]? = some (vp_cell (G.2.1 .long) (nn, .inr (.inl (hL h a)))) := hat0
  refine W.last C.1 C.2.1 hat ((xtys_at C.2.2.2.2.2.2.2.2.1 (t := .long) (by decide)).1 nn (fun j => .long (hL h a j))) (fun q => by cases q) (by show ¬ (i < 0 ∨ (arrV _ _ _).slots.size ≤ _); rw [arrV_size]; exact hin) rfl rfl hd fun H1 e1 z oq => ?_
  refine kk p e R s m args below meth c H1 _ cells slots ls Z C hc hs (xlocs hL' hA) hl (hR.put (g := wL h a i.toNatClampNeg x) hT0 rfl rfl (fun _ _ => rfl) (fun b hb => up2_ne hb) (fun _ _ => rfl) z oq ?_) hr
  show H1[a]? = some (vp_cell (G.2.1 .long) (nn, .inr (.inl (hL (wL h a i.toNatClampNeg x) a))))
  rw [e1, vp_cell_l, vp_cell_l, arrV_store]
  congr 2
  funext q
  by_cases hq : q = i.toNatClampNeg
  · simp [updV, hq, hL_wL]
  · simp [updV, hq, hL_wL]
theorem xe_aast {a b nn ci : Nat} {i : Int32} {Cn : String} {T : u_T} {N : Nat} (hd : decode M.2.1 pc = .ok (.aastore, 1)) (hT0 : hT h a = some (.inr (.object Cn, nn))) (hC : FieldType.object Cn ∈ xtys) (hT1 : hT h b = some (.inl ci)) (hci : vwCl[ci]? = some (Cn, T, N)) (hin : vp_in i nn) (kk : xv G l M d k n (pc + 1) lv st (wR h a i.toNatClampNeg (some b)) Q) : xv G l M d k n pc lv (.ref b :: .int i :: .ref a :: st) h Q := by
  intro p e R s m args below meth c H locs cells slots ls Z C hc hs hL' hl hR' hr
  obtain ⟨hA, hat0⟩ := hR'.2.2.1 a _ hT0
  have hat : H[a]? = some (vp_cell (G.2.1 (.object Cn)) (nn, .inr (.inr (.inr (.inr (hR h a)))))) := hat0
  obtain ⟨-, r', hr', cellV, g1, g2, g3, -⟩ := hR'.2.2.1 b _ hT1
  have hK := C.2.2.2.2.2.2.2.2.1
  have hlt : i.toNatClampNeg < nn := Nat.not_le.mp fun q => hin (Or.inr q)
  have h0 : ¬ i < 0 := fun q => hin (Or.inl q)
  have hcls := (hK.1.1 ci _ hci).2
  obtain ⟨kA, comp, k1, k2, k3, -⟩ := (xtys_at hK hC).2
  have hcomp : comp = G.1.1 ci := Option.some.inj (k3.symm.trans hcls.1)
  subst hcomp
  obtain ⟨kC, hkC, -⟩ := hcls.2
  refine W.aast C.1 C.2.1 hat (fun q h => by cases h) (fun h => by cases h) k1 k2 rfl hkC ⟨h0, by show _ < (arrV _ _ _).slots.size; rw [arrV_size]; exact hlt⟩ g1 (fun q h => by rw [g3] at h; cases h) (by rw [g2]; exact hkC) (by rw [g2]; exact va_assign hcls) rfl rfl hd fun H1 e1 z oq => ?_
  refine kk p e R s m args below meth c H1 _ cells slots ls Z C hc hs (xlocs hL' hA) hl (hR'.put (g := wR h a i.toNatClampNeg (some b)) hT0 rfl rfl (fun _ _ => rfl) (fun _ _ => rfl) (fun b hb => up2_ne hb) z oq ?_) hr
  show H1[a]? = some (vp_cell (G.2.1 (.object Cn)) (nn, .inr (.inr (.inr (.inr (hR (wR h a i.toNatClampNeg (some b)) a))))))
  rw [e1, vp_cell_q, vp_cell_q, arrV_store]
  congr 2
  funext q
  by_cases hq : q = i.toNatClampNeg
  · simp [updV, hq, hR_wR, va_rf]
  · simp [updV, hq, hR_wR]
end XH
