theorem xl_mem {lv : xLv} {i : Nat} {v : Bool × Value} (h : lv.lookup i = some v) : (i, v) ∈ lv := by
  induction lv with
  | nil => cases h
  | cons q r ih =>
    obtain ⟨j, w⟩ := q
    by_cases e : i = j
    · subst e
      rw [List.lookup_cons_self] at h
      cases h
      exact List.mem_cons_self
    · have h2 : r.lookup i = some v := by
        rw [List.lookup_cons] at h
        have : (i == j) = false := by simp [e]
        rw [this] at h
        exact h
      exact List.mem_cons_of_mem _ (ih h2)
theorem xl_at {ls : Array Slot} {nL : Nat} {lv : xLv} {i : Nat} {b : Bool} {v : Value} (hl : xhas ls nL lv) (h : lv.lookup i = some (b, v)) : ls[i]? = some (.val v) := (hl.2.2 (i, b, v) (xl_mem h)).1
def xset (lv : xLv) (i : Nat) (v : Value) : xLv := (i, false, v) :: lv.filter (fun q => !(q.1 == i) && !(q.1 + 1 == i && q.2.1))
def xset2 (lv : xLv) (i : Nat) (v : Value) : xLv := (i, true, v) :: lv.filter (fun q => !(q.1 == i) && (!(q.1 == i + 1) && !(q.1 + 1 == i && q.2.1)))
def xpl (lv : xLv) : List (Nat × Value) := lv.map fun q => (q.1, q.2.2)
theorem xpl_has {ls : Array Slot} {nL : Nat} {lv : xLv} (h : xhas ls nL lv) : lv_has ls nL (xpl lv) := ⟨h.1, h.2.1, fun q hq => by
  obtain ⟨z, h1, rfl⟩ := List.mem_map.mp hq
  exact (h.2.2 z h1).1⟩
theorem xset_has {ls ls2 : Array Slot} {nL i : Nat} {lv : xLv} {v : Value} (h0 : xhas ls nL lv) (hv : v.category = 1) (h : lv_has ls2 nL ((i, v) :: (xpl lv).filter (fun q => !(q.1 == i) && !(q.1 + 1 == i && q.2.category == 2)))) : xhas ls2 nL (xset lv i v) := ⟨h.1, h.2.1, fun q hq => by
  rcases List.mem_cons.mp hq with rfl | hq
  · exact ⟨h.2.2 (i, v) List.mem_cons_self, by simp [hv]⟩
  · obtain ⟨h1, h2⟩ := List.mem_filter.mp hq
    have hm := (h0.2.2 q h1).2
    refine ⟨h.2.2 (q.1, q.2.2) (List.mem_cons_of_mem _ (List.mem_filter.mpr ⟨List.mem_map.mpr ⟨q, h1, rfl⟩, ?_⟩)), hm⟩
    rw [hm] at h2
    exact h2⟩
theorem xset2_has {ls ls2 : Array Slot} {nL i : Nat} {lv : xLv} {v : Value} (h0 : xhas ls nL lv) (hv : v.category = 2) (h : lv_has ls2 nL ((i, v) :: (xpl lv).filter (fun q => !(q.1 == i) && (!(q.1 == i + 1) && !(q.1 + 1 == i && q.2.category == 2))))) : xhas ls2 nL (xset2 lv i v) := ⟨h.1, h.2.1, fun q hq => by
  rcases List.mem_cons.mp hq with rfl | hq
  · exact ⟨h.2.2 (i, v) List.mem_cons_self, by simp [hv]⟩
  · obtain ⟨h1, h2⟩ := List.mem_filter.mp hq
    have hm := (h0.2.2 q h1).2
    refine ⟨h.2.2 (q.1, q.2.2) (List.mem_cons_of_mem _ (List.mem_filter.mpr ⟨List.mem_map.mpr ⟨q, h1, rfl⟩, ?_⟩)), hm⟩
    rw [hm] at h2
    exact h2⟩
def xsub (lv' lv : xLv) : Prop := ∀ q ∈ lv', q ∈ lv
theorem xsub_nil {lv : xLv} : xsub [] lv := fun _ h => by cases h
theorem xsub_cons {lv lv' : xLv} {i : Nat} {v : Bool × Value} (h : lv.lookup i = some v) (r : xsub lv' lv) : xsub ((i, v) :: lv') lv := fun q hq => (List.mem_cons.mp hq).elim (fun e => by rw [e]; exact xl_mem h) (r q)
/-- what a class of vwCl is -/
def xcl (ci : Nat) : Prop := ∃ (C : String) (T : u_T) (N : Nat), vwCl[ci]? = some (C, T, N) ∧ N = xnf ci ∧ (∀ w ∈ u_ws C T N, w ∈ xws) ∧ (∀ k, k < N → parseFieldDescriptor (T k).2.2.1 = some (xty ci k)) ∧ (∀ a, a < N → ∀ b, b < N → a ≠ b → (T a).2.1 ≠ (T b).2.1)
/-- a link to a field: final or not -/
def xfl (own : String) (idx ci f : Nat) (fin : Bool) : Prop := ∃ (C : String) (T : u_T) (N : Nat), vwCl[ci]? = some (C, T, N) ∧ f < N ∧ Cond.fieldLink own idx C (T f).2.1 (T f).2.2.1 ∈ xws ∧ (T f).1 = C ∧ (T f).2.2.2 = fin
/-- a method that may be called -/
def xmk (M : xM) (na : Nat) : Prop := Cond.code M.1 M.2.1 M.2.2.1 M.2.2.2 ∈ xws ∧ Cond.initialized M.1.cls ∈ xws ∧ (M.1.cls ≠ "java/lang/invoke/MethodHandle" ∧ M.1.cls ≠ "java/lang/invoke/VarHandle" ∧ (parseMethodDescriptor M.1.desc).map (fun d => d.parameters.length) = some na) ∧ M.2.2.1 ≤ 45
section XV
variable {G : xG} {l : Launch} {M : xM} {d k n pc : Nat} {lv : xLv} {st : List Value} {h : Hp} {Q : xPost}
theorem xe_iconst {i : Int} {v : Int32} (hd : decode M.2.1 pc = .ok (.iconst i, 1)) (hv : Int32.ofInt i = v) (kk : xv G l M d k n (pc + 1) lv (.int v :: st) h Q) : xv G l M d k n pc lv st h Q :=
  fun p e R s m args below meth c H locs cells slots ls Z C hc hs hL hl hR hr => lv_iconst C.1 C.2.1 hd hv (kk p e R s m args below meth c H locs cells slots ls Z C hc hs hL hl hR hr)
theorem xe_bipush {i : Int} {v : Int32} (hd : decode M.2.1 pc = .ok (.bipush i, 2)) (hv : (Int8.ofInt i).toInt32 = v) (kk : xv G l M d k n (pc + 2) lv (.int v :: st) h Q) : xv G l M d k n pc lv st h Q :=
  fun p e R s m args below meth c H locs cells slots ls Z C hc hs hL hl hR hr => lv_bipush C.1 C.2.1 hd hv (kk p e R s m args below meth c H locs cells slots ls Z C hc hs hL hl hR hr)
theorem xe_sipush {i : Int} {v : Int32} (hd : decode M.2.1 pc = .ok (.sipush i, 3)) (hv : (Int16.ofInt i).toInt32 = v) (kk : xv G l M d k n (pc + 3) lv (.int v :: st) h Q) : xv G l M d k n pc lv st h Q :=
  fun p e R s m args below meth c H locs cells slots ls Z C hc hs hL hl hR hr => lv_sipush C.1 C.2.1 hd hv (kk p e R s m args below meth c H locs cells slots ls Z C hc hs hL hl hR hr)
theorem xe_lconst {i : Fin 2} {v : Int64} (hd : decode M.2.1 pc = .ok (.lconst i, 1)) (hv : Int64.ofNat (i : Nat) = v) (kk : xv G l M d k n (pc + 1) lv (.long v :: st) h Q) : xv G l M d k n pc lv st h Q :=
  fun p e R s m args below meth c H locs cells slots ls Z C hc hs hL hl hR hr => lv_lconst C.1 C.2.1 hd hv (kk p e R s m args below meth c H locs cells slots ls Z C hc hs hL hl hR hr)
theorem xe_null (hd : decode M.2.1 pc = .ok (.aconst_null, 1)) (kk : xv G l M d k n (pc + 1) lv (va_rf none :: st) h Q) : xv G l M d k n pc lv st h Q :=
  fun p e R s m args below meth c H locs cells slots ls Z C hc hs hL hl hR hr => lv_null C.1 C.2.1 hd (kk p e R s m args below meth c H locs cells slots ls Z C hc hs hL hl hR hr)
theorem xe_ldc2 {idx : Nat} {v : Int64} (hd : decode M.2.1 pc = .ok (.ldc2_w idx, 3)) (hw : Cond.constantLong M.1.cls idx v ∈ xws) (kk : xv G l M d k n (pc + 3) lv (.long v :: st) h Q) : xv G l M d k n pc lv st h Q :=
  fun p e R s m args below meth c H locs cells slots ls Z C hc hs hL hl hR hr => lv_ldc2 C.1 C.2.1 C.2.2.2.2.1 (C.2.2.2.2.2.1 _ hw) hd (kk p e R s m args below meth c H locs cells slots ls Z C hc hs hL hl hR hr)
theorem xe_ldcw {idx : Nat} {v : Int32} (hd : decode M.2.1 pc = .ok (.ldc_w idx, 3)) (hw : Cond.constant M.1.cls idx v ∈ xws) (kk : xv G l M d k n (pc + 3) lv (.int v :: st) h Q) : xv G l M d k n pc lv st h Q :=
  fun p e R s m args below meth c H locs cells slots ls Z C hc hs hL hl hR hr => lv_ldcw C.1 C.2.1 C.2.2.2.2.1 (C.2.2.2.2.2.1 _ hw) hd (kk p e R s m args below meth c H locs cells slots ls Z C hc hs hL hl hR hr)
theorem xe_iload {i : Nat} {x : Int32} (hd : decode M.2.1 pc = .ok (.iload i, 2)) (hv : lv.lookup i = some (false, .int x)) (kk : xv G l M d k n (pc + 2) lv (.int x :: st) h Q) : xv G l M d k n pc lv st h Q :=
  fun p e R s m args below meth c H locs cells slots ls Z C hc hs hL hl hR hr => lv_iload C.1 C.2.1 hd (xl_at hl hv) (kk p e R s m args below meth c H locs cells slots ls Z C hc hs hL hl hR hr)
theorem xe_iload_n {i : Fin 4} {j : Nat} {x : Int32} (hd : decode M.2.1 pc = .ok (.iload_n i, 1)) (hj : (i : Nat) = j) (hv : lv.lookup j = some (false, .int x)) (kk : xv G l M d k n (pc + 1) lv (.int x :: st) h Q) : xv G l M d k n pc lv st h Q :=
  fun p e R s m args below meth c H locs cells slots ls Z C hc hs hL hl hR hr => lv_iload_n C.1 C.2.1 hd hj (xl_at hl hv) (kk p e R s m args below meth c H locs cells slots ls Z C hc hs hL hl hR hr)
theorem xe_lload {i : Nat} {x : Int64} (hd : decode M.2.1 pc = .ok (.lload i, 2)) (hv : lv.lookup i = some (true, .long x)) (kk : xv G l M d k n (pc + 2) lv (.long x :: st) h Q) : xv G l M d k n pc lv st h Q :=
  fun p e R s m args below meth c H locs cells slots ls Z C hc hs hL hl hR hr => lv_lload C.1 C.2.1 hd (xl_at hl hv) (kk p e R s m args below meth c H locs cells slots ls Z C hc hs hL hl hR hr)
theorem xe_lload_n {i : Fin 4} {j : Nat} {x : Int64} (hd : decode M.2.1 pc = .ok (.lload_n i, 1)) (hj : (i : Nat) = j) (hv : lv.lookup j = some (true, .long x)) (kk : xv G l M d k n (pc + 1) lv (.long x :: st) h Q) : xv G l M d k n pc lv st h Q :=
  fun p e R s m args below meth c H locs cells slots ls Z C hc hs hL hl hR hr => lv_lload_n C.1 C.2.1 hd hj (xl_at hl hv) (kk p e R s m args below meth c H locs cells slots ls Z C hc hs hL hl hR hr)
theorem xe_aload {i : Nat} {x : Option Nat} (hd : decode M.2.1 pc = .ok (.aload i, 2)) (hv : lv.lookup i = some (false, va_rf x)) (kk : xv G l M d k n (pc + 2) lv (va_rf x :: st) h Q) : xv G l M d k n pc lv st h Q := by
  intro p e R s m args below meth c H locs cells slots ls Z C hc hs hL hl hR hr
  cases x with
  | none => exact lv_aloadN C.1 C.2.1 hd (xl_at hl hv) (kk p e R s m args below meth c H locs cells slots ls Z C hc hs hL hl hR hr)
  | some a => exact lv_aload C.1 C.2.1 hd (xl_at hl hv) (kk p e R s m args below meth c H locs cells slots ls Z C hc hs hL hl hR hr)
theorem xe_aload_n {i : Fin 4} {j : Nat} {x : Option Nat} (hd : decode M.2.1 pc = .ok (.aload_n i, 1)) (hj : (i : Nat) = j) (hv : lv.lookup j = some (false, va_rf x)) (kk : xv G l M d k n (pc + 1) lv (va_rf x :: st) h Q) : xv G l M d k n pc lv st h Q := by
  intro p e R s m args below meth c H locs cells slots ls Z C hc hs hL hl hR hr
  cases x with
  | none => exact lv_aload_nN C.1 C.2.1 hd hj (xl_at hl hv) (kk p e R s m args below meth c H locs cells slots ls Z C hc hs hL hl hR hr)
  | some a => exact lv_aload_n C.1 C.2.1 hd hj (xl_at hl hv) (kk p e R s m args below meth c H locs cells slots ls Z C hc hs hL hl hR hr)
theorem xe_istore {i : Nat} {x : Int32} (hd : decode M.2.1 pc = .ok (.istore i, 2)) (hi : i < M.2.2.1) (kk : xv G l M d k n (pc + 2) (xset lv i (.int x)) st h Q) : xv G l M d k n pc lv (.int x :: st) h Q :=
  fun p e R s m args below meth c H locs cells slots ls Z C hc hs hL hl hR hr => lv_istore C.1 C.2.1 hd (xpl_has hl) hi rfl (fun ls2 hl2 => kk p e R s m args below meth c H locs cells slots ls2 Z C hc hs hL (xset_has hl rfl hl2) hR hr)
theorem xe_istore_n {i : Fin 4} {j : Nat} {x : Int32} (hd : decode M.2.1 pc = .ok (.istore_n i, 1)) (hj : (i : Nat) = j) (hi : j < M.2.2.1) (kk : xv G l M d k n (pc + 1) (xset lv j (.int x)) st h Q) : xv G l M d k n pc lv (.int x :: st) h Q :=
  fun p e R s m args below meth c H locs cells slots ls Z C hc hs hL hl hR hr => lv_istore_n C.1 C.2.1 hd hj (xpl_has hl) hi rfl (fun ls2 hl2 => kk p e R s m args below meth c H locs cells slots ls2 Z C hc hs hL (xset_has hl rfl hl2) hR hr)
theorem xe_lstore {i : Nat} {x : Int64} (hd : decode M.2.1 pc = .ok (.lstore i, 2)) (hi : i + 1 < M.2.2.1) (kk : xv G l M d k n (pc + 2) (xset2 lv i (.long x)) st h Q) : xv G l M d k n pc lv (.long x :: st) h Q :=
  fun p e R s m args below meth c H locs cells slots ls Z C hc hs hL hl hR hr => lv_lstore C.1 C.2.1 hd (xpl_has hl) hi rfl (fun ls2 hl2 => kk p e R s m args below meth c H locs cells slots ls2 Z C hc hs hL (xset2_has hl rfl hl2) hR hr)
theorem xe_lstore_n {i : Fin 4} {j : Nat} {x : Int64} (hd : decode M.2.1 pc = .ok (.lstore_n i, 1)) (hj : (i : Nat) = j) (hi : j + 1 < M.2.2.1) (kk : xv G l M d k n (pc + 1) (xset2 lv j (.long x)) st h Q) : xv G l M d k n pc lv (.long x :: st) h Q :=
  fun p e R s m args below meth c H locs cells slots ls Z C hc hs hL hl hR hr => lv_lstore_n C.1 C.2.1 hd hj (xpl_has hl) hi rfl (fun ls2 hl2 => kk p e R s m args below meth c H locs cells slots ls2 Z C hc hs hL (xset2_has hl rfl hl2) hR hr)
theorem xe_astore {i : Nat} {x : Option Nat} (hd : decode M.2.1 pc = .ok (.astore i, 2)) (hi : i < M.2.2.1) (kk : xv G l M d k n (pc + 2) (xset lv i (va_rf x)) st h Q) : xv G l M d k n pc lv (va_rf x :: st) h Q := by
  intro p e R s m args below meth c H locs cells slots ls Z C hc hs hL hl hR hr
  cases x with
  | none => exact lv_astoreN C.1 C.2.1 hd (xpl_has hl) hi rfl (fun ls2 hl2 => kk p e R s m args below meth c H locs cells slots ls2 Z C hc hs hL (xset_has hl rfl hl2) hR hr)
  | some a => exact lv_astore C.1 C.2.1 hd (xpl_has hl) hi rfl (fun ls2 hl2 => kk p e R s m args below meth c H locs cells slots ls2 Z C hc hs hL (xset_has hl rfl hl2) hR hr)
theorem xe_astore_n {i : Fin 4} {j : Nat} {x : Option Nat} (hd : decode M.2.1 pc = .ok (.astore_n i, 1)) (hj : (i : Nat) = j) (hi : j < M.2.2.1) (kk : xv G l M d k n (pc + 1) (xset lv j (va_rf x)) st h Q) : xv G l M d k n pc lv (va_rf x :: st) h Q := by
  intro p e R s m args below meth c H locs cells slots ls Z C hc hs hL hl hR hr
  cases x with
  | none => exact lv_astore_nN C.1 C.2.1 hd hj (xpl_has hl) hi rfl (fun ls2 hl2 => kk p e R s m args below meth c H locs cells slots ls2 Z C hc hs hL (xset_has hl rfl hl2) hR hr)
  | some a => exact lv_astore_n C.1 C.2.1 hd hj (xpl_has hl) hi rfl (fun ls2 hl2 => kk p e R s m args below meth c H locs cells slots ls2 Z C hc hs hL (xset_has hl rfl hl2) hR hr)
theorem xe_iinc {i : Nat} {c0 : Int} {x v : Int32} (hd : decode M.2.1 pc = .ok (.iinc i c0, 3)) (hv : lv.lookup i = some (false, .int x)) (hw : x + Int32.ofInt c0 = v) (hi : i < M.2.2.1) (kk : xv G l M d k n (pc + 3) (xset lv i (.int v)) st h Q) : xv G l M d k n pc lv st h Q := by
  intro p e R s m args below meth c H locs cells slots ls Z C hc hs hL hl hR hr
  obtain ⟨j, hj⟩ := List.getElem?_of_mem (show (i, Value.int x) ∈ xpl lv from List.mem_map.mpr ⟨_, xl_mem hv, rfl⟩)
  exact lv_iinc C.1 C.2.1 hd (xpl_has hl) hj hw hi rfl (fun ls2 hl2 => kk p e R s m args below meth c H locs cells slots ls2 Z C hc hs hL (xset_has hl rfl hl2) hR hr)
theorem xe_iadd {x y : Int32} (hd : decode M.2.1 pc = .ok (.iadd, 1)) (kk : xv G l M d k n (pc + 1) lv (.int (x + y) :: st) h Q) : xv G l M d k n pc lv (.int y :: .int x :: st) h Q :=
  fun p e R s m args below meth c H locs cells slots ls Z C hc hs hL hl hR hr => lv_iadd C.1 C.2.1 hd (kk p e R s m args below meth c H locs cells slots ls Z C hc hs hL hl hR hr)
theorem xe_isub {x y : Int32} (hd : decode M.2.1 pc = .ok (.isub, 1)) (kk : xv G l M d k n (pc + 1) lv (.int (x - y) :: st) h Q) : xv G l M d k n pc lv (.int y :: .int x :: st) h Q :=
  fun p e R s m args below meth c H locs cells slots ls Z C hc hs hL hl hR hr => lv_isub C.1 C.2.1 hd (kk p e R s m args below meth c H locs cells slots ls Z C hc hs hL hl hR hr)
theorem xe_imul {x y : Int32} (hd : decode M.2.1 pc = .ok (.imul, 1)) (kk : xv G l M d k n (pc + 1) lv (.int (x * y) :: st) h Q) : xv G l M d k n pc lv (.int y :: .int x :: st) h Q :=
  fun p e R s m args below meth c H locs cells slots ls Z C hc hs hL hl hR hr => lv_imul C.1 C.2.1 hd (kk p e R s m args below meth c H locs cells slots ls Z C hc hs hL hl hR hr)
theorem xe_iand {x y : Int32} (hd : decode M.2.1 pc = .ok (.iand, 1)) (kk : xv G l M d k n (pc + 1) lv (.int (x &&& y) :: st) h Q) : xv G l M d k n pc lv (.int y :: .int x :: st) h Q :=
  fun p e R s m args below meth c H locs cells slots ls Z C hc hs hL hl hR hr => lv_iand C.1 C.2.1 hd (kk p e R s m args below meth c H locs cells slots ls Z C hc hs hL hl hR hr)
theorem xe_ior {x y : Int32} (hd : decode M.2.1 pc = .ok (.ior, 1)) (kk : xv G l M d k n (pc + 1) lv (.int (x ||| y) :: st) h Q) : xv G l M d k n pc lv (.int y :: .int x :: st) h Q :=
  fun p e R s m args below meth c H locs cells slots ls Z C hc hs hL hl hR hr => lv_ior C.1 C.2.1 hd (kk p e R s m args below meth c H locs cells slots ls Z C hc hs hL hl hR hr)
theorem xe_ixor {x y : Int32} (hd : decode M.2.1 pc = .ok (.ixor, 1)) (kk : xv G l M d k n (pc + 1) lv (.int (x ^^^ y) :: st) h Q) : xv G l M d k n pc lv (.int y :: .int x :: st) h Q :=
  fun p e R s m args below meth c H locs cells slots ls Z C hc hs hL hl hR hr => lv_ixor C.1 C.2.1 hd (kk p e R s m args below meth c H locs cells slots ls Z C hc hs hL hl hR hr)
theorem xe_ladd {x y : Int64} (hd : decode M.2.1 pc = .ok (.ladd, 1)) (kk : xv G l M d k n (pc + 1) lv (.long (x + y) :: st) h Q) : xv G l M d k n pc lv (.long y :: .long x :: st) h Q :=
  fun p e R s m args below meth c H locs cells slots ls Z C hc hs hL hl hR hr => lv_ladd C.1 C.2.1 hd (kk p e R s m args below meth c H locs cells slots ls Z C hc hs hL hl hR hr)
theorem xe_lsub {x y : Int64} (hd : decode M.2.1 pc = .ok (.lsub, 1)) (kk : xv G l M d k n (pc + 1) lv (.long (x - y) :: st) h Q) : xv G l M d k n pc lv (.long y :: .long x :: st) h Q :=
  fun p e R s m args below meth c H locs cells slots ls Z C hc hs hL hl hR hr => lv_lsub C.1 C.2.1 hd (kk p e R s m args below meth c H locs cells slots ls Z C hc hs hL hl hR hr)
theorem xe_lmul {x y : Int64} (hd : decode M.2.1 pc = .ok (.lmul, 1)) (kk : xv G l M d k n (pc + 1) lv (.long (x * y) :: st) h Q) : xv G l M d k n pc lv (.long y :: .long x :: st) h Q :=
  fun p e R s m args below meth c H locs cells slots ls Z C hc hs hL hl hR hr => lv_lmul C.1 C.2.1 hd (kk p e R s m args below meth c H locs cells slots ls Z C hc hs hL hl hR hr)
theorem xe_land {x y : Int64} (hd : decode M.2.1 pc = .ok (.land, 1)) (kk : xv G l M d k n (pc + 1) lv (.long (x &&& y) :: st) h Q) : xv G l M d k n pc lv (.long y :: .long x :: st) h Q :=
  fun p e R s m args below meth c H locs cells slots ls Z C hc hs hL hl hR hr => lv_land C.1 C.2.1 hd (kk p e R s m args below meth c H locs cells slots ls Z C hc hs hL hl hR hr)
theorem xe_lor {x y : Int64} (hd : decode M.2.1 pc = .ok (.lor, 1)) (kk : xv G l M d k n (pc + 1) lv (.long (x ||| y) :: st) h Q) : xv G l M d k n pc lv (.long y :: .long x :: st) h Q :=
  fun p e R s m args below meth c H locs cells slots ls Z C hc hs hL hl hR hr => lv_lor C.1 C.2.1 hd (kk p e R s m args below meth c H locs cells slots ls Z C hc hs hL hl hR hr)
theorem xe_lxor {x y : Int64} (hd : decode M.2.1 pc = .ok (.lxor, 1)) (kk : xv G l M d k n (pc + 1) lv (.long (x ^^^ y) :: st) h Q) : xv G l M d k n pc lv (.long y :: .long x :: st) h Q :=
  fun p e R s m args below meth c H locs cells slots ls Z C hc hs hL hl hR hr => lv_lxor C.1 C.2.1 hd (kk p e R s m args below meth c H locs cells slots ls Z C hc hs hL hl hR hr)
theorem xe_idiv {x y : Int32} (hd : decode M.2.1 pc = .ok (.idiv, 1)) (hne : ¬ y = 0) (kk : xv G l M d k n (pc + 1) lv (.int (x / y) :: st) h Q) : xv G l M d k n pc lv (.int y :: .int x :: st) h Q :=
  fun p e R s m args below meth c H locs cells slots ls Z C hc hs hL hl hR hr => lv_idiv C.1 C.2.1 hd hne (kk p e R s m args below meth c H locs cells slots ls Z C hc hs hL hl hR hr)
theorem xe_ldiv {x y : Int64} (hd : decode M.2.1 pc = .ok (.ldiv, 1)) (hne : ¬ y = 0) (kk : xv G l M d k n (pc + 1) lv (.long (x / y) :: st) h Q) : xv G l M d k n pc lv (.long y :: .long x :: st) h Q :=
  fun p e R s m args below meth c H locs cells slots ls Z C hc hs hL hl hR hr => lv_ldiv C.1 C.2.1 hd hne (kk p e R s m args below meth c H locs cells slots ls Z C hc hs hL hl hR hr)
theorem xe_irem {x y : Int32} (hd : decode M.2.1 pc = .ok (.irem, 1)) (hne : ¬ y = 0) (kk : xv G l M d k n (pc + 1) lv (.int (x - x / y * y) :: st) h Q) : xv G l M d k n pc lv (.int y :: .int x :: st) h Q :=
  fun p e R s m args below meth c H locs cells slots ls Z C hc hs hL hl hR hr => lv_irem C.1 C.2.1 hd hne (kk p e R s m args below meth c H locs cells slots ls Z C hc hs hL hl hR hr)
theorem xe_lrem {x y : Int64} (hd : decode M.2.1 pc = .ok (.lrem, 1)) (hne : ¬ y = 0) (kk : xv G l M d k n (pc + 1) lv (.long (x - x / y * y) :: st) h Q) : xv G l M d k n pc lv (.long y :: .long x :: st) h Q :=
  fun p e R s m args below meth c H locs cells slots ls Z C hc hs hL hl hR hr => lv_lrem C.1 C.2.1 hd hne (kk p e R s m args below meth c H locs cells slots ls Z C hc hs hL hl hR hr)
theorem xe_ineg {x : Int32} (hd : decode M.2.1 pc = .ok (.ineg, 1)) (kk : xv G l M d k n (pc + 1) lv (.int (0 - x) :: st) h Q) : xv G l M d k n pc lv (.int x :: st) h Q :=
  fun p e R s m args below meth c H locs cells slots ls Z C hc hs hL hl hR hr => lv_ineg C.1 C.2.1 hd (kk p e R s m args below meth c H locs cells slots ls Z C hc hs hL hl hR hr)
theorem xe_lneg {x : Int64} (hd : decode M.2.1 pc = .ok (.lneg, 1)) (kk : xv G l M d k n (pc + 1) lv (.long (0 - x) :: st) h Q) : xv G l M d k n pc lv (.long x :: st) h Q :=
  fun p e R s m args below meth c H locs cells slots ls Z C hc hs hL hl hR hr => lv_lneg C.1 C.2.1 hd (kk p e R s m args below meth c H locs cells slots ls Z C hc hs hL hl hR hr)
theorem xe_ishl {x y : Int32} (hd : decode M.2.1 pc = .ok (.ishl, 1)) (kk : xv G l M d k n (pc + 1) lv (.int (x <<< (y &&& 31)) :: st) h Q) : xv G l M d k n pc lv (.int y :: .int x :: st) h Q :=
  fun p e R s m args below meth c H locs cells slots ls Z C hc hs hL hl hR hr => lv_ishl C.1 C.2.1 hd (kk p e R s m args below meth c H locs cells slots ls Z C hc hs hL hl hR hr)
theorem xe_ishr {x y : Int32} (hd : decode M.2.1 pc = .ok (.ishr, 1)) (kk : xv G l M d k n (pc + 1) lv (.int (x >>> (y &&& 31)) :: st) h Q) : xv G l M d k n pc lv (.int y :: .int x :: st) h Q :=
  fun p e R s m args below meth c H locs cells slots ls Z C hc hs hL hl hR hr => lv_ishr C.1 C.2.1 hd (kk p e R s m args below meth c H locs cells slots ls Z C hc hs hL hl hR hr)
theorem xe_iushr {x y : Int32} (hd : decode M.2.1 pc = .ok (.iushr, 1)) (kk : xv G l M d k n (pc + 1) lv (.int ((x.toUInt32 >>> (y.toUInt32 &&& Int32.toUInt32 31)).toInt32) :: st) h Q) : xv G l M d k n pc lv (.int y :: .int x :: st) h Q :=
  fun p e R s m args below meth c H locs cells slots ls Z C hc hs hL hl hR hr => lv_iushr C.1 C.2.1 hd rfl (kk p e R s m args below meth c H locs cells slots ls Z C hc hs hL hl hR hr)
theorem xe_lushr {x : Int64} {y : Int32} (hd : decode M.2.1 pc = .ok (.lushr, 1)) (kk : xv G l M d k n (pc + 1) lv (.long ((x.toUInt64 >>> (y.toInt64.toUInt64 &&& Int64.toUInt64 63)).toInt64) :: st) h Q) : xv G l M d k n pc lv (.int y :: .long x :: st) h Q :=
  fun p e R s m args below meth c H locs cells slots ls Z C hc hs hL hl hR hr => lv_lushr C.1 C.2.1 hd rfl (kk p e R s m args below meth c H locs cells slots ls Z C hc hs hL hl hR hr)
theorem xe_lshl {x : Int64} {y : Int32} (hd : decode M.2.1 pc = .ok (.lshl, 1)) (kk : xv G l M d k n (pc + 1) lv (.long (x <<< (y.toInt64 &&& 63)) :: st) h Q) : xv G l M d k n pc lv (.int y :: .long x :: st) h Q :=
  fun p e R s m args below meth c H locs cells slots ls Z C hc hs hL hl hR hr => lv_lshl C.1 C.2.1 hd rfl (kk p e R s m args below meth c H locs cells slots ls Z C hc hs hL hl hR hr)
theorem xe_lshr {x : Int64} {y : Int32} (hd : decode M.2.1 pc = .ok (.lshr, 1)) (kk : xv G l M d k n (pc + 1) lv (.long (x >>> (y.toInt64 &&& 63)) :: st) h Q) : xv G l M d k n pc lv (.int y :: .long x :: st) h Q :=
  fun p e R s m args below meth c H locs cells slots ls Z C hc hs hL hl hR hr => lv_lshr C.1 C.2.1 hd rfl (kk p e R s m args below meth c H locs cells slots ls Z C hc hs hL hl hR hr)
theorem xe_i2l {x : Int32} (hd : decode M.2.1 pc = .ok (.i2l, 1)) (kk : xv G l M d k n (pc + 1) lv (.long (x.toInt64) :: st) h Q) : xv G l M d k n pc lv (.int x :: st) h Q :=
  fun p e R s m args below meth c H locs cells slots ls Z C hc hs hL hl hR hr => lv_i2l C.1 C.2.1 hd rfl (kk p e R s m args below meth c H locs cells slots ls Z C hc hs hL hl hR hr)
theorem xe_l2i {x : Int64} (hd : decode M.2.1 pc = .ok (.l2i, 1)) (kk : xv G l M d k n (pc + 1) lv (.int (x.toInt32) :: st) h Q) : xv G l M d k n pc lv (.long x :: st) h Q :=
  fun p e R s m args below meth c H locs cells slots ls Z C hc hs hL hl hR hr => lv_l2i C.1 C.2.1 hd rfl (kk p e R s m args below meth c H locs cells slots ls Z C hc hs hL hl hR hr)
theorem xe_i2b {x : Int32} (hd : decode M.2.1 pc = .ok (.i2b, 1)) (kk : xv G l M d k n (pc + 1) lv (.int (x.toInt8.toInt32) :: st) h Q) : xv G l M d k n pc lv (.int x :: st) h Q :=
  fun p e R s m args below meth c H locs cells slots ls Z C hc hs hL hl hR hr => lv_i2b C.1 C.2.1 hd rfl (kk p e R s m args below meth c H locs cells slots ls Z C hc hs hL hl hR hr)
theorem xe_i2s {x : Int32} (hd : decode M.2.1 pc = .ok (.i2s, 1)) (kk : xv G l M d k n (pc + 1) lv (.int (x.toInt16.toInt32) :: st) h Q) : xv G l M d k n pc lv (.int x :: st) h Q :=
  fun p e R s m args below meth c H locs cells slots ls Z C hc hs hL hl hR hr => lv_i2s C.1 C.2.1 hd rfl (kk p e R s m args below meth c H locs cells slots ls Z C hc hs hL hl hR hr)
theorem xe_i2c {x : Int32} (hd : decode M.2.1 pc = .ok (.i2c, 1)) (kk : xv G l M d k n (pc + 1) lv (.int ((x.toUInt32 % 65536).toInt32) :: st) h Q) : xv G l M d k n pc lv (.int x :: st) h Q :=
  fun p e R s m args below meth c H locs cells slots ls Z C hc hs hL hl hR hr => lv_i2c C.1 C.2.1 hd rfl (kk p e R s m args below meth c H locs cells slots ls Z C hc hs hL hl hR hr)
theorem xe_lcmp {x y : Int64} (hd : decode M.2.1 pc = .ok (.lcmp, 1)) (kk : xv G l M d k n (pc + 1) lv (.int (lg_cmp x y) :: st) h Q) : xv G l M d k n pc lv (.long y :: .long x :: st) h Q :=
  fun p e R s m args below meth c H locs cells slots ls Z C hc hs hL hl hR hr => W.lcmp C.1 C.2.1 hd (kk p e R s m args below meth c H locs cells slots ls Z C hc hs hL hl hR hr)
theorem xe_dup {a : Value} (hd : decode M.2.1 pc = .ok (.dup, 1)) (ha : a.category = 1) (kk : xv G l M d k n (pc + 1) lv (a :: a :: st) h Q) : xv G l M d k n pc lv (a :: st) h Q :=
  fun p e R s m args below meth c H locs cells slots ls Z C hc hs hL hl hR hr => lv_dup C.1 C.2.1 hd ha (kk p e R s m args below meth c H locs cells slots ls Z C hc hs hL hl hR hr)
theorem xe_pop {a : Value} (hd : decode M.2.1 pc = .ok (.pop, 1)) (ha : a.category = 1) (kk : xv G l M d k n (pc + 1) lv st h Q) : xv G l M d k n pc lv (a :: st) h Q :=
  fun p e R s m args below meth c H locs cells slots ls Z C hc hs hL hl hR hr => lv_pop C.1 C.2.1 hd ha (kk p e R s m args below meth c H locs cells slots ls Z C hc hs hL hl hR hr)
theorem xe_pop2 {a : Value} (hd : decode M.2.1 pc = .ok (.pop2, 1)) (ha : a.category = 2) (kk : xv G l M d k n (pc + 1) lv st h Q) : xv G l M d k n pc lv (a :: st) h Q :=
  fun p e R s m args below meth c H locs cells slots ls Z C hc hs hL hl hR hr => lv_pop2_2 C.1 C.2.1 hd ha (kk p e R s m args below meth c H locs cells slots ls Z C hc hs hL hl hR hr)
theorem xe_dup2 {a b : Value} (hd : decode M.2.1 pc = .ok (.dup2, 1)) (ha : a.category = 1) (hb : b.category = 1) (kk : xv G l M d k n (pc + 1) lv (a :: b :: a :: b :: st) h Q) : xv G l M d k n pc lv (a :: b :: st) h Q :=
  fun p e R s m args below meth c H locs cells slots ls Z C hc hs hL hl hR hr => lv_dup2_11 C.1 C.2.1 hd ha hb (kk p e R s m args below meth c H locs cells slots ls Z C hc hs hL hl hR hr)
theorem xe_icmp_eq {x y : Int32} {off : Int} {tgt : Nat} (hd : decode M.2.1 pc = .ok (.if_icmp .eq off, 3)) (ht : (pc : Int) + off = (tgt : Int)) (kt : x = y → xv G l M d k n tgt lv st h Q) (kf : ¬ x = y → xv G l M d k n (pc + 3) lv st h Q) : xv G l M d k n pc lv (.int y :: .int x :: st) h Q :=
  fun p e R s m args below meth c H locs cells slots ls Z C hc hs hL hl hR hr => lv_icmp_eq C.1 C.2.1 hd ht (fun q => kt (q) p e R s m args below meth c H locs cells slots ls Z C hc hs hL hl hR hr) (fun q => kf (q) p e R s m args below meth c H locs cells slots ls Z C hc hs hL hl hR hr)
theorem xe_icmp_ne {x y : Int32} {off : Int} {tgt : Nat} (hd : decode M.2.1 pc = .ok (.if_icmp .ne off, 3)) (ht : (pc : Int) + off = (tgt : Int)) (kt : x = y → xv G l M d k n (pc + 3) lv st h Q) (kf : ¬ x = y → xv G l M d k n tgt lv st h Q) : xv G l M d k n pc lv (.int y :: .int x :: st) h Q :=
  fun p e R s m args below meth c H locs cells slots ls Z C hc hs hL hl hR hr => lv_icmp_ne C.1 C.2.1 hd ht (fun q => kf (q) p e R s m args below meth c H locs cells slots ls Z C hc hs hL hl hR hr) (fun q => kt (q) p e R s m args below meth c H locs cells slots ls Z C hc hs hL hl hR hr)
theorem xe_icmp_lt {x y : Int32} {off : Int} {tgt : Nat} (hd : decode M.2.1 pc = .ok (.if_icmp .lt off, 3)) (ht : (pc : Int) + off = (tgt : Int)) (kt : x < y → xv G l M d k n tgt lv st h Q) (kf : ¬ x < y → xv G l M d k n (pc + 3) lv st h Q) : xv G l M d k n pc lv (.int y :: .int x :: st) h Q :=
  fun p e R s m args below meth c H locs cells slots ls Z C hc hs hL hl hR hr => lv_icmp_lt C.1 C.2.1 hd ht (fun q => kt (q) p e R s m args below meth c H locs cells slots ls Z C hc hs hL hl hR hr) (fun q => kf (q) p e R s m args below meth c H locs cells slots ls Z C hc hs hL hl hR hr)
theorem xe_icmp_ge {x y : Int32} {off : Int} {tgt : Nat} (hd : decode M.2.1 pc = .ok (.if_icmp .ge off, 3)) (ht : (pc : Int) + off = (tgt : Int)) (kt : x < y → xv G l M d k n (pc + 3) lv st h Q) (kf : ¬ x < y → xv G l M d k n tgt lv st h Q) : xv G l M d k n pc lv (.int y :: .int x :: st) h Q :=
  fun p e R s m args below meth c H locs cells slots ls Z C hc hs hL hl hR hr => lv_icmp_ge C.1 C.2.1 hd ht (fun q => kf (Int32.not_lt.mpr q) p e R s m args below meth c H locs cells slots ls Z C hc hs hL hl hR hr) (fun q => kt (Int32.not_le.mp q) p e R s m args below meth c H locs cells slots ls Z C hc hs hL hl hR hr)
theorem xe_icmp_gt {x y : Int32} {off : Int} {tgt : Nat} (hd : decode M.2.1 pc = .ok (.if_icmp .gt off, 3)) (ht : (pc : Int) + off = (tgt : Int)) (kt : y < x → xv G l M d k n tgt lv st h Q) (kf : ¬ y < x → xv G l M d k n (pc + 3) lv st h Q) : xv G l M d k n pc lv (.int y :: .int x :: st) h Q :=
  fun p e R s m args below meth c H locs cells slots ls Z C hc hs hL hl hR hr => lv_icmp_gt C.1 C.2.1 hd ht (fun q => kt (q) p e R s m args below meth c H locs cells slots ls Z C hc hs hL hl hR hr) (fun q => kf (q) p e R s m args below meth c H locs cells slots ls Z C hc hs hL hl hR hr)
theorem xe_icmp_le {x y : Int32} {off : Int} {tgt : Nat} (hd : decode M.2.1 pc = .ok (.if_icmp .le off, 3)) (ht : (pc : Int) + off = (tgt : Int)) (kt : y < x → xv G l M d k n (pc + 3) lv st h Q) (kf : ¬ y < x → xv G l M d k n tgt lv st h Q) : xv G l M d k n pc lv (.int y :: .int x :: st) h Q :=
  fun p e R s m args below meth c H locs cells slots ls Z C hc hs hL hl hR hr => lv_icmp_le C.1 C.2.1 hd ht (fun q => kf (Int32.not_lt.mpr q) p e R s m args below meth c H locs cells slots ls Z C hc hs hL hl hR hr) (fun q => kt (Int32.not_le.mp q) p e R s m args below meth c H locs cells slots ls Z C hc hs hL hl hR hr)
theorem xe_if_eq {x : Int32} {off : Int} {tgt : Nat} (hd : decode M.2.1 pc = .ok (.ifCond .eq off, 3)) (ht : (pc : Int) + off = (tgt : Int)) (kt : x = 0 → xv G l M d k n tgt lv st h Q) (kf : ¬ x = 0 → xv G l M d k n (pc + 3) lv st h Q) : xv G l M d k n pc lv (.int x :: st) h Q :=
  fun p e R s m args below meth c H locs cells slots ls Z C hc hs hL hl hR hr => lv_if_eq C.1 C.2.1 hd ht (fun q => kt (q) p e R s m args below meth c H locs cells slots ls Z C hc hs hL hl hR hr) (fun q => kf (q) p e R s m args below meth c H locs cells slots ls Z C hc hs hL hl hR hr)
theorem xe_if_ne {x : Int32} {off : Int} {tgt : Nat} (hd : decode M.2.1 pc = .ok (.ifCond .ne off, 3)) (ht : (pc : Int) + off = (tgt : Int)) (kt : x = 0 → xv G l M d k n (pc + 3) lv st h Q) (kf : ¬ x = 0 → xv G l M d k n tgt lv st h Q) : xv G l M d k n pc lv (.int x :: st) h Q :=
  fun p e R s m args below meth c H locs cells slots ls Z C hc hs hL hl hR hr => lv_if_ne C.1 C.2.1 hd ht (fun q => kf (q) p e R s m args below meth c H locs cells slots ls Z C hc hs hL hl hR hr) (fun q => kt (q) p e R s m args below meth c H locs cells slots ls Z C hc hs hL hl hR hr)
theorem xe_if_lt {x : Int32} {off : Int} {tgt : Nat} (hd : decode M.2.1 pc = .ok (.ifCond .lt off, 3)) (ht : (pc : Int) + off = (tgt : Int)) (kt : x < 0 → xv G l M d k n tgt lv st h Q) (kf : ¬ x < 0 → xv G l M d k n (pc + 3) lv st h Q) : xv G l M d k n pc lv (.int x :: st) h Q :=
  fun p e R s m args below meth c H locs cells slots ls Z C hc hs hL hl hR hr => lv_if_lt C.1 C.2.1 hd ht (fun q => kt (q) p e R s m args below meth c H locs cells slots ls Z C hc hs hL hl hR hr) (fun q => kf (q) p e R s m args below meth c H locs cells slots ls Z C hc hs hL hl hR hr)
theorem xe_if_ge {x : Int32} {off : Int} {tgt : Nat} (hd : decode M.2.1 pc = .ok (.ifCond .ge off, 3)) (ht : (pc : Int) + off = (tgt : Int)) (kt : x < 0 → xv G l M d k n (pc + 3) lv st h Q) (kf : ¬ x < 0 → xv G l M d k n tgt lv st h Q) : xv G l M d k n pc lv (.int x :: st) h Q :=
  fun p e R s m args below meth c H locs cells slots ls Z C hc hs hL hl hR hr => lv_if_ge C.1 C.2.1 hd ht (fun q => kf (Int32.not_lt.mpr q) p e R s m args below meth c H locs cells slots ls Z C hc hs hL hl hR hr) (fun q => kt (Int32.not_le.mp q) p e R s m args below meth c H locs cells slots ls Z C hc hs hL hl hR hr)
theorem xe_if_gt {x : Int32} {off : Int} {tgt : Nat} (hd : decode M.2.1 pc = .ok (.ifCond .gt off, 3)) (ht : (pc : Int) + off = (tgt : Int)) (kt : 0 < x → xv G l M d k n tgt lv st h Q) (kf : ¬ 0 < x → xv G l M d k n (pc + 3) lv st h Q) : xv G l M d k n pc lv (.int x :: st) h Q :=
  fun p e R s m args below meth c H locs cells slots ls Z C hc hs hL hl hR hr => lv_if_gt C.1 C.2.1 hd ht (fun q => kt (q) p e R s m args below meth c H locs cells slots ls Z C hc hs hL hl hR hr) (fun q => kf (q) p e R s m args below meth c H locs cells slots ls Z C hc hs hL hl hR hr)
theorem xe_if_le {x : Int32} {off : Int} {tgt : Nat} (hd : decode M.2.1 pc = .ok (.ifCond .le off, 3)) (ht : (pc : Int) + off = (tgt : Int)) (kt : 0 < x → xv G l M d k n (pc + 3) lv st h Q) (kf : ¬ 0 < x → xv G l M d k n tgt lv st h Q) : xv G l M d k n pc lv (.int x :: st) h Q :=
  fun p e R s m args below meth c H locs cells slots ls Z C hc hs hL hl hR hr => lv_if_le C.1 C.2.1 hd ht (fun q => kf (Int32.not_lt.mpr q) p e R s m args below meth c H locs cells slots ls Z C hc hs hL hl hR hr) (fun q => kt (Int32.not_le.mp q) p e R s m args below meth c H locs cells slots ls Z C hc hs hL hl hR hr)
theorem lg_eq0 (x y : Int64) : lg_cmp x y = 0 ↔ x = y := by
  unfold lg_cmp
  by_cases h1 : x > y
  · rw [if_pos h1]
    exact ⟨fun q => absurd q (by decide), fun q => absurd q (fun e => lg_lt_ne h1 e.symm)⟩
  · rw [if_neg h1]
    by_cases h2 : x = y
    · rw [if_pos h2]; exact ⟨fun _ => h2, fun _ => rfl⟩
    · rw [if_neg h2]; exact ⟨fun q => absurd q (by decide), fun q => absurd q h2⟩
theorem xe_lif_eq {x y : Int64} {off : Int} {tgt : Nat} (hd : decode M.2.1 pc = .ok (.ifCond .eq off, 3)) (ht : (pc : Int) + off = (tgt : Int)) (kt : x = y → xv G l M d k n tgt lv st h Q) (kf : ¬ x = y → xv G l M d k n (pc + 3) lv st h Q) : xv G l M d k n pc lv (.int (lg_cmp x y) :: st) h Q :=
  fun p e R s m args below meth c H locs cells slots ls Z C hc hs hL hl hR hr => lv_if_eq C.1 C.2.1 hd ht (fun q => kt ((lg_eq0 x y).mp q) p e R s m args below meth c H locs cells slots ls Z C hc hs hL hl hR hr) (fun q => kf (fun z => q ((lg_eq0 x y).mpr z)) p e R s m args below meth c H locs cells slots ls Z C hc hs hL hl hR hr)
theorem xe_lif_ne {x y : Int64} {off : Int} {tgt : Nat} (hd : decode M.2.1 pc = .ok (.ifCond .ne off, 3)) (ht : (pc : Int) + off = (tgt : Int)) (kt : x = y → xv G l M d k n (pc + 3) lv st h Q) (kf : ¬ x = y → xv G l M d k n tgt lv st h Q) : xv G l M d k n pc lv (.int (lg_cmp x y) :: st) h Q :=
  fun p e R s m args below meth c H locs cells slots ls Z C hc hs hL hl hR hr => lv_if_ne C.1 C.2.1 hd ht (fun q => kf (fun z => q ((lg_eq0 x y).mpr z)) p e R s m args below meth c H locs cells slots ls Z C hc hs hL hl hR hr) (fun q => kt ((lg_eq0 x y).mp q) p e R s m args below meth c H locs cells slots ls Z C hc hs hL hl hR hr)
theorem xe_lif_lt {x y : Int64} {off : Int} {tgt : Nat} (hd : decode M.2.1 pc = .ok (.ifCond .lt off, 3)) (ht : (pc : Int) + off = (tgt : Int)) (kt : x < y → xv G l M d k n tgt lv st h Q) (kf : ¬ x < y → xv G l M d k n (pc + 3) lv st h Q) : xv G l M d k n pc lv (.int (lg_cmp x y) :: st) h Q :=
  fun p e R s m args below meth c H locs cells slots ls Z C hc hs hL hl hR hr => lv_if_lt C.1 C.2.1 hd ht (fun q => kt ((lg_cmp_lt x y).mp q) p e R s m args below meth c H locs cells slots ls Z C hc hs hL hl hR hr) (fun q => kf (fun z => q ((lg_cmp_lt x y).mpr z)) p e R s m args below meth c H locs cells slots ls Z C hc hs hL hl hR hr)
theorem xe_lif_ge {x y : Int64} {off : Int} {tgt : Nat} (hd : decode M.2.1 pc = .ok (.ifCond .ge off, 3)) (ht : (pc : Int) + off = (tgt : Int)) (kt : x < y → xv G l M d k n (pc + 3) lv st h Q) (kf : ¬ x < y → xv G l M d k n tgt lv st h Q) : xv G l M d k n pc lv (.int (lg_cmp x y) :: st) h Q :=
  fun p e R s m args below meth c H locs cells slots ls Z C hc hs hL hl hR hr => lv_if_ge C.1 C.2.1 hd ht (fun q => kf (Int64.not_lt.mpr ((lg_cmp_ge x y).mp q)) p e R s m args below meth c H locs cells slots ls Z C hc hs hL hl hR hr) (fun q => kt (Int64.not_le.mp (fun z => q ((lg_cmp_ge x y).mpr z))) p e R s m args below meth c H locs cells slots ls Z C hc hs hL hl hR hr)
theorem xe_lif_gt {x y : Int64} {off : Int} {tgt : Nat} (hd : decode M.2.1 pc = .ok (.ifCond .gt off, 3)) (ht : (pc : Int) + off = (tgt : Int)) (kt : y < x → xv G l M d k n tgt lv st h Q) (kf : ¬ y < x → xv G l M d k n (pc + 3) lv st h Q) : xv G l M d k n pc lv (.int (lg_cmp x y) :: st) h Q :=
  fun p e R s m args below meth c H locs cells slots ls Z C hc hs hL hl hR hr => lv_if_gt C.1 C.2.1 hd ht (fun q => kt ((lg_cmp_gt x y).mp q) p e R s m args below meth c H locs cells slots ls Z C hc hs hL hl hR hr) (fun q => kf (fun z => q ((lg_cmp_gt x y).mpr z)) p e R s m args below meth c H locs cells slots ls Z C hc hs hL hl hR hr)
theorem xe_lif_le {x y : Int64} {off : Int} {tgt : Nat} (hd : decode M.2.1 pc = .ok (.ifCond .le off, 3)) (ht : (pc : Int) + off = (tgt : Int)) (kt : y < x → xv G l M d k n (pc + 3) lv st h Q) (kf : ¬ y < x → xv G l M d k n tgt lv st h Q) : xv G l M d k n pc lv (.int (lg_cmp x y) :: st) h Q :=
  fun p e R s m args below meth c H locs cells slots ls Z C hc hs hL hl hR hr => lv_if_le C.1 C.2.1 hd ht (fun q => kf (Int64.not_lt.mpr ((lg_cmp_le x y).mp q)) p e R s m args below meth c H locs cells slots ls Z C hc hs hL hl hR hr) (fun q => kt (Int64.not_le.mp (fun z => q ((lg_cmp_le x y).mpr z))) p e R s m args below meth c H locs cells slots ls Z C hc hs hL hl hR hr)
theorem xe_goto {off : Int} {tgt : Nat} (hd : decode M.2.1 pc = .ok (.goto off, 3)) (ht : (pc : Int) + off = (tgt : Int)) (kk : xv G l M d k n tgt lv st h Q) : xv G l M d k n pc lv st h Q :=
  fun p e R s m args below meth c H locs cells slots ls Z C hc hs hL hl hR hr => lv_goto C.1 C.2.1 hd ht (kk p e R s m args below meth c H locs cells slots ls Z C hc hs hL hl hR hr)
theorem xe_ifnull {x : Option Nat} {off : Int} {tgt : Nat} (hd : decode M.2.1 pc = .ok (.ifnull off, 3)) (ht : (pc : Int) + off = (tgt : Int)) (kt : x = none → xv G l M d k n tgt lv st h Q) (kf : ∀ a, x = some a → xv G l M d k n (pc + 3) lv st h Q) : xv G l M d k n pc lv (va_rf x :: st) h Q := by
  intro p e R s m args below meth c H locs cells slots ls Z C hc hs hL hl hR hr
  cases x with
  | none => exact lv_ifnullN C.1 C.2.1 hd ht (kt rfl p e R s m args below meth c H locs cells slots ls Z C hc hs hL hl hR hr)
  | some a => exact lv_ifnull C.1 C.2.1 hd (kf a rfl p e R s m args below meth c H locs cells slots ls Z C hc hs hL hl hR hr)
theorem xe_ifnonnull {x : Option Nat} {off : Int} {tgt : Nat} (hd : decode M.2.1 pc = .ok (.ifnonnull off, 3)) (ht : (pc : Int) + off = (tgt : Int)) (kt : x = none → xv G l M d k n (pc + 3) lv st h Q) (kf : ∀ a, x = some a → xv G l M d k n tgt lv st h Q) : xv G l M d k n pc lv (va_rf x :: st) h Q := by
  intro p e R s m args below meth c H locs cells slots ls Z C hc hs hL hl hR hr
  cases x with
  | none => exact lv_ifnonnullN C.1 C.2.1 hd (kt rfl p e R s m args below meth c H locs cells slots ls Z C hc hs hL hl hR hr)
  | some a => exact lv_ifnonnull C.1 C.2.1 hd ht (kf a rfl p e R s m args below meth c H locs cells slots ls Z C hc hs hL hl hR hr)
theorem xe_ireturn {x : Int32} (hd : decode M.2.1 pc = .ok (.ireturn, 1)) (hq : Q (some (.int x)) h) : xv G l M d k n pc lv (.int x :: []) h Q :=
  fun p e R s m args below meth c H locs cells slots ls Z C hc hs hL hl hR hr => W.widen (k := R.cells) (n := R.slots) (by omega) (by omega) (hr (some (.int x)) h H locs pc ls (.ireturn) hq hR hL hd (Or.inl ⟨rfl, x, rfl⟩))
theorem xe_lreturn {x : Int64} (hd : decode M.2.1 pc = .ok (.lreturn, 1)) (hq : Q (some (.long x)) h) : xv G l M d k n pc lv (.long x :: []) h Q :=
  fun p e R s m args below meth c H locs cells slots ls Z C hc hs hL hl hR hr => W.widen (k := R.cells) (n := R.slots) (by omega) (by omega) (hr (some (.long x)) h H locs pc ls (.lreturn) hq hR hL hd (Or.inr (Or.inl ⟨rfl, x, rfl⟩)))
theorem xe_areturn {x : Option Nat} (hd : decode M.2.1 pc = .ok (.areturn, 1)) (hq : Q (some (va_rf x)) h) : xv G l M d k n pc lv (va_rf x :: []) h Q :=
  fun p e R s m args below meth c H locs cells slots ls Z C hc hs hL hl hR hr => W.widen (k := R.cells) (n := R.slots) (by omega) (by omega) (hr (some (va_rf x)) h H locs pc ls (.areturn) hq hR hL hd (Or.inr (Or.inr (Or.inl ⟨rfl, x, rfl⟩))))
theorem xe_return  (hd : decode M.2.1 pc = .ok (.return_, 1)) (hq : Q (none) h) : xv G l M d k n pc lv ([]) h Q :=
  fun p e R s m args below meth c H locs cells slots ls Z C hc hs hL hl hR hr => W.widen (k := R.cells) (n := R.slots) (by omega) (by omega) (hr (none) h H locs pc ls (.return_) hq hR hL hd (Or.inr (Or.inr (Or.inr ⟨rfl, rfl⟩))))
end XV
