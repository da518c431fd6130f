/-! THE ABSTRACT MACHINE. A heap is: which addresses hold what (an object of a class of vwCl, or an array of a type and a length), the ints, longs and references by address and place, and the size of the real heap. -/
abbrev xT : Type := Nat → Option (Nat ⊕ (FieldType × Nat))
abbrev Hp : Type := xT × (Nat → Nat → Int32) × (Nat → Nat → Int64) × (Nat → Nat → Option Nat) × Nat
def hT (h : Hp) : xT := h.1
def hI (h : Hp) : Nat → Nat → Int32 := h.2.1
def hL (h : Hp) : Nat → Nat → Int64 := h.2.2.1
def hR (h : Hp) : Nat → Nat → Option Nat := h.2.2.2.1
def hz (h : Hp) : Nat := h.2.2.2.2
def up2 {α : Type} (f : Nat → Nat → α) (a k : Nat) (v : α) : Nat → Nat → α := fun b j => if b = a then (if j = k then v else f b j) else f b j
def upr {α : Type} (f : Nat → α) (a : Nat) (r : α) : Nat → α := fun b => if b = a then r else f b
def wI (h : Hp) (a k : Nat) (v : Int32) : Hp := (hT h, up2 (hI h) a k v, hL h, hR h, hz h)
def wL (h : Hp) (a k : Nat) (v : Int64) : Hp := (hT h, hI h, up2 (hL h) a k v, hR h, hz h)
def wR (h : Hp) (a k : Nat) (v : Option Nat) : Hp := (hT h, hI h, hL h, up2 (hR h) a k v, hz h)
def wLr (h : Hp) (a : Nat) (r : Nat → Int64) : Hp := (hT h, hI h, upr (hL h) a r, hR h, hz h)
def aN (h : Hp) (q : Nat ⊕ (FieldType × Nat)) : Hp := (upr (hT h) (hz h) (some q), upr (hI h) (hz h) (fun _ => 0), upr (hL h) (hz h) (fun _ => 0), upr (hR h) (hz h) (fun _ => none), hz h + 1)
/-- the classes by their numbers in vwCl -/
def xty (ci : Nat) : Nat → FieldType := match ci with
  | 0 => tyX0
  | 1 => tyX1
  | 2 => tyX2
  | 3 => tyX4
  | 4 => tyX5
  | 5 => tyX6
  | 6 => tyX7
  | 7 => tyX8
  | 8 => tyX9
  | 9 => tyX10
  | 10 => tyX11
  | _ => tyX12
def xnf (ci : Nat) : Nat := match ci with
  | 0 => 8
  | 1 => 6
  | 2 => 16
  | 3 => 6
  | 4 => 2
  | 5 => 4
  | 6 => 6
  | 7 => 5
  | 8 => 15
  | 9 => 2
  | 10 => 5
  | _ => 67
def xval (h : Hp) (a k : Nat) (ty : FieldType) : Value := match ty with
  | .long => .long (hL h a k)
  | .object _ => va_rf (hR h a k)
  | .array _ => va_rf (hR h a k)
  | _ => .int (hI h a k)
def xfs (h : Hp) (a ci : Nat) : List Value := (List.range (xnf ci)).map (fun k => xval h a k (xty ci k))
def xrow (h : Hp) (a : Nat) (ty : FieldType) : (Nat → Int32) ⊕ (Nat → Int64) ⊕ (Nat → UInt32) ⊕ (Nat → UInt64) ⊕ (Nat → Option Nat) := match ty with
  | .long => .inr (.inl (hL h a))
  | .object _ => .inr (.inr (.inr (.inr (hR h a))))
  | .array _ => .inr (.inr (.inr (.inr (hR h a))))
  | _ => .inl (hI h a)
/-- what is fixed in a run: class numbers and slots, array classes, where the law's own cells begin, where the two tables lie, the script -/
abbrev xG : Type := va_G × (FieldType → ClassId) × Nat × (Nat → Nat) × Nat × (Nat → Int32)
abbrev gB (G : xG) : Nat := G.2.2.1
abbrev xM : Type := MethodName × ByteArray × Nat × Option FieldType
abbrev xLv : Type := List (Nat × Bool × Value)
/-- locals: each with a mark, whether it takes two places -/
def xhas (ls : Array Slot) (nL : Nat) (lv : xLv) : Prop := ls.size = nL ∧ lv_wf ls ∧ ∀ q ∈ lv, ls[q.1]? = some (.val q.2.2) ∧ q.2.1 = (q.2.2.category == 2)
abbrev xV : Type := Int32 ⊕ Int64 ⊕ Option Nat
def xtoV : xV → Value
  | .inl x => .int x
  | .inr (.inl x) => .long x
  | .inr (.inr r) => va_rf r
def xloc : Nat → List xV → xLv
  | _, [] => []
  | i, .inl x :: r => (i, false, .int x) :: xloc (i + 1) r
  | i, .inr (.inl x) :: r => (i, true, .long x) :: xloc (i + 2) r
  | i, .inr (.inr x) :: r => (i, false, va_rf x) :: xloc (i + 1) r
def xwid : List xV → Nat
  | [] => 0
  | .inr (.inl _) :: r => xwid r + 2
  | _ :: r => xwid r + 1
theorem va_rf_cat (r : Option Nat) : (va_rf r).category = 1 := by cases r <;> rfl
theorem xloc_mem (xs : List xV) : ∀ (i : Nat) (q : Nat × Bool × Value), q ∈ xloc i xs → (q.1, q.2.2) ∈ lv_args i (xs.map xtoV) ∧ q.2.1 = (q.2.2.category == 2) := by
  induction xs with
  | nil => intro i q h; cases h
  | cons v r ih =>
    intro i q h
    rcases v with x | x | x
    · rcases List.mem_cons.mp h with rfl | h
      · exact ⟨List.mem_cons_self, rfl⟩
      · exact ⟨List.mem_cons_of_mem _ (ih (i + 1) q h).1, (ih (i + 1) q h).2⟩
    · rcases List.mem_cons.mp h with rfl | h
      · exact ⟨List.mem_cons_self, rfl⟩
      · exact ⟨List.mem_cons_of_mem _ (ih (i + 2) q h).1, (ih (i + 2) q h).2⟩
    · have e : lv_args i (List.map xtoV (.inr (.inr x) :: r)) = (i, va_rf x) :: lv_args (i + 1) (r.map xtoV) := by
        simp [lv_args, xtoV, va_rf_cat]
      rw [e]
      rcases List.mem_cons.mp h with rfl | h
      · exact ⟨List.mem_cons_self, by simp [va_rf_cat]⟩
      · exact ⟨List.mem_cons_of_mem _ (ih (i + 1) q h).1, (ih (i + 1) q h).2⟩
theorem xwid_len (xs : List xV) : (lg_sl (xs.map xtoV)).length = xwid xs := by
  induction xs with
  | nil => rfl
  | cons v r ih =>
    rcases v with x | x | x
    · simp [lg_sl, xtoV, xwid, Value.category] at ih ⊢; exact ih
    · simp [lg_sl, xtoV, xwid, Value.category] at ih ⊢; omega
    · simp [lg_sl, xtoV, xwid, va_rf_cat] at ih ⊢; exact ih
def xent (G : xG) (h : Hp) (a : Nat) (q : Nat ⊕ (FieldType × Nat)) : va_E := match q with
  | .inl ci => .inr (ci, xfs h a ci)
  | .inr t => .inl (G.2.1 t.1, t.2, xrow h a t.1)
abbrev xA (G : xG) : Nat → Prop := fun q => gB G ≤ q
/-- the tables that statics hold: 0 MOVE_UPPER, 1 MOVE_UNDER; 2 is the script -/
def stN (G : xG) (k : Nat) : Nat := match k with
  | 0 => 9
  | 1 => 9
  | _ => G.2.2.2.2.1
def stF (G : xG) (k : Nat) : Nat → Int32 := match k with
  | 0 => fun i => [1, 2, 1, 1, 1, 2, 2, 2, 1].getD i 0
  | 1 => fun i => [0, 0, 0, 1, 2, 0, 1, 2, 1].getD i 0
  | _ => G.2.2.2.2.2
def xS (G : xG) (U : State) (H : Heap) : Prop := (∀ k : Nat, k < 3 → va_T .int (G.2.2.2.1 k) (stN G k) (fun j => .int (stF G k j)) (xA G) U H) ∧ va_Z "SeldomOps" "MOVE_UPPER" "[I" (.ref (G.2.2.2.1 0)) (xA G) U H ∧ va_Z "SeldomOps" "MOVE_UNDER" "[I" (.ref (G.2.2.2.1 1)) (xA G) U H
def xR (G : xG) (h : Hp) (U : State) (H : Heap) : Prop := H.size = hz h ∧ gB G ≤ hz h ∧ (∀ (a : Nat) (q : Nat ⊕ (FieldType × Nat)), hT h a = some q → gB G ≤ a ∧ va_at G.1 vwCl (a, xent G h a q) H) ∧ xS G U H
def xtys : List FieldType := [.int, .long, .boolean, .object "SeldomOps$Call", .object "SeldomOps$Method", .object "SeldomOps$Table"]
def xao : List String := ["SeldomOps$Call", "SeldomOps$Method", "SeldomOps$Table"]
/-- words that a warmer table keeps -/
def xws : List Cond := lw_tbl.filter goodWord
/-- links between nest mates -/
def xnest : List Cond := tables_1.filter (fun w => match w with
  | .fieldLinkNest .. => true
  | .methodLinkNest .. => true
  | _ => false)
def xK (G : xG) (U : State) : Prop := va_K G.1 vwCl (xtys.map fun t => (G.2.1 t, t)) U ∧ (∀ w ∈ xnest, va_Nw w U) ∧ (∀ C ∈ xao, va_AO C U)
theorem xS.moved {G : xG} {u U : State} {H : Heap} (hvm : u.vm.Alike U.vm) (h : xS G u H) : xS G U H := ⟨fun k hk => (h.1 k hk).moved hvm, h.2.1.moved hvm, h.2.2.moved hvm⟩
theorem xS.kept {G : xG} {U : State} {H H1 : Heap} (h : xS G U H) (hq : ∀ a : Nat, a < H.size → ¬ xA G a → H1[a]? = H[a]?) : xS G U H1 := ⟨fun k hk => (h.1 k hk).kept hq, h.2.1.kept hq, h.2.2.kept hq⟩
theorem xR.moved {G : xG} {h : Hp} {u U : State} {H : Heap} (hvm : u.vm.Alike U.vm) (r : xR G h u H) : xR G h U H := ⟨r.1, r.2.1, r.2.2.1, r.2.2.2.moved hvm⟩
theorem xnest_warm {w : Cond} (hw : w ∈ xnest) {s U : State} (hW : s.WarmedH U.vm) (h : va_Nw w s) : va_Nw w U := by
  have h1 := (List.mem_filter.mp hw).2
  cases w <;> first | exact va_Nw.warmF hW h | exact va_Nw.warmM hW h | exact absurd h1 Bool.false_ne_true
theorem xK.warm {G : xG} {s U : State} (hW : s.WarmedH U.vm) (h : xK G s) : xK G U := ⟨va_K.moved hW.alike h.1, fun w hw => xnest_warm hw hW (h.2.1 w hw), fun C hC => (h.2.2 C hC).moved hW.alike⟩
theorem xws_good : ∀ w ∈ xws, goodWord w = true := fun w h => (List.mem_filter.mp h).2
theorem xws_in {w : Cond} (h : w ∈ lw_tbl) (hg : goodWord w = true) : w ∈ xws := List.mem_filter.mpr ⟨h, hg⟩
/-! what a store changes -/
theorem up2_ne {α : Type} {f : Nat → Nat → α} {a k b : Nat} {v : α} (hb : b ≠ a) : up2 f a k v b = f b := by funext j; simp [up2, hb]
theorem upr_ne {α : Type} {f : Nat → α} {a b : Nat} {r : α} (hb : b ≠ a) : upr f a r b = f b := by simp [upr, hb]
theorem upr_eq {α : Type} {f : Nat → α} {a : Nat} {r : α} : upr f a r a = r := by simp [upr]
theorem xent_congr {G : xG} {h g : Hp} {a : Nat} (h1 : hI h a = hI g a) (h2 : hL h a = hL g a) (h3 : hR h a = hR g a) (q : Nat ⊕ (FieldType × Nat)) : xent G h a q = xent G g a q := by
  cases q with
  | inl ci =>
    simp only [xent, xfs]
    congr 2
    apply List.map_congr_left
    intro k _
    unfold xval
    split <;> simp [h1, h2, h3]
  | inr t =>
    simp only [xent]
    congr 3
    unfold xrow
    split <;> simp [h1, h2, h3]
/-- the abstract heap moves at one address, the real one too -/
theorem xR.put {G : xG} {h g : Hp} {U : State} {H H1 : Heap} {a : Nat} {q : Nat ⊕ (FieldType × Nat)} (r : xR G h U H) (hq : hT h a = some q) (hTg : hT g = hT h) (hzg : hz g = hz h) (h1 : ∀ b, b ≠ a → hI g b = hI h b) (h2 : ∀ b, b ≠ a → hL g b = hL h b) (h3 : ∀ b, b ≠ a → hR g b = hR h b)
    (hs : H1.size = H.size) (ho : ∀ b : Nat, b ≠ a → H1[b]? = H[b]?) (he : va_at G.1 vwCl (a, xent G g a q) H1) : xR G g U H1 := by
  obtain ⟨r1, r2, r3, r4⟩ := r
  have hA := (r3 a q hq).1
  refine ⟨by rw [hs, hzg]; exact r1, by rw [hzg]; exact r2, fun b q' hb => ?_, r4.kept fun b _ hn => ho b (fun e => hn (by rw [e]; exact hA))⟩
  rw [hTg] at hb
  by_cases e : b = a
  · subst e
    cases hq.symm.trans hb
    exact ⟨hA, he⟩
  · obtain ⟨c1, c2⟩ := r3 b q' hb
    refine ⟨c1, ?_⟩
    rw [xent_congr (h1 b e) (h2 b e) (h3 b e) q']
    exact c2.kept (ho b e)
/-- a new cell -/
theorem xR.new {G : xG} {h : Hp} {U : State} {H H1 : Heap} {q : Nat ⊕ (FieldType × Nat)} (r : xR G h U H) (hs : H1.size = H.size + 1) (ho : ∀ b : Nat, b < H.size → H1[b]? = H[b]?) (he : va_at G.1 vwCl (hz h, xent G (aN h q) (hz h) q) H1) : xR G (aN h q) U H1 := by
  obtain ⟨r1, r2, r3, r4⟩ := r
  refine ⟨by rw [hs, r1]; rfl, Nat.le_succ_of_le r2, fun b q' hb => ?_, r4.kept fun b hl _ => ho b hl⟩
  have hb' : upr (hT h) (hz h) (some q) b = some q' := hb
  by_cases e : b = hz h
  · subst e
    rw [upr_eq] at hb'
    cases hb'
    exact ⟨r2, he⟩
  · rw [upr_ne e] at hb'
    obtain ⟨c1, c2⟩ := r3 b q' hb'
    refine ⟨c1, ?_⟩
    have e1 : hI (aN h q) b = hI h b := upr_ne e
    have e2 : hL (aN h q) b = hL h b := upr_ne e
    have e3 : hR (aN h q) b = hR h b := upr_ne e
    rw [xent_congr e1 e2 e3 q']
    exact c2.kept (ho b (va_at.lt c2))
/-! the judgements -/
abbrev xPost : Type := Option Value → Hp → Prop
def xC (G : xG) (M : xM) (d : Nat) (p : Program) (R : Room) (s : State) (m : MethodId) (args : Array Value) (meth : Method) (c : Code) : Prop :=
  p.tables.exec = Jvm.exec ∧ c.code = M.2.1 ∧ meth.sig.returnType = M.2.2.2 ∧ c.maxLocals = M.2.2.1 ∧ s.vm.findClass M.1.cls = some m.cls ∧ (∀ w ∈ xws, w.before args s = true) ∧ meth.locks = false ∧ meth.name = M.1.name ∧ xK G s ∧ d ≤ R.frames ∧ d * 64 ≤ R.locals
def xRet (i : Instr) (v : Option Value) : Prop := (i = .ireturn ∧ ∃ x, v = some (.int x)) ∨ (i = .lreturn ∧ ∃ x, v = some (.long x)) ∨ (i = .areturn ∧ ∃ x, v = some (va_rf x)) ∨ (i = .return_ ∧ v = none)
/-- what is left of a method, from pc on: it comes to a return with Q -/
def xv (G : xG) (l : Launch) (M : xM) (d k n pc : Nat) (lv : xLv) (st : List Value) (h : Hp) (Q : xPost) : Prop :=
  ∀ (p : Program) (e : Env) (R : Room) (s : State) (m : MethodId) (args : Array Value) (below : List Frame) (meth : Method) (c : Code) (H : Heap) (locs : List Loc) (cells slots : Nat) (ls : Array Slot) (Z : State → Prop),
    xC G M d p R s m args meth c → cells + k ≤ R.cells → slots + n ≤ R.slots → (∀ q ∈ locs, gB G ≤ q.base) → xhas ls M.2.2.1 lv → xR G h s H →
    (∀ (v : Option Value) (h' : Hp) (H' : Heap) (locs' : List Loc) (pc' : Nat) (ls' : Array Slot) (i : Instr), Q v h' → xR G h' s H' → (∀ q ∈ locs', gB G ≤ q.base) → decode M.2.1 pc' = .ok (i, 1) → xRet i v → W p l e R s m args below meth c H' locs' R.cells R.slots Z (F0 m pc' ls' v.toList)) →
    W p l e R s m args below meth c H locs cells slots Z (F0 m pc ls st)
def xQ (G : xG) (Q : xPost) : Array Value → State → Outcome → State → Prop := fun _ _ o t => ∃ (v : Option Value) (h' : Hp), o = .returned v ∧ Q v h' ∧ xK G t ∧ xR G h' t t.heap
def xrm (d k n : Nat) : Room := { frames := d, cells := k, slots := n, locals := d * 64 }
def xwm (M : xM) : List Cond := Cond.code M.1 M.2.1 M.2.2.1 M.2.2.2 :: xws
/-- a method's contract at these arguments and this heap -/
def xc (G : xG) (l : Launch) (M : xM) (d k n : Nat) (av : List Value) (h : Hp) (Q : xPost) : Prop := Met l M.1 (xwm M) (xrm d k n) (va_Pc av (fun U => xK G U ∧ xR G h U U.heap)) (xQ G Q) k n (xA G)
theorem xv.weaken {G : xG} {l : Launch} {M : xM} {d k n k' n' pc : Nat} {lv : xLv} {st : List Value} {h : Hp} {Q : xPost} (v : xv G l M d k n pc lv st h Q) (hk : k ≤ k') (hn : n ≤ n') : xv G l M d k' n' pc lv st h Q :=
  fun p e R s m args below meth c H locs cells slots ls Z C hc hs hL hl hR hr => v p e R s m args below meth c H locs cells slots ls Z C (by omega) (by omega) hL hl hR hr
theorem xv.post {G : xG} {l : Launch} {M : xM} {d k n pc : Nat} {lv : xLv} {st : List Value} {h : Hp} {Q Q' : xPost} (v : xv G l M d k n pc lv st h Q) (hq : ∀ v h, Q v h → Q' v h) : xv G l M d k n pc lv st h Q' :=
  fun p e R s m args below meth c H locs cells slots ls Z C hc hs hL hl hR hr => v p e R s m args below meth c H locs cells slots ls Z C hc hs hL hl hR (fun v h' H' locs' pc' ls' i q => hr v h' H' locs' pc' ls' i (hq v h' q))
theorem xv.lv {G : xG} {l : Launch} {M : xM} {d k n pc : Nat} {lv lv' : xLv} {st : List Value} {h : Hp} {Q : xPost} (v : xv G l M d k n pc lv' st h Q) (hq : ∀ q ∈ lv', q ∈ lv) : xv G l M d k n pc lv st h Q :=
  fun p e R s m args below meth c H locs cells slots ls Z C hc hs hL hl hR hr => v p e R s m args below meth c H locs cells slots ls Z C hc hs hL ⟨hl.1, hl.2.1, fun q h => hl.2.2 q (hq q h)⟩ hR hr
/-- a method's contract out of its walk -/
theorem xc_of {G : xG} {l : Launch} {M : xM} {d k n : Nat} (xs : List xV) {h : Hp} {Q : xPost} (hp : plainName M.1.cls = true) (hm : xwid xs ≤ M.2.2.1) (hret : (M.2.2.2 = none ∨ M.2.2.2 = some .int ∨ M.2.2.2 = some .long ∨ (∃ n, M.2.2.2 = some (.object n)) ∨ (M.2.2.2 = some .boolean ∧ ∀ v g, Q v g → v = some (.int 0) ∨ v = some (.int 1))))
    (hty : ∀ v g, Q v g → (v = none ∧ M.2.2.2 = none) ∨ (∃ x, v = some (.int x) ∧ (M.2.2.2 = some .int ∨ M.2.2.2 = some .boolean)) ∨ (∃ x, v = some (.long x) ∧ M.2.2.2 = some .long) ∨ (∃ x n, v = some (va_rf x) ∧ M.2.2.2 = some (.object n)))
    (hv : xv G l M d k n 0 (xloc 0 xs) [] h Q) : xc G l M d k n (xs.map xtoV) h Q := by
  refine Met.ofW (cc := M.2.1) (maxL := M.2.2.1) (ret := M.2.2.2) hp rfl ?_
  intro p e s m args below meth c s₁ B hml hpre
  obtain ⟨rfl, hK, hR⟩ := hpre
  have hts := atoms_spec (ws := xwm M) B.pre
  have hlocks := B.notSynchronized
  have hl := lv_entry (xs.map xtoV) (n := M.2.2.1) (by rw [xwid_len]; exact hm)
  rw [lg_entry_eq]
  refine hv p e (xrm d k n) s m _ below meth c s.heap [] 0 0 _ _ ⟨B.exec, B.bytes, B.returns, hml, findClass_of_methodNamed B.named, fun w hw => hts w (List.mem_cons_of_mem _ hw), hlocks, (name_of_methodNamed B.named B.method).1, hK, Nat.le_refl _, Nat.le_refl _⟩ (by simp [xrm]) (by simp [xrm]) (fun _ h => by cases h) ⟨hl.1, hl.2.1, fun q hq => ⟨hl.2.2 _ (xloc_mem xs 0 q hq).1, (xloc_mem xs 0 q hq).2⟩⟩ hR ?_
  intro v h' H' locs' pc' ls' i hQ hR' hL' hd hi
  have key : ∀ t : State, t.heap = H' → s.WarmedH t.vm → xQ G Q (xs.map xtoV).toArray s (.returned v) t := fun t ht hW => ⟨v, h', rfl, hQ, hK.warm hW, by rw [ht]; exact hR'.moved hW.alike⟩
  have hrt := B.returns
  rcases hi with ⟨rfl, x, rfl⟩ | ⟨rfl, x, rfl⟩ | ⟨rfl, x, rfl⟩ | ⟨rfl, rfl⟩
  · rcases hty _ _ hQ with ⟨e1, -⟩ | ⟨y, -, e2 | e2⟩ | ⟨y, e1, -⟩ | ⟨y, m', e1, -⟩
    · cases e1
    · exact W.iret B.exec B.bytes (hrt.trans e2) key hL' hd
    · have hz : x = 0 ∨ x = 1 := by
        rcases hret with e | e | e | ⟨m', e⟩ | ⟨-, e⟩
        · rw [e] at e2; cases e2
        · rw [e] at e2; cases e2
        · rw [e] at e2; cases e2
        · rw [e] at e2; cases e2
        · rcases e _ _ hQ with q | q
          · left; cases q; rfl
          · right; cases q; rfl
      refine W.zret B.exec B.bytes (hrt.trans e2) ?_ key hL' hd
      rcases hz with rfl | rfl <;> rfl
    · cases e1
    · cases y <;> cases e1
  · rcases hty _ _ hQ with ⟨e1, -⟩ | ⟨y, e1, -⟩ | ⟨y, -, e2⟩ | ⟨y, m', e1, -⟩
    · cases e1
    · cases e1
    · exact W.lret B.exec B.bytes (hrt.trans e2) key hL' hd
    · cases y <;> cases e1
  · rcases hty _ _ hQ with ⟨e1, -⟩ | ⟨y, e1, -⟩ | ⟨y, e1, -⟩ | ⟨y, m', -, e2⟩
    · cases x <;> cases e1
    · cases x <;> cases e1
    · cases x <;> cases e1
    · exact W.aret B.exec B.bytes (hrt.trans e2) (Or.inl ⟨m', rfl⟩) (by cases x with | none => exact Or.inl rfl | some a => exact Or.inr ⟨a, rfl⟩) key hL' hd
  · rcases hty _ _ hQ with ⟨-, e2⟩ | ⟨y, e1, -⟩ | ⟨y, e1, -⟩ | ⟨y, m', e1, -⟩
    · exact W.vret B.exec B.bytes (hrt.trans e2) key hL' hd
    · cases e1
    · cases e1
    · cases y <;> cases e1
