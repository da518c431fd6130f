/-! THE COMBINATORS of the functions that are printed for the methods, what a good end says of each, and the rules that walk them -/
section CB
variable {α : Type}
def gI (h : Hp) (r : Option Nat) (ci f : Nat) (c : Int32 → Option α) : Option α := match r with
  | none => none
  | some a => if hT h a = some (.inl ci) then c (hI h a f) else none
def gL (h : Hp) (r : Option Nat) (ci f : Nat) (c : Int64 → Option α) : Option α := match r with
  | none => none
  | some a => if hT h a = some (.inl ci) then c (hL h a f) else none
def gR (h : Hp) (r : Option Nat) (ci f : Nat) (c : Option Nat → Option α) : Option α := match r with
  | none => none
  | some a => if hT h a = some (.inl ci) then c (hR h a f) else none
def pI (h : Hp) (r : Option Nat) (ci f : Nat) (x : Int32) (c : Hp → Option α) : Option α := match r with
  | none => none
  | some a => if hT h a = some (.inl ci) then c (wI h a f x) else none
def pZ (h : Hp) (r : Option Nat) (ci f : Nat) (x : Int32) (c : Hp → Option α) : Option α := match r with
  | none => none
  | some a => if hT h a = some (.inl ci) ∧ (x = 0 ∨ x = 1) then c (wI h a f x) else none
def pL (h : Hp) (r : Option Nat) (ci f : Nat) (x : Int64) (c : Hp → Option α) : Option α := match r with
  | none => none
  | some a => if hT h a = some (.inl ci) then c (wL h a f x) else none
def pR (h : Hp) (r : Option Nat) (ci f : Nat) (x : Option Nat) (c : Hp → Option α) : Option α := match r with
  | none => none
  | some a => if hT h a = some (.inl ci) then c (wR h a f x) else none
/-- an array's length, if it is one of that type -/
def arl (h : Hp) (r : Option Nat) (t : FieldType) (c : Nat → Nat → Option α) : Option α := match r with
  | none => none
  | some a => match hT h a with
    | some (.inr (t', n)) => if t' = t then c a n else none
    | _ => none
def inb (i : Int32) (n : Nat) (c : Option α) : Option α := if i < 0 ∨ n ≤ i.toNatClampNeg then none else c
def aI (h : Hp) (r : Option Nat) (t : FieldType) (i : Int32) (c : Int32 → Option α) : Option α := arl h r t fun a n => inb i n (c (hI h a i.toNatClampNeg))
def aL (h : Hp) (r : Option Nat) (i : Int32) (c : Int64 → Option α) : Option α := arl h r .long fun a n => inb i n (c (hL h a i.toNatClampNeg))
def aR (h : Hp) (r : Option Nat) (C : String) (i : Int32) (c : Option Nat → Option α) : Option α := arl h r (.object C) fun a n => inb i n (c (hR h a i.toNatClampNeg))
def ln (h : Hp) (r : Option Nat) (t : FieldType) (c : Int32 → Option α) : Option α := arl h r t fun _ n => c (Int32.ofNat n)
def sI (h : Hp) (r : Option Nat) (i x : Int32) (c : Hp → Option α) : Option α := arl h r .int fun a n => inb i n (c (wI h a i.toNatClampNeg x))
def sZ (h : Hp) (r : Option Nat) (i x : Int32) (c : Hp → Option α) : Option α := arl h r .boolean fun a n => inb i n (if x = 0 ∨ x = 1 then c (wI h a i.toNatClampNeg x) else none)
def sL (h : Hp) (r : Option Nat) (i : Int32) (x : Int64) (c : Hp → Option α) : Option α := arl h r .long fun a n => inb i n (c (wL h a i.toNatClampNeg x))
def sR (h : Hp) (r : Option Nat) (C : String) (ci : Nat) (i : Int32) (x : Option Nat) (c : Hp → Option α) : Option α := arl h r (.object C) fun a n => inb i n (match x with
  | none => none
  | some b => if hT h b = some (.inl ci) then c (wR h a i.toNatClampNeg (some b)) else none)
def cp (h : Hp) (r0 : Option Nat) (sp : Int32) (r1 : Option Nat) (dp x : Int32) (c : Hp → Option α) : Option α := arl h r0 .long fun a0 n0 => arl h r1 .long fun a1 n1 => if sp < 0 ∨ dp < 0 ∨ x < 0 ∨ n0 < sp.toNatClampNeg + x.toNatClampNeg ∨ n1 < dp.toNatClampNeg + x.toNatClampNeg then none else c (wLr h a1 (va_cpy (hL h a0) (hL h a1) sp.toNatClampNeg dp.toNatClampNeg x.toNatClampNeg))
def cl {β : Type} (o : Option (β × Hp)) (c : β → Hp → Option α) : Option α := match o with
  | none => none
  | some q => c q.1 q.2
def nz (r : Option Nat) (a b : Option α) : Option α := match r with
  | none => a
  | some _ => b
def rcv (h : Hp) (r : Option Nat) (ci : Nat) (c : Option α) : Option α := match r with
  | none => none
  | some a => if hT h a = some (.inl ci) then c else none
def bz (x : Int32) (c : Option α) : Option α := if x = 0 ∨ x = 1 then c else none
def tU (i : Int32) (c : Int32 → Option α) : Option α := inb i 9 (c ([1, 2, 1, 1, 1, 2, 2, 2, 1].getD i.toNatClampNeg 0))
def tV (i : Int32) (c : Int32 → Option α) : Option α := inb i 9 (c ([0, 0, 0, 1, 2, 0, 1, 2, 1].getD i.toNatClampNeg 0))
variable {h : Hp} {r r0 r1 : Option Nat} {ci f : Nat} {y : α}
theorem gI_inv {c : Int32 → Option α} (e : gI h r ci f c = some y) : ∃ a, r = some a ∧ hT h a = some (.inl ci) ∧ c (hI h a f) = some y := by
  unfold gI at e
  split at e
  · cases e
  · split at e
    · exact ⟨_, rfl, ‹_›, e⟩
    · cases e
theorem gL_inv {c : Int64 → Option α} (e : gL h r ci f c = some y) : ∃ a, r = some a ∧ hT h a = some (.inl ci) ∧ c (hL h a f) = some y := by
  unfold gL at e
  split at e
  · cases e
  · split at e
    · exact ⟨_, rfl, ‹_›, e⟩
    · cases e
theorem gR_inv {c : Option Nat → Option α} (e : gR h r ci f c = some y) : ∃ a, r = some a ∧ hT h a = some (.inl ci) ∧ c (hR h a f) = some y := by
  unfold gR at e
  split at e
  · cases e
  · split at e
    · exact ⟨_, rfl, ‹_›, e⟩
    · cases e
theorem pI_inv {x : Int32} {c : Hp → Option α} (e : pI h r ci f x c = some y) : ∃ a, r = some a ∧ hT h a = some (.inl ci) ∧ c (wI h a f x) = some y := by
  unfold pI at e
  split at e
  · cases e
  · split at e
    · exact ⟨_, rfl, ‹_›, e⟩
    · cases e
theorem pZ_inv {x : Int32} {c : Hp → Option α} (e : pZ h r ci f x c = some y) : ∃ a, r = some a ∧ hT h a = some (.inl ci) ∧ (x = 0 ∨ x = 1) ∧ c (wI h a f x) = some y := by
  unfold pZ at e
  split at e
  · cases e
  · split at e
    · rename_i q
      exact ⟨_, rfl, q.1, q.2, e⟩
    · cases e
theorem pL_inv {x : Int64} {c : Hp → Option α} (e : pL h r ci f x c = some y) : ∃ a, r = some a ∧ hT h a = some (.inl ci) ∧ c (wL h a f x) = some y := by
  unfold pL at e
  split at e
  · cases e
  · split at e
    · exact ⟨_, rfl, ‹_›, e⟩
    · cases e
theorem pR_inv {x : Option Nat} {c : Hp → Option α} (e : pR h r ci f x c = some y) : ∃ a, r = some a ∧ hT h a = some (.inl ci) ∧ c (wR h a f x) = some y := by
  unfold pR at e
  split at e
  · cases e
  · split at e
    · exact ⟨_, rfl, ‹_›, e⟩
    · cases e
theorem arl_inv {t : FieldType} {c : Nat → Nat → Option α} (e : arl h r t c = some y) : ∃ a n, r = some a ∧ hT h a = some (.inr (t, n)) ∧ c a n = some y := by
  unfold arl at e
  split at e
  · cases e
  · split at e
    · split at e
      · rename_i q z
        subst z
        exact ⟨_, _, rfl, q, e⟩
      · cases e
    · cases e
theorem inb_inv {i : Int32} {n : Nat} {c : Option α} (e : inb i n c = some y) : vp_in i n ∧ c = some y := by
  unfold inb at e
  split at e
  · cases e
  · exact ⟨‹_›, e⟩
theorem aI_inv {t : FieldType} {i : Int32} {c : Int32 → Option α} (e : aI h r t i c = some y) : ∃ a n, r = some a ∧ hT h a = some (.inr (t, n)) ∧ vp_in i n ∧ c (hI h a i.toNatClampNeg) = some y := by
  obtain ⟨a, n, h1, h2, h3⟩ := arl_inv e
  exact ⟨a, n, h1, h2, inb_inv h3⟩
theorem aL_inv {i : Int32} {c : Int64 → Option α} (e : aL h r i c = some y) : ∃ a n, r = some a ∧ hT h a = some (.inr (.long, n)) ∧ vp_in i n ∧ c (hL h a i.toNatClampNeg) = some y := by
  obtain ⟨a, n, h1, h2, h3⟩ := arl_inv e
  exact ⟨a, n, h1, h2, inb_inv h3⟩
theorem aR_inv {C : String} {i : Int32} {c : Option Nat → Option α} (e : aR h r C i c = some y) : ∃ a n, r = some a ∧ hT h a = some (.inr (.object C, n)) ∧ vp_in i n ∧ c (hR h a i.toNatClampNeg) = some y := by
  obtain ⟨a, n, h1, h2, h3⟩ := arl_inv e
  exact ⟨a, n, h1, h2, inb_inv h3⟩
theorem ln_inv {t : FieldType} {c : Int32 → Option α} (e : ln h r t c = some y) : ∃ a n, r = some a ∧ hT h a = some (.inr (t, n)) ∧ c (Int32.ofNat n) = some y := arl_inv e
theorem sI_inv {i x : Int32} {c : Hp → Option α} (e : sI h r i x c = some y) : ∃ a n, r = some a ∧ hT h a = some (.inr (.int, n)) ∧ vp_in i n ∧ c (wI h a i.toNatClampNeg x) = some y := by
  obtain ⟨a, n, h1, h2, h3⟩ := arl_inv e
  exact ⟨a, n, h1, h2, inb_inv h3⟩
theorem sZ_inv {i x : Int32} {c : Hp → Option α} (e : sZ h r i x c = some y) : ∃ a n, r = some a ∧ hT h a = some (.inr (.boolean, n)) ∧ vp_in i n ∧ (x = 0 ∨ x = 1) ∧ c (wI h a i.toNatClampNeg x) = some y := by
  obtain ⟨a, n, h1, h2, h3⟩ := arl_inv e
  obtain ⟨h4, h5⟩ := inb_inv h3
  split at h5
  · exact ⟨a, n, h1, h2, h4, ‹_›, h5⟩
  · cases h5
theorem sL_inv {i : Int32} {x : Int64} {c : Hp → Option α} (e : sL h r i x c = some y) : ∃ a n, r = some a ∧ hT h a = some (.inr (.long, n)) ∧ vp_in i n ∧ c (wL h a i.toNatClampNeg x) = some y := by
  obtain ⟨a, n, h1, h2, h3⟩ := arl_inv e
  exact ⟨a, n, h1, h2, inb_inv h3⟩
theorem sR_inv {C : String} {i : Int32} {x : Option Nat} {c : Hp → Option α} (e : sR h r C ci i x c = some y) : ∃ a n b, r = some a ∧ hT h a = some (.inr (.object C, n)) ∧ vp_in i n ∧ x = some b ∧ hT h b = some (.inl ci) ∧ c (wR h a i.toNatClampNeg (some b)) = some y := by
  obtain ⟨a, n, h1, h2, h3⟩ := arl_inv e
  obtain ⟨h4, h5⟩ := inb_inv h3
  split at h5
  · cases h5
  · split at h5
    · exact ⟨a, n, _, h1, h2, h4, rfl, ‹_›, h5⟩
    · cases h5
theorem cp_inv {sp dp x : Int32} {c : Hp → Option α} (e : cp h r0 sp r1 dp x c = some y) : ∃ a0 n0 a1 n1, r0 = some a0 ∧ hT h a0 = some (.inr (.long, n0)) ∧ r1 = some a1 ∧ hT h a1 = some (.inr (.long, n1)) ∧ ¬ sp < 0 ∧ ¬ dp < 0 ∧ ¬ x < 0 ∧ sp.toNatClampNeg + x.toNatClampNeg ≤ n0 ∧ dp.toNatClampNeg + x.toNatClampNeg ≤ n1 ∧ c (wLr h a1 (va_cpy (hL h a0) (hL h a1) sp.toNatClampNeg dp.toNatClampNeg x.toNatClampNeg)) = some y := by
  obtain ⟨a0, n0, h1, h2, h3⟩ := arl_inv e
  obtain ⟨a1, n1, h4, h5, h6⟩ := arl_inv h3
  split at h6
  · cases h6
  · rename_i q
    exact ⟨a0, n0, a1, n1, h1, h2, h4, h5, fun z => q (Or.inl z), fun z => q (Or.inr (Or.inl z)), fun z => q (Or.inr (Or.inr (Or.inl z))), Nat.not_lt.mp fun z => q (Or.inr (Or.inr (Or.inr (Or.inl z)))), Nat.not_lt.mp fun z => q (Or.inr (Or.inr (Or.inr (Or.inr z)))), h6⟩
theorem cl_inv {β : Type} {o : Option (β × Hp)} {c : β → Hp → Option α} (e : cl o c = some y) : ∃ v g, o = some (v, g) ∧ c v g = some y := by
  unfold cl at e
  split at e
  · cases e
  · exact ⟨_, _, rfl, e⟩
theorem rcv_inv {c : Option α} (e : rcv h r ci c = some y) : ∃ a, r = some a ∧ hT h a = some (.inl ci) ∧ c = some y := by
  unfold rcv at e
  split at e
  · cases e
  · split at e
    · exact ⟨_, rfl, ‹_›, e⟩
    · cases e
theorem nzn_inv {c : Option α} (e : nz r none c = some y) : ∃ a, r = some a ∧ c = some y := by
  unfold nz at e
  split at e
  · cases e
  · exact ⟨_, rfl, e⟩
theorem nz_n {a b : Option α} (e : r = none) : nz r a b = a := by rw [e]; rfl
theorem nz_s {a b : Option α} {x : Nat} (e : r = some x) : nz r a b = b := by rw [e]; rfl
theorem bz_inv {x : Int32} {c : Option α} (e : bz x c = some y) : (x = 0 ∨ x = 1) ∧ c = some y := by
  unfold bz at e
  split at e
  · exact ⟨‹_›, e⟩
  · cases e
theorem dv_inv {p : Prop} [Decidable p] {c : Option α} (e : (if p then none else c) = some y) : ¬ p ∧ c = some y := by
  split at e
  · cases e
  · exact ⟨‹_›, e⟩
end CB
/-! what a method answers -/
def mkV (_ : Unit) : Option Value := none
def mkI (x : Int32) : Option Value := some (.int x)
def mkL (x : Int64) : Option Value := some (.long x)
def mkR (x : Option Nat) : Option Value := some (va_rf x)
def xP {β : Type} (mk : β → Option Value) (r : β) (g : Hp) : xPost := fun v h => v = mk r ∧ h = g
def xPZ (r : Int32) (g : Hp) : xPost := fun v h => v = mkI r ∧ h = g ∧ (r = 0 ∨ r = 1)
theorem xPZ_q {r : Int32} {g : Hp} : ∀ v h', xPZ r g v h' → v = mkI r ∧ h' = g := fun _ _ q => ⟨q.1, q.2.1⟩
theorem xP_q {β : Type} {mk : β → Option Value} {r : β} {g : Hp} : ∀ v h', xP mk r g v h' → v = mk r ∧ h' = g := fun _ _ q => q
theorem if_p {α : Type} {c : Prop} [Decidable c] {a b : Option α} {y : α} (hc : c) (e : (if c then a else b) = some y) : a = some y := by rw [if_pos hc] at e; exact e
theorem if_n {α : Type} {c : Prop} [Decidable c] {a b : Option α} {y : α} (hc : ¬ c) (e : (if c then a else b) = some y) : b = some y := by rw [if_neg hc] at e; exact e
theorem nz_n' {α : Type} {r : Option Nat} {a b : Option α} {y : α} (e : r = none) (f : nz r a b = some y) : a = some y := by rw [nz_n e] at f; exact f
theorem nz_s' {α : Type} {r : Option Nat} {a b : Option α} {y : α} {x : Nat} (e : r = some x) (f : nz r a b = some y) : b = some y := by rw [nz_s e] at f; exact f
section XO
variable {G : xG} {l : Launch} {M : xM} {d k n : Nat} {h h' : Hp}
theorem xo_V (xs : List xV) {r : Unit} (hp : plainName M.1.cls = true) (hm : xwid xs ≤ M.2.2.1) (hr : M.2.2.2 = none) (hv : xv G l M d k n 0 (xloc 0 xs) [] h (xP mkV r h')) : xc G l M d k n (xs.map xtoV) h (xP mkV r h') := xc_of xs hp hm (Or.inl hr) (fun v g q => Or.inl ⟨q.1, hr⟩) hv
theorem xo_I (xs : List xV) {r : Int32} (hp : plainName M.1.cls = true) (hm : xwid xs ≤ M.2.2.1) (hr : M.2.2.2 = some .int) (hv : xv G l M d k n 0 (xloc 0 xs) [] h (xP mkI r h')) : xc G l M d k n (xs.map xtoV) h (xP mkI r h') := xc_of xs hp hm (Or.inr (Or.inl hr)) (fun v g q => Or.inr (Or.inl ⟨r, q.1, Or.inl hr⟩)) hv
theorem xo_Z (xs : List xV) {r : Int32} (hp : plainName M.1.cls = true) (hm : xwid xs ≤ M.2.2.1) (hr : M.2.2.2 = some .boolean) (hv : xv G l M d k n 0 (xloc 0 xs) [] h (xPZ r h')) : xc G l M d k n (xs.map xtoV) h (xPZ r h') := xc_of xs hp hm (Or.inr (Or.inr (Or.inr (Or.inr ⟨hr, fun v g q => q.2.2.elim (fun e => Or.inl (by rw [q.1, e]; rfl)) (fun e => Or.inr (by rw [q.1, e]; rfl))⟩)))) (fun v g q => Or.inr (Or.inl ⟨r, q.1, Or.inr hr⟩)) hv
theorem xo_L (xs : List xV) {r : Int64} (hp : plainName M.1.cls = true) (hm : xwid xs ≤ M.2.2.1) (hr : M.2.2.2 = some .long) (hv : xv G l M d k n 0 (xloc 0 xs) [] h (xP mkL r h')) : xc G l M d k n (xs.map xtoV) h (xP mkL r h') := xc_of xs hp hm (Or.inr (Or.inr (Or.inl hr))) (fun v g q => Or.inr (Or.inr (Or.inl ⟨r, q.1, hr⟩))) hv
theorem xo_R (xs : List xV) {r : Option Nat} {C : String} (hp : plainName M.1.cls = true) (hm : xwid xs ≤ M.2.2.1) (hr : M.2.2.2 = some (.object C)) (hv : xv G l M d k n 0 (xloc 0 xs) [] h (xP mkR r h')) : xc G l M d k n (xs.map xtoV) h (xP mkR r h') := xc_of xs hp hm (Or.inr (Or.inr (Or.inr (Or.inl ⟨C, hr⟩)))) (fun v g q => Or.inr (Or.inr (Or.inr ⟨r, C, q.1, hr⟩))) hv
end XO
section XQ
variable {G : xG} {l : Launch} {M : xM} {d k n pc : Nat} {lv : xLv} {st : List Value} {h : Hp} {Q : xPost} {r r0 r1 : Option Nat} {idx ci f a : Nat} {fin : Bool}
theorem xq_get {v : Value} (hd : decode M.2.1 pc = .ok (.getfield idx, 3)) (hf : xfl M.1.cls idx ci f fin) (hcl : xcl ci) (hr : r = some a) (hT0 : hT h a = some (.inl ci)) (hv : xval h a f (xty ci f) = v) (kk : xv G l M d k n (pc + 3) lv (v :: st) h Q) : xv G l M d k n pc lv (va_rf r :: st) h Q := by
  subst hr; exact xe_get hd hf hcl hT0 hv kk
theorem xq_getI (hd : decode M.2.1 pc = .ok (.getfield idx, 3)) (hf : xfl M.1.cls idx ci f fin) (hcl : xcl ci) (hr : r = some a) (hT0 : hT h a = some (.inl ci)) (hv : xval h a f (xty ci f) = .int (hI h a f)) (kk : xv G l M d k n (pc + 3) lv (.int (hI h a f) :: st) h Q) : xv G l M d k n pc lv (va_rf r :: st) h Q := xq_get hd hf hcl hr hT0 hv kk
theorem xq_getL (hd : decode M.2.1 pc = .ok (.getfield idx, 3)) (hf : xfl M.1.cls idx ci f fin) (hcl : xcl ci) (hr : r = some a) (hT0 : hT h a = some (.inl ci)) (hv : xval h a f (xty ci f) = .long (hL h a f)) (kk : xv G l M d k n (pc + 3) lv (.long (hL h a f) :: st) h Q) : xv G l M d k n pc lv (va_rf r :: st) h Q := xq_get hd hf hcl hr hT0 hv kk
theorem xq_getR (hd : decode M.2.1 pc = .ok (.getfield idx, 3)) (hf : xfl M.1.cls idx ci f fin) (hcl : xcl ci) (hr : r = some a) (hT0 : hT h a = some (.inl ci)) (hv : xval h a f (xty ci f) = va_rf (hR h a f)) (kk : xv G l M d k n (pc + 3) lv (va_rf (hR h a f) :: st) h Q) : xv G l M d k n pc lv (va_rf r :: st) h Q := xq_get hd hf hcl hr hT0 hv kk
theorem xq_putI {x : Int32} (hd : decode M.2.1 pc = .ok (.putfield idx, 3)) (hf : xfl M.1.cls idx ci f fin) (hcl : xcl ci) (hlt : f < xnf ci) (hfin : fin = true → M.1.name = "<init>" ∧ ∃ T N, vwCl[ci]? = some (M.1.cls, T, N)) (hr : r = some a) (hT0 : hT h a = some (.inl ci)) (hx : xty ci f = .int ∨ (xty ci f = .boolean ∧ (x = 0 ∨ x = 1)))
    (kk : xv G l M d k n (pc + 3) lv st (wI h a f x) Q) : xv G l M d k n pc lv (.int x :: va_rf r :: st) h Q := by
  subst hr; exact xe_putI hd hf hcl hlt hfin hT0 hx kk
theorem xq_putL {x : Int64} (hd : decode M.2.1 pc = .ok (.putfield idx, 3)) (hf : xfl M.1.cls idx ci f fin) (hcl : xcl ci) (hlt : f < xnf ci) (hfin : fin = true → M.1.name = "<init>" ∧ ∃ T N, vwCl[ci]? = some (M.1.cls, T, N)) (hr : r = some a) (hT0 : hT h a = some (.inl ci)) (hx : xty ci f = .long)
    (kk : xv G l M d k n (pc + 3) lv st (wL h a f x) Q) : xv G l M d k n pc lv (.long x :: va_rf r :: st) h Q := by
  subst hr; exact xe_putL hd hf hcl hlt hfin hT0 hx kk
theorem xq_putR {x : Option Nat} (hd : decode M.2.1 pc = .ok (.putfield idx, 3)) (hf : xfl M.1.cls idx ci f fin) (hcl : xcl ci) (hlt : f < xnf ci) (hfin : fin = true → M.1.name = "<init>" ∧ ∃ T N, vwCl[ci]? = some (M.1.cls, T, N)) (hr : r = some a) (hT0 : hT h a = some (.inl ci)) (hx : (∃ C, xty ci f = .object C) ∨ ∃ t, xty ci f = .array t)
    (kk : xv G l M d k n (pc + 3) lv st (wR h a f x) Q) : xv G l M d k n pc lv (va_rf x :: va_rf r :: st) h Q := by
  subst hr; exact xe_putR hd hf hcl hlt hfin hT0 hx kk
theorem xq_iald {nn : Nat} {i : Int32} (hd : decode M.2.1 pc = .ok (.iaload, 1)) (hr : r = some a) (hT0 : hT h a = some (.inr (.int, nn))) (hin : vp_in i nn) (kk : xv G l M d k n (pc + 1) lv (.int (hI h a i.toNatClampNeg) :: st) h Q) : xv G l M d k n pc lv (.int i :: va_rf r :: st) h Q := by
  subst hr; exact xe_iald hd hT0 hin kk
theorem xq_zald {nn : Nat} {i : Int32} (hd : decode M.2.1 pc = .ok (.baload, 1)) (hr : r = some a) (hT0 : hT h a = some (.inr (.boolean, nn))) (hin : vp_in i nn) (kk : xv G l M d k n (pc + 1) lv (.int (hI h a i.toNatClampNeg) :: st) h Q) : xv G l M d k n pc lv (.int i :: va_rf r :: st) h Q := by
  subst hr; exact xe_zald hd hT0 hin kk
theorem xq_lald {nn : Nat} {i : Int32} (hd : decode M.2.1 pc = .ok (.laload, 1)) (hr : r = some a) (hT0 : hT h a = some (.inr (.long, nn))) (hin : vp_in i nn) (kk : xv G l M d k n (pc + 1) lv (.long (hL h a i.toNatClampNeg) :: st) h Q) : xv G l M d k n pc lv (.int i :: va_rf r :: st) h Q := by
  subst hr; exact xe_lald hd hT0 hin kk
theorem xq_aald {nn : Nat} {i : Int32} {C : String} (hd : decode M.2.1 pc = .ok (.aaload, 1)) (hr : r = some a) (hT0 : hT h a = some (.inr (.object C, nn))) (hC : FieldType.object C ∈ xtys) (hin : vp_in i nn) (kk : xv G l M d k n (pc + 1) lv (va_rf (hR h a i.toNatClampNeg) :: st) h Q) : xv G l M d k n pc lv (.int i :: va_rf r :: st) h Q := by
  subst hr; exact xe_aald hd hT0 hC hin kk
theorem xq_alen {nn : Nat} {t : FieldType} (hd : decode M.2.1 pc = .ok (.arraylength, 1)) (hr : r = some a) (hT0 : hT h a = some (.inr (t, nn))) (ht : t ∈ xtys) (kk : xv G l M d k n (pc + 1) lv (.int (Int32.ofNat nn) :: st) h Q) : xv G l M d k n pc lv (va_rf r :: st) h Q := by
  subst hr; exact xe_alen hd hT0 ht rfl kk
theorem xq_iast {nn : Nat} {i x : Int32} (hd : decode M.2.1 pc = .ok (.iastore, 1)) (hr : r = some a) (hT0 : hT h a = some (.inr (.int, nn))) (hin : vp_in i nn) (kk : xv G l M d k n (pc + 1) lv st (wI h a i.toNatClampNeg x) Q) : xv G l M d k n pc lv (.int x :: .int i :: va_rf r :: st) h Q := by
  subst hr; exact xe_iast hd hT0 hin kk
theorem xq_zast {nn : Nat} {i x : Int32} (hd : decode M.2.1 pc = .ok (.bastore, 1)) (hr : r = some a) (hT0 : hT h a = some (.inr (.boolean, nn))) (hin : vp_in i nn) (hx : x = 0 ∨ x = 1) (kk : xv G l M d k n (pc + 1) lv st (wI h a i.toNatClampNeg x) Q) : xv G l M d k n pc lv (.int x :: .int i :: va_rf r :: st) h Q := by
  subst hr; exact xe_zast hd hT0 hin hx kk
theorem xq_last {nn : Nat} {i : Int32} {x : Int64} (hd : decode M.2.1 pc = .ok (.lastore, 1)) (hr : r = some a) (hT0 : hT h a = some (.inr (.long, nn))) (hin : vp_in i nn) (kk : xv G l M d k n (pc + 1) lv st (wL h a i.toNatClampNeg x) Q) : xv G l M d k n pc lv (.long x :: .int i :: va_rf r :: st) h Q := by
  subst hr; exact xe_last hd hT0 hin kk
theorem xq_aast {b nn N : Nat} {i : Int32} {C : String} {T : u_T} (hd : decode M.2.1 pc = .ok (.aastore, 1)) (hr : r = some a) (hT0 : hT h a = some (.inr (.object C, nn))) (hC : FieldType.object C ∈ xtys) (hr1 : r1 = some b) (hT1 : hT h b = some (.inl ci)) (hci : vwCl[ci]? = some (C, T, N)) (hin : vp_in i nn) (kk : xv G l M d k n (pc + 1) lv st (wR h a i.toNatClampNeg (some b)) Q) : xv G l M d k n pc lv (va_rf r1 :: .int i :: va_rf r :: st) h Q := by
  subst hr; subst hr1; exact xe_aast hd hT0 hC hT1 hci hin kk
theorem xq_new (hd : decode M.2.1 pc = .ok (.new idx, 3)) (hcl : xcl ci) (hok : ∀ j, j < xnf ci → xoky (xty ci j) = true) (hw : ∃ C T N, vwCl[ci]? = some (C, T, N) ∧ Cond.classLink M.1.cls idx C ∈ xws ∧ Cond.instantiable C N ∈ xws ∧ Cond.initialized C ∈ xws)
    (kk : xv G l M d k n (pc + 3) lv (va_rf (some (hz h)) :: st) (aN h (.inl ci)) Q) : xv G l M d (k + 1) (n + xnf ci) pc lv st h Q := xe_new hd hcl hok hw kk
theorem xq_newa {at0 : ArrayType} {t : FieldType} {x : Int32} {N : Nat} (hd : decode M.2.1 pc = .ok (.newarray at0, 2)) (hat : newarray.typeOf at0 = t) (ht : t = .int ∨ t = .long ∨ t = .boolean) (hw : Cond.arrayClass t ∈ xws) (hx : ¬ x < 0) (hN : x.toNatClampNeg = N) (hb : N * 8 ≤ 536870912)
    (kk : xv G l M d k n (pc + 2) lv (va_rf (some (hz h)) :: st) (aN h (.inr (t, N))) Q) : xv G l M d (k + 1) (n + N) pc lv (.int x :: st) h Q := xe_newa hd hat ht hw hx hN hb kk
theorem xq_anewa {C : String} {x : Int32} {N : Nat} (hd : decode M.2.1 pc = .ok (.anewarray idx, 3)) (hm : FieldType.object C ∈ xtys) (hao : C ∈ xao) (hw : Cond.classLink M.1.cls idx C ∈ xws) (hx : ¬ x < 0) (hN : x.toNatClampNeg = N) (hb : N * 4 ≤ 536870912)
    (kk : xv G l M d k n (pc + 3) lv (va_rf (some (hz h)) :: st) (aN h (.inr (.object C, N))) Q) : xv G l M d (k + 1) (n + N) pc lv (.int x :: st) h Q := xe_anewa hd hm hao hw hx hN hb kk
theorem xq_objInit (hd : decode M.2.1 pc = .ok (.invokespecial idx, 3)) (hw : Cond.methodLink M.1.cls idx objectInit ∈ xws ∧ Cond.instanceMethod objectInit ∈ xws ∧ Cond.code objectInit ⟨#[0xb1]⟩ 1 none ∈ xws) (h1 : 1 ≤ d) (hst : (st.map fun v => v.category).sum ≤ 8) (hr : r = some a) (kk : xv G l M d k n (pc + 3) lv st h Q) : xv G l M d k n pc lv (va_rf r :: st) h Q := by
  subst hr; exact xe_objInit hd hw h1 hst kk
theorem xq_copyL {a0 n0 n1 : Nat} {sp dp x : Int32} (hd : decode M.2.1 pc = .ok (.invokestatic idx, 3)) (hw : Cond.methodLink M.1.cls idx arraycopyName ∈ xws ∧ Cond.native arraycopyName ∈ xws ∧ Cond.static arraycopyName ∈ xws ∧ Cond.initialized "java/lang/System" ∈ xws) (h1 : 1 ≤ d) (hst : (st.map fun v => v.category).sum ≤ 8)
    (hr0 : r0 = some a0) (hT0 : hT h a0 = some (.inr (.long, n0))) (hr : r = some a) (hT1 : hT h a = some (.inr (.long, n1))) (hsp : ¬ sp < 0) (hdp : ¬ dp < 0) (hx : ¬ x < 0) (h4 : sp.toNatClampNeg + x.toNatClampNeg ≤ n0) (h5 : dp.toNatClampNeg + x.toNatClampNeg ≤ n1)
    (kk : xv G l M d k n (pc + 3) lv st (wLr h a (va_cpy (hL h a0) (hL h a) sp.toNatClampNeg dp.toNatClampNeg x.toNatClampNeg)) Q) : xv G l M d k n pc lv (.int x :: .int dp :: va_rf r :: .int sp :: va_rf r0 :: st) h Q := by
  subst hr; subst hr0; exact xe_copyL hd hw h1 hst hT0 hT1 hsp hdp hx h4 h5 kk
/-! calls of methods whose answer is known -/
variable {β : Type} {mk : β → Option Value} {rv : β} {g : Hp} {Q1 : xPost} {M1 : xM} {d1 k1 n1 na b N : Nat} {T : u_T} {As rest : List Value} {host : String}
theorem xq_callV (hd : decode M.2.1 pc = .ok (.invokevirtual idx, 3)) (hm : xmk M1 na) (hlk : Cond.methodLink M.1.cls idx M1.1 ∈ xws ∧ Cond.instanceMethod M1.1 ∈ xws ∧ Cond.selects M1.1.cls M1.1 M1.1 ∈ xws) (hci : vwCl[ci]? = some (M1.1.cls, T, N)) (hr : r = some b) (hT0 : hT h b = some (.inl ci))
    (hc1 : xc G l M1 d1 k1 n1 (va_rf r :: As) h Q1) (hq : ∀ v h', Q1 v h' → v = mk rv ∧ h' = g) (hd1 : d1 + 1 ≤ d) (hrest : (rest.map fun v => v.category).sum ≤ 8) (hlen : As.length = na) (hst : st = As.reverse ++ va_rf r :: rest) (kk : xv G l M d k n (pc + 3) lv ((mk rv).toList ++ rest) g Q) : xv G l M d (k1 + k) (n1 + n) pc lv st h Q := by
  subst hr; exact xe_callV hd hm hlk hci hT0 hc1 hd1 hrest hlen hst (fun v h' q => by obtain ⟨rfl, rfl⟩ := hq v h' q; exact kk)
theorem xq_callS (hd : decode M.2.1 pc = .ok (.invokestatic idx, 3)) (hm : xmk M1 na) (hlk : Cond.methodLink M.1.cls idx M1.1 ∈ xws ∧ Cond.static M1.1 ∈ xws)
    (hc1 : xc G l M1 d1 k1 n1 As h Q1) (hq : ∀ v h', Q1 v h' → v = mk rv ∧ h' = g) (hd1 : d1 + 1 ≤ d) (hrest : (rest.map fun v => v.category).sum ≤ 8) (hlen : As.length = na) (hst : st = As.reverse ++ rest) (kk : xv G l M d k n (pc + 3) lv ((mk rv).toList ++ rest) g Q) : xv G l M d (k1 + k) (n1 + n) pc lv st h Q :=
  xe_callS hd hm hlk hc1 hd1 hrest hlen hst (fun v h' q => by obtain ⟨rfl, rfl⟩ := hq v h' q; exact kk)
theorem xq_callSN (hd : decode M.2.1 pc = .ok (.invokestatic idx, 3)) (hm : xmk M1 na) (hlk : Cond.methodLinkNest M.1.cls idx M1.1 host ∈ xnest ∧ Cond.static M1.1 ∈ xws)
    (hc1 : xc G l M1 d1 k1 n1 As h Q1) (hq : ∀ v h', Q1 v h' → v = mk rv ∧ h' = g) (hd1 : d1 + 1 ≤ d) (hrest : (rest.map fun v => v.category).sum ≤ 8) (hlen : As.length = na) (hst : st = As.reverse ++ rest) (kk : xv G l M d k n (pc + 3) lv ((mk rv).toList ++ rest) g Q) : xv G l M d (k1 + k) (n1 + n) pc lv st h Q :=
  xe_callSN hd hm hlk hc1 hd1 hrest hlen hst (fun v h' q => by obtain ⟨rfl, rfl⟩ := hq v h' q; exact kk)
theorem xq_callI (hd : decode M.2.1 pc = .ok (.invokespecial idx, 3)) (hm : xmk M1 na) (hni : M1.1.name = "<init>" ∧ M1.2.2.2 = none) (hlk : Cond.methodLink M.1.cls idx M1.1 ∈ xws ∧ Cond.instanceMethod M1.1 ∈ xws) (hr : r = some b)
    (hc1 : xc G l M1 d1 k1 n1 (va_rf r :: As) h Q1) (hq : ∀ v h', Q1 v h' → v = mk rv ∧ h' = g) (hd1 : d1 + 1 ≤ d) (hrest : (rest.map fun v => v.category).sum ≤ 8) (hlen : As.length = na) (hst : st = As.reverse ++ va_rf r :: rest) (kk : xv G l M d k n (pc + 3) lv ((mk rv).toList ++ rest) g Q) : xv G l M d (k1 + k) (n1 + n) pc lv st h Q := by
  subst hr; exact xe_callI hd hm hni hlk hc1 hd1 hrest hlen hst (fun v h' q => by obtain ⟨rfl, rfl⟩ := hq v h' q; exact kk)
theorem xq_callIN (hd : decode M.2.1 pc = .ok (.invokespecial idx, 3)) (hm : xmk M1 na) (hni : M1.1.name = "<init>" ∧ M1.2.2.2 = none) (hlk : Cond.methodLinkNest M.1.cls idx M1.1 host ∈ xnest ∧ Cond.instanceMethod M1.1 ∈ xws) (hr : r = some b)
    (hc1 : xc G l M1 d1 k1 n1 (va_rf r :: As) h Q1) (hq : ∀ v h', Q1 v h' → v = mk rv ∧ h' = g) (hd1 : d1 + 1 ≤ d) (hrest : (rest.map fun v => v.category).sum ≤ 8) (hlen : As.length = na) (hst : st = As.reverse ++ va_rf r :: rest) (kk : xv G l M d k n (pc + 3) lv ((mk rv).toList ++ rest) g Q) : xv G l M d (k1 + k) (n1 + n) pc lv st h Q := by
  subst hr; exact xe_callIN hd hm hni hlk hc1 hd1 hrest hlen hst (fun v h' q => by obtain ⟨rfl, rfl⟩ := hq v h' q; exact kk)
theorem xz {G : xG} {l : Launch} {M : xM} {d k n pc : Nat} {lv : xLv} {st : List Value} {h : Hp} {Q : xPost} (v : xv G l M d (0 + k) (0 + n) pc lv st h Q) : xv G l M d k n pc lv st h Q := xv.weaken v (by omega) (by omega)
/-! switches -/
theorem xs_case {x j : Int32} {dflt lo hi off : Int} {offs : Array Int} {len tgt : Nat} (hd : decode M.2.1 pc = .ok (.tableswitch dflt lo hi offs, len)) (h1 : ¬ j.toInt < lo) (h2 : ¬ hi < j.toInt) (ho : offs[(j.toInt - lo).toNat]? = some off) (ht : (pc : Int) + off = (tgt : Int)) (kt : x = j → xv G l M d k n tgt lv st h Q) (kf : ¬ x = j → xv G l M d k n pc lv (.int x :: st) h Q) : xv G l M d k n pc lv (.int x :: st) h Q := by
  by_cases e : x = j
  · subst e
    intro p e R s m args below meth c H locs cells slots ls Z C hc hs hL' hl hR' hr
    exact lv_tableIn C.1 C.2.1 hd h1 h2 ho ht (kt rfl p e R s m args below meth c H locs cells slots ls Z C hc hs hL' hl hR' hr)
  · exact kf e
theorem xs_dflt {x : Int32} {dflt lo hi : Int} {offs : Array Int} {len tgt : Nat} (hd : decode M.2.1 pc = .ok (.tableswitch dflt lo hi offs, len)) (ho : x.toInt < lo ∨ hi < x.toInt) (ht : (pc : Int) + dflt = (tgt : Int)) (kk : xv G l M d k n tgt lv st h Q) : xv G l M d k n pc lv (.int x :: st) h Q := by
  intro p e R s m args below meth c H locs cells slots ls Z C hc hs hL' hl hR' hr
  exact lv_tableOut C.1 C.2.1 hd ho ht (kk p e R s m args below meth c H locs cells slots ls Z C hc hs hL' hl hR' hr)
theorem xs_out {x : Int32} (L : List Int32) {lo hi : Int} (hL : ∀ i : Nat, i < (hi + 1 - lo).toNat → Int32.ofInt (lo + i) ∈ L) (hx : ∀ y ∈ L, ¬ x = y) : x.toInt < lo ∨ hi < x.toInt := by
  by_cases h1 : x.toInt < lo
  · exact Or.inl h1
  · by_cases h2 : hi < x.toInt
    · exact Or.inr h2
    · exfalso
      have h3 := hL (x.toInt - lo).toNat (by omega)
      have e : lo + ((x.toInt - lo).toNat : Int) = x.toInt := by omega
      rw [e, Int32.ofInt_toInt] at h3
      exact hx _ h3 rfl
theorem xs_rest {x : Int32} {dflt lo hi : Int} {offs : Array Int} {len tgt : Nat} (L : List Int32) (hd : decode M.2.1 pc = .ok (.tableswitch dflt lo hi offs, len)) (hL : ∀ i : Nat, i < (hi + 1 - lo).toNat → offs[i]? = some dflt ∨ Int32.ofInt (lo + i) ∈ L) (hx : ∀ y ∈ L, ¬ x = y) (ht : (pc : Int) + dflt = (tgt : Int)) (kk : xv G l M d k n tgt lv st h Q) : xv G l M d k n pc lv (.int x :: st) h Q := by
  intro p e R s m args below meth c H locs cells slots ls Z C hc hs hL' hl hR' hr
  by_cases h1 : x.toInt < lo
  · exact lv_tableOut C.1 C.2.1 hd (Or.inl h1) ht (kk p e R s m args below meth c H locs cells slots ls Z C hc hs hL' hl hR' hr)
  · by_cases h2 : hi < x.toInt
    · exact lv_tableOut C.1 C.2.1 hd (Or.inr h2) ht (kk p e R s m args below meth c H locs cells slots ls Z C hc hs hL' hl hR' hr)
    · rcases hL (x.toInt - lo).toNat (by omega) with h3 | h3
      · exact lv_tableIn C.1 C.2.1 hd h1 h2 h3 ht (kk p e R s m args below meth c H locs cells slots ls Z C hc hs hL' hl hR' hr)
      · exfalso
        have e : lo + ((x.toInt - lo).toNat : Int) = x.toInt := by omega
        rw [e, Int32.ofInt_toInt] at h3
        exact hx _ h3 rfl
theorem xs_lcase {x j : Int32} {dflt off : Int} {ps : Array (Int × Int)} {len tgt : Nat} (hd : decode M.2.1 pc = .ok (.lookupswitch dflt ps, len)) (hp : (ps.toList.zip (ps.toList.drop 1)).all (fun (a, next) => a.1 < next.1) = true) (ho : Op.lookupswitch.offset ps.toList dflt j.toInt = off) (ht : (pc : Int) + off = (tgt : Int)) (kt : x = j → xv G l M d k n tgt lv st h Q) (kf : ¬ x = j → xv G l M d k n pc lv (.int x :: st) h Q) : xv G l M d k n pc lv (.int x :: st) h Q := by
  by_cases e : x = j
  · subst e
    intro p e R s m args below meth c H locs cells slots ls Z C hc hs hL' hl hR' hr
    exact lv_lookup C.1 C.2.1 hd hp ho ht (kt rfl p e R s m args below meth c H locs cells slots ls Z C hc hs hL' hl hR' hr)
  · exact kf e
theorem xs_ldflt {x : Int32} {dflt : Int} {ps : Array (Int × Int)} {len tgt : Nat} (hd : decode M.2.1 pc = .ok (.lookupswitch dflt ps, len)) (hp : (ps.toList.zip (ps.toList.drop 1)).all (fun (a, next) => a.1 < next.1) = true) (ho : Op.lookupswitch.offset ps.toList dflt x.toInt = dflt) (ht : (pc : Int) + dflt = (tgt : Int)) (kk : xv G l M d k n tgt lv st h Q) : xv G l M d k n pc lv (.int x :: st) h Q := by
  intro p e R s m args below meth c H locs cells slots ls Z C hc hs hL' hl hR' hr
  exact lv_lookup C.1 C.2.1 hd hp ho ht (kk p e R s m args below meth c H locs cells slots ls Z C hc hs hL' hl hR' hr)
end XQ
