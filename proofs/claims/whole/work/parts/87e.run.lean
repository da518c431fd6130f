/-! FIELDS IN A ROW: an object's arrays and ints, as its initialiser makes them -/
abbrev Fl : Type := List (Nat × Option (FieldType × Nat) × Int32)
def runF (a : Nat) : Fl → Hp → Hp
  | [], h => h
  | (f, some y, _) :: l, h => runF a l (NW h a f y)
  | (f, none, v) :: l, h => runF a l (wI h a f v)
def runC {α : Type} (a ci : Nat) : Fl → (Hp → Option α) → Hp → Option α
  | [], c, h => c h
  | (f, some y, _) :: l, c, h => nA h (.inr y) fun v g => pR g (some a) ci f (some v) (runC a ci l c)
  | (f, none, v) :: l, c, h => pI h (some a) ci f v (runC a ci l c)
def rcnt : Fl → Nat
  | [] => 0
  | (_, some _, _) :: l => rcnt l + 1
  | (_, none, _) :: l => rcnt l
/-- the reference in a field, the array at a place, the int in a field -/
def vR : Fl → Nat → Nat → Option Nat → Option Nat
  | [], _, _, d => d
  | (f', some _, _) :: l, n, f, d => vR l (n + 1) f (if f = f' then some n else d)
  | (_, none, _) :: l, n, f, d => vR l n f d
def vT : Fl → Nat → Option (FieldType × Nat)
  | [], _ => none
  | (_, some y, _) :: _, 0 => some y
  | (_, some _, _) :: l, i + 1 => vT l i
  | (_, none, _) :: l, i => vT l i
def vI : Fl → Nat → Int32 → Int32
  | [], _, d => d
  | (_, some _, _) :: l, f, d => vI l f d
  | (f', none, v) :: l, f, d => vI l f (if f = f' then v else d)
section RN
variable {a ci : Nat}
theorem runC_ok {α : Type} {c : Hp → Option α} : ∀ (l : Fl) (h : Hp), hT h a = some (.inl ci) → a < hz h → runC a ci l c h = c (runF a l h) := by
  intro l
  induction l with
  | nil => intro h _ _; rfl
  | cons x l ih =>
    intro h t lt
    obtain ⟨f, y, v⟩ := x
    cases y with
    | none =>
      show pI h (some a) ci f v (runC a ci l c) = c (runF a l (wI h a f v))
      rw [pI_ok t]
      exact ih _ t lt
    | some y =>
      show nA h (.inr y) (fun v g => pR g (some a) ci f (some v) (runC a ci l c)) = c (runF a l (NW h a f y))
      rw [nr_ok t lt]
      exact ih _ ((NW_a lt).1.trans t) (by rw [NW_z]; omega)
theorem runF_ob : ∀ (l : Fl) (h : Hp), a < hz h → Ob h (runF a l h) a (rcnt l) := by
  intro l
  induction l with
  | nil => intro h _; exact Ob.refl
  | cons x l ih =>
    intro h lt
    obtain ⟨f, y, v⟩ := x
    cases y with
    | none =>
      have := (Ob.wI (h := h) (a := a) (j := f) (v := v)).trans (ih (wI h a f v) lt)
      rw [Nat.zero_add] at this
      exact this
    | some y =>
      have := (Ob.nw (h := h) (a := a) (f := f) (y := y) lt).trans (ih (NW h a f y) (by rw [NW_z]; omega))
      rw [Nat.add_comm] at this
      exact this
theorem runF_R (f : Nat) : ∀ (l : Fl) (h : Hp), a < hz h → hR (runF a l h) a f = vR l (hz h) f (hR h a f) := by
  intro l
  induction l with
  | nil => intro h _; rfl
  | cons x l ih =>
    intro h lt
    obtain ⟨f', y, v⟩ := x
    cases y with
    | none => exact ih (wI h a f' v) lt
    | some y =>
      show hR (runF a l (NW h a f' y)) a f = vR l (hz h + 1) f (if f = f' then some (hz h) else hR h a f)
      rw [ih (NW h a f' y) (by rw [NW_z]; omega), NW_z]
      congr 1
      have e := (NW_a (f := f') (y := y) lt).2.2.2
      by_cases z : f = f'
      · rw [if_pos z, z]; exact e.1
      · rw [if_neg z]; exact e.2 f z
theorem runF_I (f : Nat) : ∀ (l : Fl) (h : Hp), a < hz h → hI (runF a l h) a f = vI l f (hI h a f) := by
  intro l
  induction l with
  | nil => intro h _; rfl
  | cons x l ih =>
    intro h lt
    obtain ⟨f', y, v⟩ := x
    cases y with
    | none =>
      show hI (runF a l (wI h a f' v)) a f = vI l f (if f = f' then v else hI h a f)
      rw [ih (wI h a f' v) lt]
      congr 1
      by_cases z : f = f'
      · rw [if_pos z, z]; exact hI_wI_s
      · rw [if_neg z]; exact hI_wI_k z
    | some y =>
      show hI (runF a l (NW h a f' y)) a f = vI l f (hI h a f)
      rw [ih (NW h a f' y) (by rw [NW_z]; omega), (NW_a lt).2.1]
theorem runF_L : ∀ (l : Fl) (h : Hp), a < hz h → hL (runF a l h) a = hL h a := by
  intro l
  induction l with
  | nil => intro h _; rfl
  | cons x l ih =>
    intro h lt
    obtain ⟨f', y, v⟩ := x
    cases y with
    | none => exact ih (wI h a f' v) lt
    | some y => exact (ih (NW h a f' y) (by rw [NW_z]; omega)).trans (NW_a lt).2.2.1
theorem runF_T : ∀ (l : Fl) (i : Nat) (y : FieldType × Nat) (h : Hp), a < hz h → vT l i = some y → hT (runF a l h) (hz h + i) = some (.inr y) ∧ Z4 (runF a l h) (hz h + i) := by
  intro l
  induction l with
  | nil => intro i y h _ e; cases e
  | cons x l ih =>
    intro i y h lt e
    obtain ⟨f', y', v⟩ := x
    cases y' with
    | none =>
      have e : vT l i = some y := by cases i <;> exact e
      exact ih i y (wI h a f' v) lt e
    | some y' =>
      have l1 : a < hz (NW h a f' y') := by rw [NW_z]; omega
      cases i with
      | zero =>
        have e : some y' = some y := e
        obtain ⟨n1, n2⟩ := NW_new (f := f') (y := y') lt
        have s := (runF_ob (a := a) l (NW h a f' y') l1).2.2 (hz h) (by rw [NW_z]; omega) (by omega)
        exact ⟨(s.1.trans n1).trans (by injection e with e; rw [e]), n2.sm s⟩
      | succ i =>
        have := ih i y (NW h a f' y') l1 e
        rw [NW_z, show hz h + 1 + i = hz h + (i + 1) by omega] at this
        exact this
theorem Ob.inr {n : Nat} {h g : Hp} (u : Ob h g a n) {b : Nat} {y : FieldType × Nat} (hb : b < hz h) (hn : b ≠ a) (v : hT h b = some (.inr y) ∧ Z4 h b) : hT g b = some (.inr y) ∧ Z4 g b := ⟨(u.2.2 b hb hn).1.trans v.1, v.2.sm (u.2.2 b hb hn)⟩
end RN
/-! Shapes -/
def tfr : Tab := (fun _ => some 0, fun _ _ => 0, fun _ _ => 0, fun _ => false)
def L6 : Fl := [(0, some (.int, 60), 0), (1, some (.long, 720), 0), (2, some (.long, 960), 0), (3, some (.boolean, 60), 0)]
theorem i_6 {h : Hp} {a : Nat} (t : hT h a = some (.inl 5)) (lt : a < hz h) : Ok (FX6_init (some a) h) (fun _ g => Ob h g a 4 ∧ Tv g a (hz h) (hz h + 1) (hz h + 2) (hz h + 3) tfr) := by
  have e : FX6_init (some a) h = runC a 5 L6 (fun g => some ((), g)) h := rfl
  rw [e, runC_ok L6 h t lt]
  have ob := runF_ob (a := a) L6 h lt
  have r : ∀ f, hR (runF a L6 h) a f = vR L6 (hz h) f (hR h a f) := fun f => runF_R f L6 h lt
  obtain ⟨t0, z0⟩ := runF_T (a := a) L6 0 _ h lt rfl
  obtain ⟨t1, z1⟩ := runF_T (a := a) L6 1 _ h lt rfl
  obtain ⟨t2, z2⟩ := runF_T (a := a) L6 2 _ h lt rfl
  obtain ⟨t3, z3⟩ := runF_T (a := a) L6 3 _ h lt rfl
  refine ok_some ⟨ob, ob.2.1.trans t, ⟨r 0, r 1, r 2, r 3⟩, ⟨t0, t1, t2, t3⟩, ⟨by omega, by omega, by omega, by omega, by omega, by omega⟩, fun i hi => ⟨?_, ?_⟩, fun i d hi hd => ?_⟩
  · rw [show hz h = hz h + 0 from rfl, z0.2.1]; rfl
  · rw [z3.2.1]; rfl
  · have hd : some 0 = some d := hd
    have hd : d = 0 := by injection hd with hd; exact hd.symm
    refine ⟨by omega, fun k hk => by omega, fun j hj => ⟨?_, ?_⟩⟩
    · rw [z2.2.2]; rfl
    · show 0 < 8; decide
