/-! NEW OBJECTS: what making them leaves; agreement of two heaps at addresses -/
def Sm (h g : Hp) (b : Nat) : Prop := hT g b = hT h b ∧ hR g b = hR h b ∧ hI g b = hI h b ∧ hL g b = hL h b
def Fx (B : Nat → Prop) (h g : Hp) : Prop := ∀ b, B b → Sm h g b
section AL
variable {h g k : Hp} {a b ci f : Nat} {x : Nat ⊕ (FieldType × Nat)}
theorem Sm.refl : Sm h h b := ⟨rfl, rfl, rfl, rfl⟩
theorem Sm.trans (u : Sm h g b) (v : Sm g k b) : Sm h k b := ⟨v.1.trans u.1, v.2.1.trans u.2.1, v.2.2.1.trans u.2.2.1, v.2.2.2.trans u.2.2.2⟩
theorem Sm.aN (hb : b ≠ hz h) : Sm h (aN h x) b := ⟨upr_ne hb, upr_ne hb, upr_ne hb, upr_ne hb⟩
theorem Sm.wI {j : Nat} {v : Int32} (hb : b ≠ a) : Sm h (wI h a j v) b := ⟨rfl, rfl, up2_ne hb, rfl⟩
theorem Sm.wL {j : Nat} {v : Int64} (hb : b ≠ a) : Sm h (wL h a j v) b := ⟨rfl, rfl, rfl, up2_ne hb⟩
theorem Sm.wR {j : Nat} {v : Option Nat} (hb : b ≠ a) : Sm h (wR h a j v) b := ⟨rfl, up2_ne hb, rfl, rfl⟩
theorem Fr.sm {A : Nat → Prop} (f : Fr A h g) (hb : ¬ A b) : Sm h g b := ⟨by rw [f.1], by rw [f.2.1], (f.2.2.2 b hb).1, (f.2.2.2 b hb).2⟩
theorem nA_ok {α : Type} {c : Nat → Hp → Option α} : nA h x c = c (hz h) (aN h x) := rfl
theorem hT_aN : hT (aN h x) b = if b = hz h then some x else hT h b := rfl
theorem hR_aN : hR (aN h x) b = if b = hz h then (fun _ => none) else hR h b := rfl
theorem hI_aN : hI (aN h x) b = if b = hz h then (fun _ => 0) else hI h b := rfl
theorem hL_aN : hL (aN h x) b = if b = hz h then (fun _ => 0) else hL h b := rfl
theorem hz_aN : hz (aN h x) = hz h + 1 := rfl
theorem aN_new : hT (aN h x) (hz h) = some x ∧ hR (aN h x) (hz h) = (fun _ => none) ∧ hI (aN h x) (hz h) = (fun _ => 0) ∧ hL (aN h x) (hz h) = fun _ => 0 := ⟨upr_eq, upr_eq, upr_eq, upr_eq⟩
theorem hR_wR_s {j : Nat} {v : Option Nat} : hR (wR h a j v) a j = v := by rw [hR_wR, if_pos rfl, if_pos rfl]
theorem hR_wR_k {i j : Nat} {v : Option Nat} (hj : i ≠ j) : hR (wR h a j v) a i = hR h a i := by rw [hR_wR, if_pos rfl, if_neg hj]
theorem hR_wR_a {j : Nat} {v : Option Nat} (hb : b ≠ a) : hR (wR h a j v) b = hR h b := up2_ne hb
/-- what a new object at hz h is, before anything is written: all zero -/
def Z4 (g : Hp) (b : Nat) : Prop := hR g b = (fun _ => none) ∧ hI g b = (fun _ => 0) ∧ hL g b = fun _ => 0
theorem Z4.sm (z : Z4 h b) (s : Sm h g b) : Z4 g b := ⟨by rw [s.2.1]; exact z.1, by rw [s.2.2.1]; exact z.2.1, by rw [s.2.2.2]; exact z.2.2⟩
/-- an array is made and kept in a field -/
def NW (h : Hp) (a f : Nat) (x : FieldType × Nat) : Hp := wR (aN h (.inr x)) a f (some (hz h))
theorem nr_ok {α : Type} {y : FieldType × Nat} {c : Hp → Option α} (t : hT h a = some (.inl ci)) (lt : a < hz h) : nA h (.inr y) (fun v g => pR g (some a) ci f (some v) c) = c (NW h a f y) := by
  rw [nA_ok, pR_ok (by rw [hT_aN, if_neg (by omega)]; exact t)]; rfl
theorem NW_z {y : FieldType × Nat} : hz (NW h a f y) = hz h + 1 := rfl
theorem NW_new {y : FieldType × Nat} (lt : a < hz h) : hT (NW h a f y) (hz h) = some (.inr y) ∧ Z4 (NW h a f y) (hz h) := by
  have e : hz h ≠ a := by omega
  have n := aN_new (h := h) (x := .inr y)
  exact ⟨n.1, (hR_wR_a (h := aN h (.inr y)) e).trans n.2.1, n.2.2.1, n.2.2.2⟩
theorem NW_sm {y : FieldType × Nat} (h1 : b ≠ hz h) (h2 : b ≠ a) : Sm h (NW h a f y) b := (Sm.aN h1).trans (Sm.wR h2)
theorem NW_a {y : FieldType × Nat} (lt : a < hz h) : hT (NW h a f y) a = hT h a ∧ hI (NW h a f y) a = hI h a ∧ hL (NW h a f y) a = hL h a ∧ hR (NW h a f y) a f = some (hz h) ∧ ∀ j, j ≠ f → hR (NW h a f y) a j = hR h a j := by
  have s : Sm h (aN h (.inr y)) a := Sm.aN (by omega)
  exact ⟨s.1, s.2.2.1, s.2.2.2, hR_wR_s, fun j hj => by show hR (wR _ _ _ _) _ _ = _; rw [hR_wR_k hj, s.2.1]⟩
/-- one object's fields: what it is, ints, longs, references; all else below stays -/
def Ob (h g : Hp) (a n : Nat) : Prop := hz g = hz h + n ∧ hT g a = hT h a ∧ ∀ b, b < hz h → b ≠ a → Sm h g b
theorem Ob.refl : Ob h h a 0 := ⟨rfl, rfl, fun _ _ _ => Sm.refl⟩
theorem Ob.trans {n m : Nat} (u : Ob h g a n) (v : Ob g k a m) : Ob h k a (n + m) := ⟨by rw [v.1, u.1]; omega, v.2.1.trans u.2.1, fun b h1 h2 => (u.2.2 b h1 h2).trans (v.2.2 b (by rw [u.1]; omega) h2)⟩
theorem Ob.wI {j : Nat} {v : Int32} : Ob h (wI h a j v) a 0 := ⟨rfl, rfl, fun _ _ e => Sm.wI e⟩
theorem Ob.wL {j : Nat} {v : Int64} : Ob h (wL h a j v) a 0 := ⟨rfl, rfl, fun _ _ e => Sm.wL e⟩
theorem Ob.wR {j : Nat} {v : Option Nat} : Ob h (wR h a j v) a 0 := ⟨rfl, rfl, fun _ _ e => Sm.wR e⟩
theorem Ob.nw {y : FieldType × Nat} (lt : a < hz h) : Ob h (NW h a f y) a 1 := ⟨rfl, (NW_a lt).1, fun _ h1 h2 => NW_sm (by omega) h2⟩
theorem Ob.aN (lt : a < hz h) : Ob h (aN h x) a 1 := ⟨rfl, (Sm.aN (by omega)).1, fun _ h1 _ => Sm.aN (by omega)⟩
end AL
/-! the views, where the heaps agree -/
section AV
variable {h g : Hp} {o a : Nat} {P : Pg}
theorem MC.sm {m : Nat} (v : MC h a P m) (f : ∀ b, a ≤ b → b ≤ a + 8 → Sm h g b) : MC g a P m := by
  have e : ∀ b, a ≤ b → b ≤ a + 8 → hI g b = hI h b := fun b h1 h2 => (f b h1 h2).2.2.1
  unfold MC at v ⊢
  rw [e a (by omega) (by omega), e (a + 1) (by omega) (by omega), e (a + 2) (by omega) (by omega), e (a + 3) (by omega) (by omega), e (a + 4) (by omega) (by omega), e (a + 5) (by omega) (by omega), e (a + 6) (by omega) (by omega), e (a + 7) (by omega) (by omega), e (a + 8) (by omega) (by omega)]
  exact v
theorem MT.sm (v : MT (hT h) (hR h) a) (f : ∀ b, a ≤ b → b ≤ a + 8 → Sm h g b) : MT (hT g) (hR g) a := by
  have e : ∀ b, a ≤ b → b ≤ a + 8 → hT g b = hT h b := fun b h1 h2 => (f b h1 h2).1
  have r := (f a (by omega) (by omega)).2.1
  unfold MT at v ⊢
  rw [r, e a (by omega) (by omega), e (a + 1) (by omega) (by omega), e (a + 2) (by omega) (by omega), e (a + 3) (by omega) (by omega), e (a + 4) (by omega) (by omega), e (a + 5) (by omega) (by omega), e (a + 6) (by omega) (by omega), e (a + 7) (by omega) (by omega), e (a + 8) (by omega) (by omega)]
  exact v
theorem TC.sm {t : Nat} (v : TC h a P t) (f : ∀ b, a ≤ b → b ≤ a + 2 → Sm h g b) : TC g a P t := by
  have e : ∀ b, a ≤ b → b ≤ a + 2 → hI g b = hI h b := fun b h1 h2 => (f b h1 h2).2.2.1
  unfold TC at v ⊢
  rw [e a (by omega) (by omega), e (a + 1) (by omega) (by omega), e (a + 2) (by omega) (by omega)]
  exact v
theorem TT.sm (v : TT (hT h) (hR h) a) (f : ∀ b, a ≤ b → b ≤ a + 2 → Sm h g b) : TT (hT g) (hR g) a := by
  have e : ∀ b, a ≤ b → b ≤ a + 2 → hT g b = hT h b := fun b h1 h2 => (f b h1 h2).1
  have r := (f a (by omega) (by omega)).2.1
  unfold TT at v ⊢
  rw [r, e a (by omega) (by omega), e (a + 1) (by omega) (by omega), e (a + 2) (by omega) (by omega)]
  exact v
theorem Tv.sm {t : Tab} (v : Tv h a (a + 1) (a + 2) (a + 3) (a + 4) t) (f : ∀ b, a ≤ b → b ≤ a + 4 → Sm h g b) : Tv g a (a + 1) (a + 2) (a + 3) (a + 4) t := by
  have e0 := f a (by omega) (by omega)
  have e1 := f (a + 1) (by omega) (by omega)
  have e2 := f (a + 2) (by omega) (by omega)
  have e3 := f (a + 3) (by omega) (by omega)
  have e4 := f (a + 4) (by omega) (by omega)
  unfold Tv at v ⊢
  rw [e0.1, e0.2.1, e1.1, e2.1, e3.1, e4.1, e1.2.2.1, e4.2.2.1, e2.2.2.2, e3.2.2.2]
  exact v
theorem Sv.sm {d : Nat} {σ l : Nat → Nat} (v : Sv h a (a + 1) (a + 2) (a + 3) d σ l) (f : ∀ b, a ≤ b → b ≤ a + 3 → Sm h g b) : Sv g a (a + 1) (a + 2) (a + 3) d σ l := by
  have e0 := f a (by omega) (by omega)
  have e1 := f (a + 1) (by omega) (by omega)
  have e2 := f (a + 2) (by omega) (by omega)
  have e3 := f (a + 3) (by omega) (by omega)
  unfold Sv Wv at v ⊢
  rw [e0.1, e0.2.1, e1.1, e2.1, e3.1, e1.2.1, e1.2.2.1, e2.2.2.2, e3.2.2.2]
  exact v
theorem CGb.sm {gc : Nat} {gv : Nat → Int64} {ft : Int32 × Int32} (v : CGb h o gc gv ft) (s0 : Sm h g o) (s5 : Sm h g (o + 5)) (s52 : Sm h g (o + 52)) : CGb g o gc gv ft := by
  unfold CGb at v ⊢
  rw [s0.1, s0.2.1, s52.1, s0.2.2.1, s52.2.2.2, s5.2.2.1]
  exact v
theorem WT.sm (v : WT (hT h) (hR h) o) (f : ∀ b, o + 14 ≤ b → b ≤ o + 51 → Sm h g b) : WT (hT g) (hR g) o := by
  have e : ∀ b, o + 14 ≤ b → b ≤ o + 51 → hT g b = hT h b := fun b h1 h2 => (f b h1 h2).1
  have r : ∀ b, o + 14 ≤ b → b ≤ o + 51 → hR g b = hR h b := fun b h1 h2 => (f b h1 h2).2.1
  obtain ⟨v1, v2, v3, v4, v5⟩ := v
  refine ⟨?_, ?_, ?_, ?_, fun c hc => ?_⟩
  · rw [e (o + 14) (by omega) (by omega), r (o + 14) (by omega) (by omega)]; exact v1
  · rw [e (o + 15) (by omega) (by omega), r (o + 15) (by omega) (by omega)]; exact v2
  · rw [e (o + 16) (by omega) (by omega), e (o + 17) (by omega) (by omega), e (o + 18) (by omega) (by omega), e (o + 19) (by omega) (by omega)]; exact v3
  · rw [e (o + 20) (by omega) (by omega), e (o + 21) (by omega) (by omega)]; exact v4
  · rw [r (o + 20) (by omega) (by omega), e (o + 22 + 5 * c) (by omega) (by omega), r (o + 22 + 5 * c) (by omega) (by omega), e (o + 23 + 5 * c) (by omega) (by omega), r (o + 23 + 5 * c) (by omega) (by omega), e (o + 24 + 5 * c) (by omega) (by omega), e (o + 25 + 5 * c) (by omega) (by omega), e (o + 26 + 5 * c) (by omega) (by omega)]; exact v5 c hc
theorem CGc.sm {wl : Bool} {R : Nat × Wk} (v : CGc h o wl R) (f : ∀ b, o + 14 ≤ b → b ≤ o + 51 → Sm h g b) : CGc g o wl R := by
  obtain ⟨wt, tv, ⟨w6, w5⟩, w⟩ := v
  have e := f (o + 14) (by omega) (by omega)
  have e15 := f (o + 15) (by omega) (by omega)
  have e16 := f (o + 16) (by omega) (by omega)
  have e17 := f (o + 17) (by omega) (by omega)
  have e18 := f (o + 18) (by omega) (by omega)
  have e19 := f (o + 19) (by omega) (by omega)
  refine ⟨wt.sm f, ?_, ⟨by rw [e.2.2.1]; exact w6, by rw [e.2.2.2]; exact w5⟩, fun z => by rw [e.2.2.1]; exact w z⟩
  unfold TV at tv ⊢
  rw [e15.2.2.1, e16.2.2.1, e17.2.2.1, e18.2.2.1, e19.2.2.2]
  exact tv
theorem JT.sm (v : JT (hT h) (hR h) o) (s : Sm h g (o + 5)) : JT (hT g) (hR g) o := by
  unfold JT at v ⊢
  rw [s.1, s.2.1]
  exact v
end AV
