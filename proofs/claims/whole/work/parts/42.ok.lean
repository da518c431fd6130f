/-! 'it answers, so': and what a function leaves as it was -/
def Ok {β : Type} (o : Option (β × Hp)) (Q : β → Hp → Prop) : Prop := ∃ r h, o = some (r, h) ∧ Q r h
theorem Ok.mono {β : Type} {o : Option (β × Hp)} {Q Q' : β → Hp → Prop} (h : Ok o Q) (hq : ∀ r g, Q r g → Q' r g) : Ok o Q' := by
  obtain ⟨r, g, e, q⟩ := h
  exact ⟨r, g, e, hq r g q⟩
theorem ok_cl {α β : Type} {o : Option (β × Hp)} {c : β → Hp → Option (α × Hp)} {Q : β → Hp → Prop} {Q' : α → Hp → Prop} (h : Ok o Q) (k : ∀ r g, Q r g → Ok (c r g) Q') : Ok (cl o c) Q' := by
  obtain ⟨r, g, rfl, q⟩ := h
  exact k r g q
theorem ok_some {β : Type} {r : β} {h : Hp} {Q : β → Hp → Prop} (q : Q r h) : Ok (some (r, h)) Q := ⟨r, h, rfl, q⟩
theorem ok_bz {α : Type} {x : Int32} {o : Option (α × Hp)} {Q : α → Hp → Prop} (hx : x = 0 ∨ x = 1) (h : Ok o Q) : Ok (bz x o) Q := by rw [bz, if_pos hx]; exact h
/-- only ints and longs at addresses of A may have changed -/
def Fr (A : Nat → Prop) (h g : Hp) : Prop := hT g = hT h ∧ hR g = hR h ∧ hz g = hz h ∧ ∀ b, ¬ A b → hI g b = hI h b ∧ hL g b = hL h b
theorem Fr.refl (A : Nat → Prop) (h : Hp) : Fr A h h := ⟨rfl, rfl, rfl, fun _ _ => ⟨rfl, rfl⟩⟩
theorem Fr.trans {A : Nat → Prop} {h g k : Hp} (a : Fr A h g) (b : Fr A g k) : Fr A h k := ⟨b.1.trans a.1, b.2.1.trans a.2.1, b.2.2.1.trans a.2.2.1, fun x hx => ⟨((b.2.2.2 x hx).1).trans (a.2.2.2 x hx).1, ((b.2.2.2 x hx).2).trans (a.2.2.2 x hx).2⟩⟩
theorem Fr.mono {A B : Nat → Prop} {h g : Hp} (a : Fr A h g) (hAB : ∀ b, A b → B b) : Fr B h g := ⟨a.1, a.2.1, a.2.2.1, fun x hx => a.2.2.2 x (fun z => hx (hAB x z))⟩
theorem Fr.wI {A : Nat → Prop} {h : Hp} {a k : Nat} {v : Int32} (ha : A a) : Fr A h (wI h a k v) := ⟨rfl, rfl, rfl, fun b hb => ⟨up2_ne (fun e => hb (by rw [e]; exact ha)), rfl⟩⟩
theorem Fr.wL {A : Nat → Prop} {h : Hp} {a k : Nat} {v : Int64} (ha : A a) : Fr A h (wL h a k v) := ⟨rfl, rfl, rfl, fun b hb => ⟨rfl, up2_ne (fun e => hb (by rw [e]; exact ha))⟩⟩
theorem Fr.wLr {A : Nat → Prop} {h : Hp} {a : Nat} {v : Nat → Int64} (ha : A a) : Fr A h (wLr h a v) := ⟨rfl, rfl, rfl, fun b hb => ⟨rfl, upr_ne (fun e => hb (by rw [e]; exact ha))⟩⟩
theorem hI_wI_s {h : Hp} {a k : Nat} {v : Int32} : hI (wI h a k v) a k = v := by rw [hI_wI, if_pos rfl, if_pos rfl]
theorem hI_wI_k {h : Hp} {a k j : Nat} {v : Int32} (hj : j ≠ k) : hI (wI h a k v) a j = hI h a j := by rw [hI_wI, if_pos rfl, if_neg hj]
theorem hI_wI_a {h : Hp} {a k b : Nat} {v : Int32} (hb : b ≠ a) : hI (wI h a k v) b = hI h b := up2_ne hb
theorem hL_wL_s {h : Hp} {a k : Nat} {v : Int64} : hL (wL h a k v) a k = v := by rw [hL_wL, if_pos rfl, if_pos rfl]
theorem hL_wL_k {h : Hp} {a k j : Nat} {v : Int64} (hj : j ≠ k) : hL (wL h a k v) a j = hL h a j := by rw [hL_wL, if_pos rfl, if_neg hj]
theorem hL_wL_a {h : Hp} {a k b : Nat} {v : Int64} (hb : b ≠ a) : hL (wL h a k v) b = hL h b := up2_ne hb
theorem hL_wLr_s {h : Hp} {a : Nat} {v : Nat → Int64} : hL (wLr h a v) a = v := upr_eq
theorem hL_wLr_a {h : Hp} {a b : Nat} {v : Nat → Int64} (hb : b ≠ a) : hL (wLr h a v) b = hL h b := upr_ne hb
theorem hI_wI_row {h : Hp} {a k : Nat} {v : Int32} : hI (wI h a k v) a = upd (hI h a) k v := by
  funext j
  rw [hI_wI, if_pos rfl]; rfl
theorem hL_wL_row {h : Hp} {a k : Nat} {v : Int64} : hL (wL h a k v) a = vp_updL (hL h a) k v := by
  funext j
  rw [hL_wL, if_pos rfl]; rfl
theorem nI_c0 : (0 : Int32) = nI 0 := rfl
theorem nI_c1 : (1 : Int32) = nI 1 := rfl
theorem nI_c2 : (2 : Int32) = nI 2 := rfl
/-- comparisons of naturals -/
theorem if_lt {α : Type} {a b : Nat} (ha : a < 2 ^ 31) (hb : b < 2 ^ 31) {x y : α} : (if nI a < nI b then x else y) = if a < b then x else y := by
  by_cases h : a < b
  · rw [if_pos h, if_pos ((nI_ltI ha hb).mpr h)]
  · rw [if_neg h, if_neg (fun z => h ((nI_ltI ha hb).mp z))]
theorem if_eq {α : Type} {a b : Nat} (ha : a < 2 ^ 31) (hb : b < 2 ^ 31) {x y : α} : (if nI a = nI b then x else y) = if a = b then x else y := by
  by_cases h : a = b
  · rw [if_pos h, if_pos ((nI_eq ha hb).mpr h)]
  · rw [if_neg h, if_neg (fun z => h ((nI_eq ha hb).mp z))]
