theorem cs_0 : (([] : List Value).map fun v => v.category).sum ≤ 0 := by decide
theorem cs_i {x : Int32} {st : List Value} {m : Nat} (h : (st.map fun v => v.category).sum ≤ m) : ((Value.int x :: st).map fun v => v.category).sum ≤ m + 1 := by
  rw [List.map_cons, List.sum_cons]; show 1 + _ ≤ _; omega
theorem cs_l {x : Int64} {st : List Value} {m : Nat} (h : (st.map fun v => v.category).sum ≤ m) : ((Value.long x :: st).map fun v => v.category).sum ≤ m + 2 := by
  rw [List.map_cons, List.sum_cons]; show 2 + _ ≤ _; omega
theorem cs_r {x : Option Nat} {st : List Value} {m : Nat} (h : (st.map fun v => v.category).sum ≤ m) : ((va_rf x :: st).map fun v => v.category).sum ≤ m + 1 := by
  simp only [List.map_cons, List.sum_cons, va_rf_cat]; omega
theorem cs_t {x : Nat} {st : List Value} {m : Nat} (h : (st.map fun v => v.category).sum ≤ m) : ((Value.ref x :: st).map fun v => v.category).sum ≤ m + 1 := by
  rw [List.map_cons, List.sum_cons]; show 1 + _ ≤ _; omega
theorem xP_ret {β : Type} {mk : β → Option Value} {a r : β} {g h1 : Hp} (hF : some (a, g) = some (r, h1)) : xP mk r h1 (mk a) g := by
  have h := Option.some.inj hF
  exact ⟨congrArg mk (congrArg Prod.fst h), congrArg Prod.snd h⟩
theorem xPZ_ret {a r : Int32} {g h1 : Hp} (hz : a = 0 ∨ a = 1) (hF : some (a, g) = some (r, h1)) : xPZ r h1 (some (.int a)) g := by
  have h := Option.some.inj hF
  have e : a = r := congrArg Prod.fst h
  exact ⟨by rw [e]; rfl, congrArg Prod.snd h, by rw [← e]; exact hz⟩
