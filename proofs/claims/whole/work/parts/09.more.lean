theorem cs_0 : (([] : List Value).map fun v => v.category).sum ≤ 0 := by decide
theorem cs_i {x : Int32} {st : List Value} {m : Nat} (h : (st.map fun v => v.category).sum ≤ m) : ((Value.int x :: st).map fun v => v.category).sum ≤ m + 1 := by
  rw [List.map_cons, List.sum_cons]; show 1 + _ ≤ _; omega
theorem cs_l {x : Int64} {st : List Value} {m : Nat} (h : (st.map fun v => v.category).sum ≤ m) : ((Value.long x :: st).map fun v => v.category).sum ≤ m + 2 := by
  rw [List.map_cons, List.sum_cons]; show 2 + _ ≤ _; omega
theorem cs_r {x : Option Nat} {st : List Value} {m : Nat} (h : (st.map fun v => v.category).sum ≤ m) : ((va_rf x :: st).map fun v => v.category).sum ≤ m + 1 := by
  simp only [List.map_cons, List.sum_cons, va_rf_cat]; omega
theorem cs_t {x : Nat} {st : List Value} {m : Nat} (h : (st.map fun v => v.category).sum ≤ m) : ((Value.ref x :: st).map fun v => v.category).sum ≤ m + 1 := by
  rw [List.map_cons, List.sum_cons]; show 1 + _ ≤ _; omega
theorem xP_ret {β : Type} {mk : β → Option Value} {a r : β} {g h1 : Hp} (hF : some (a, g) = some (r, h1)) : xP mk r h1 (mk a) g := by
  have h := Option.some.inj hF
  exact ⟨congrArg mk (congrArg Prod.fst h), congrArg Prod.snd h⟩
theorem xPZ_ret {a r : Int32} {g h1 : Hp} (hz : a = 0 ∨ a = 1) (hF : some (a, g) = some (r, h1)) : xPZ r h1 (some (.int a)) g := by
  have h := Option.some.inj hF
  have e : a = r := congrArg Prod.fst h
  exact ⟨by rw [e]; rfl, congrArg Prod.snd h, by rw [← e]; exact hz⟩
/-- a new cell, under names of its own -/
def nA {α : Type} (h : Hp) (q : Nat ⊕ (FieldType × Nat)) (c : Nat → Hp → Option α) : Option α := c (hz h) (aN h q)
theorem nA_inv {α : Type} {h : Hp} {q : Nat ⊕ (FieldType × Nat)} {c : Nat → Hp → Option α} {y : α} (e : nA h q c = some y) : ∃ a g, a = hz h ∧ g = aN h q ∧ c a g = some y := ⟨_, _, rfl, rfl, e⟩
section XN2
variable {G : xG} {l : Launch} {M : xM} {d k n pc : Nat} {lv : xLv} {st : List Value} {h g : Hp} {Q : xPost} {idx ci a : Nat}
theorem xn_new (hd : decode M.2.1 pc = .ok (.new idx, 3)) (hcl : xcl ci) (hok : ∀ j, j < xnf ci → xoky (xty ci j) = true) (hw : ∃ C T N, vwCl[ci]? = some (C, T, N) ∧ Cond.classLink M.1.cls idx C ∈ xws ∧ Cond.instantiable C N ∈ xws ∧ Cond.initialized C ∈ xws) (ha : a = hz h) (hg : g = aN h (.inl ci))
    (kk : xv G l M d k n (pc + 3) lv (va_rf (some a) :: st) g Q) : xv G l M d (k + 1) (n + xnf ci) pc lv st h Q := by
  subst ha; subst hg; exact xe_new hd hcl hok hw kk
theorem xn_newa {at0 : ArrayType} {t : FieldType} {x : Int32} {N : Nat} (hd : decode M.2.1 pc = .ok (.newarray at0, 2)) (hat : newarray.typeOf at0 = t) (ht : t = .int ∨ t = .long ∨ t = .boolean) (hw : Cond.arrayClass t ∈ xws) (hx : ¬ x < 0) (hN : x.toNatClampNeg = N) (hb : N * 8 ≤ 536870912) (ha : a = hz h) (hg : g = aN h (.inr (t, N)))
    (kk : xv G l M d k n (pc + 2) lv (va_rf (some a) :: st) g Q) : xv G l M d (k + 1) (n + N) pc lv (.int x :: st) h Q := by
  subst ha; subst hg; exact xe_newa hd hat ht hw hx hN hb kk
theorem xn_anewa {C : String} {x : Int32} {N : Nat} (hd : decode M.2.1 pc = .ok (.anewarray idx, 3)) (hm : FieldType.object C ∈ xtys) (hao : C ∈ xao) (hw : Cond.classLink M.1.cls idx C ∈ xws) (hx : ¬ x < 0) (hN : x.toNatClampNeg = N) (hb : N * 4 ≤ 536870912) (ha : a = hz h) (hg : g = aN h (.inr (.object C, N)))
    (kk : xv G l M d k n (pc + 3) lv (va_rf (some a) :: st) g Q) : xv G l M d (k + 1) (n + N) pc lv (.int x :: st) h Q := by
  subst ha; subst hg; exact xe_anewa hd hm hao hw hx hN hb kk
end XN2
/-- the script -/
def tS {α : Type} (L : Nat) (xs : Nat → Int32) (i : Int32) (c : Int32 → Option α) : Option α := inb i L (c (xs i.toNatClampNeg))
