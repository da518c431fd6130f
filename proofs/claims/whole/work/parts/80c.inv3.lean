/-! values keep their kinds: calls, failures, a step -/
section IW
variable {P : Pg} {tt : Nat → Tab}
theorem aw_lt2 {c q k : Nat} (h : q < k) : p_aw P c q < p_aw P c k := by
  have h1 := aw_mn (P := P) (c := c) (show q + 1 ≤ k from h)
  have h2 : p_aw P c (q + 1) = p_aw P c q + wd (p_ka P c q) := rfl
  have := wd_le (p_ka P c q)
  omega
theorem jarg_c (c : Nat) : ∀ k j, j_arg P c k j = 5 ∨ 6 ≤ j_arg P c k j ∨ ∃ q, q < k ∧ j = p_aw P c q ∧ j_arg P c k j = p_ka P c q := by
  intro k
  induction k with
  | zero => intro j; exact Or.inl rfl
  | succ k ih =>
    intro j
    rw [j_arg]
    rcases dh_or (wrl (j_arg P c k) (p_aw P c k) (p_ka P c k)) j with z | z
    · exact Or.inl z
    · rw [z]
      have old : j_arg P c k j = 5 ∨ 6 ≤ j_arg P c k j ∨ ∃ q, q < k + 1 ∧ j = p_aw P c q ∧ j_arg P c k j = p_ka P c q := by
        rcases ih j with y | y | ⟨q, h1, h2, h3⟩
        · exact Or.inl y
        · exact Or.inr (Or.inl y)
        · exact Or.inr (Or.inr ⟨q, by omega, h2, h3⟩)
      unfold wrl
      by_cases w2 : wd (p_ka P c k) = 2
      · rw [if_pos w2]
        by_cases j1 : j = p_aw P c k + 1
        · subst j1
          rw [va_s]
          right; left
          unfold en
          split <;> omega
        · rw [va_n _ _ j1]
          by_cases j2 : j = p_aw P c k
          · rw [j2, va_s]; exact Or.inr (Or.inr ⟨k, by omega, rfl, rfl⟩)
          · rw [va_n _ _ j2]; exact old
      · rw [if_neg w2]
        by_cases j2 : j = p_aw P c k
        · rw [j2, va_s]; exact Or.inr (Or.inr ⟨k, by omega, rfl, rfl⟩)
        · rw [va_n _ _ j2]; exact old
/-- locals of arguments are of their kinds -/
theorem tlo_arg {n c k : Nat} {l : Nat → Int64} (h : ∀ q, q < k → Ty n (p_ka P c q) (l (p_aw P c q))) : TLo n (j_arg P c k) l := by
  intro j hj
  rcases jarg_c (P := P) c k j with z | z | ⟨q, h1, h2, h3⟩
  · rw [z]; exact ty_x (by decide) (by decide) (by decide)
  · exact ty_x (by omega) (by omega) (by omega)
  · rw [h3, h2]; exact h q h1
theorem argS_n {c : Nat} {s : Nat → Int64} : ∀ (k d : Nat) (l : Nat → Int64) (j : Nat), (∀ q, q < k → j ≠ p_aw P c q) → argS P c s k d l j = l j := by
  intro k
  induction k with
  | zero => intro d l j _; rfl
  | succ k ih =>
    intro d l j h
    rw [argS, ih _ _ _ (fun q hq => h q (by omega))]
    exact if_neg (h k (by omega))
theorem argS_v {c : Nat} {s : Nat → Int64} {D : Nat} : ∀ (k : Nat) (l : Nat → Int64) (q : Nat), q < k → argS P c s k (D + p_aw P c k) l (p_aw P c q) = s (D + p_aw P c q) := by
  intro k
  induction k with
  | zero => intro l q h; omega
  | succ k ih =>
    intro l q h
    have e : D + p_aw P c (k + 1) - wd (p_ka P c k) = D + p_aw P c k := by
      have : p_aw P c (k + 1) = p_aw P c k + wd (p_ka P c k) := rfl
      omega
    rw [argS, e]
    by_cases z : q = k
    · subst z
      rw [argS_n q _ _ _ (fun r hr => by have := aw_lt2 (P := P) (c := c) hr; omega)]
      exact if_pos rfl
    · exact ih _ q (by omega)
theorem takeL_arg {c D : Nat} {σ : Nat → Nat} : ∀ (k e : Nat), takeL σ (argL P c k) e = some D → e = D + p_aw P c k ∧ ∀ q, q < k → σ (D + p_aw P c q) = p_ka P c q := by
  intro k
  induction k with
  | zero => intro e h; injection h with h; subst h; exact ⟨rfl, fun q hq => by omega⟩
  | succ k ih =>
    intro e h
    rw [argL] at h
    obtain ⟨a1, a2, a3⟩ := tk_hd h
    obtain ⟨b1, b2⟩ := ih _ a3
    have : p_aw P c (k + 1) = p_aw P c k + wd (p_ka P c k) := rfl
    refine ⟨by omega, fun q hq => ?_⟩
    by_cases z : q = k
    · subst z; rw [← b1]; exact a2
    · exact b2 q (by omega)
theorem argG_n {m : Nat} {gv : Nat → Int64} : ∀ (k : Nat) (l : Nat → Int64) (j : Nat), (∀ q, q < k → j ≠ p_aw P m q) → argG P m gv k l j = l j := by
  intro k
  induction k with
  | zero => intro l j _; rfl
  | succ k ih =>
    intro l j h
    rw [argG]
    have e : vp_updL (argG P m gv k l) (p_aw P m k) (asA (p_ka P m k) (gv k)) j = argG P m gv k l j := if_neg (h k (by omega))
    rw [e]
    exact ih l j (fun q hq => h q (by omega))
theorem argG_v {m : Nat} {gv : Nat → Int64} : ∀ (k : Nat) (l : Nat → Int64) (q : Nat), q < k → argG P m gv k l (p_aw P m q) = asA (p_ka P m q) (gv q) := by
  intro k
  induction k with
  | zero => intro l q h; omega
  | succ k ih =>
    intro l q h
    rw [argG]
    by_cases z : q = k
    · subst z; exact if_pos rfl
    · have e : vp_updL (argG P m gv k l) (p_aw P m k) (asA (p_ka P m k) (gv k)) (p_aw P m q) = argG P m gv k l (p_aw P m q) := if_neg (by have := aw_lt2 (P := P) (c := m) (show q < k by omega); omega)
      rw [e]; exact ih l q (by omega)
theorem ty_asA {n k : Nat} (v : Int64) (hk : k < 5) : Ty n k (asA k v) := by
  unfold asA
  by_cases c4 : k = 4
  · rw [if_pos c4, c4]; exact ty_m
  · rw [if_neg c4]
    by_cases c2 : wd k = 2
    · rw [if_pos c2]
      unfold wd at c2
      by_cases z : k = 1 ∨ k = 3
      · exact ty_x (by omega) (by omega) c4
      · rw [if_neg z] at c2; omega
    · rw [if_neg c2]; exact ty_i _ c4
theorem CI.mono {T T' : Th} {k k' : Nat} {x : Cl} (h : CI P tt T k x) (hT : T.1 ≤ T'.1) (hk : k ≤ k') : CI P tt T' k' x := ⟨h.1, h.2.1.mono hT, h.2.2.1.mono hT, fun t h1 h2 => h.2.2.2.1 t (by omega) h2, by have := h.2.2.2.2; omega⟩
/-- what a failure leaves -/
def WJ (P : Pg) (tt : Nat → Tab) (k n : Nat) (C : Nat → Cl) (T : Th) : Prop := TH T ∧ n ≤ 6 ∧ (∀ c, c < n → CI P tt T k (C c) ∧ ∃ e, (tt (C c).1).1 (C c).2.1 = some e) ∧ ∀ c, c + 1 < n → ∃ e, (tt (C c).1).1 (C c).2.1 = some e ∧ p_op P (C c).1 (C c).2.1 = 35 ∧ cN (p_A P (C c).1 (C c).2.1) = (C (c + 1)).1 ∧ takeL ((tt (C c).1).2.1 (C c).2.1) (argL P (C (c + 1)).1 (p_na P (C (c + 1)).1)) e = some (C c).2.2.1
theorem wj_fn (pw : PW P) (st : ST P tt) {k f m i : Nat} {v : Int64} {C : Nat → Cl} {R : (Int32 × Int32 × Int32) × (Nat × Nat × Nat) × Int64} (hR : R.2.1.2.1 ≤ 14) : ∀ (n : Nat) (T : Th), WJ P tt k n C T → Ty T.1 4 v → WI P tt k (w_fn P ((n, C), T, R) f v m i) ∧ (w_fn P ((n, C), T, R) f v m i).2.2.2.1.2.1 = R.2.1.2.1 := by
  intro n
  induction n with
  | zero =>
    intro T wj hv
    rw [wfn_0]
    exact ⟨⟨wj.1, ⟨by show 0 ≤ 6; omega, hR⟩, fun c hc => (by cases hc), fun c hc => (by cases hc), fun c hc => (by cases hc)⟩, rfl⟩
  | succ n ih =>
    intro T wj hv
    obtain ⟨th, n6, hc, hs⟩ := wj
    cases hcat : p_cat P (C n).1 (C n).2.1 f with
    | none =>
      rw [wfn_n hcat]
      exact ih (lgT T (C n).2.2.2.2.2) ⟨th, by omega, fun c hcn => hc c (by omega), fun c hcn => hs c (by omega)⟩ hv
    | some g =>
      rw [wfn_s hcat]
      obtain ⟨ci, e, he⟩ := hc n (by omega)
      obtain ⟨s1, s2⟩ := st _ ci.1
      obtain ⟨-, -, dn⟩ := s1.1 _ _ he
      obtain ⟨-, q, hq, hcov, rfl⟩ := p_cat_lt pw ci.1 hcat
      have hmem : (p_hg P (C n).1 q, (1, (fun _ => 4), (tt (C n).1).2.2.1 (C n).2.1)) ∈ j_hs P (C n).1 (C n).2.1 ((tt (C n).1).2.2.1 (C n).2.1) := by
        unfold j_hs
        exact List.mem_map.mpr ⟨q, List.mem_filter.mpr ⟨List.mem_range.mpr hq, hcov⟩, rfl⟩
      obtain ⟨cm1, cm2, cm3⟩ := dn.2 _ (List.mem_append_left _ hmem)
      refine ⟨⟨th, ⟨n6, hR⟩, fun c hcn => ?_, fun c hcn => ?_, fun c hcn => ?_⟩, rfl⟩
      · have hcn : c < n + 1 := hcn
        show CI P tt T k (va_up C n _ c)
        by_cases z : c = n
        · subst z
          rw [va_s]
          refine ⟨ci.1, fun p hp => ?_, fun j hj => ?_, ci.2.2.2.1, ci.2.2.2.2⟩
          · have hp : p < 1 := hp
            have : p = 0 := by omega
            subst this
            have e4 : (tt (C c).1).2.1 (p_hg P (C c).1 q) 0 = 4 := cm2 0 (by show 0 < 1; omega)
            show Ty T.1 ((tt (C c).1).2.1 (p_hg P (C c).1 q) 0) v
            rw [e4]; exact hv
          · show Ty T.1 ((tt (C c).1).2.2.1 (p_hg P (C c).1 q) j) ((C c).2.2.2.2.1 j)
            rcases cm3 j hj with y | y
            · rw [y]; exact ty_x (by decide) (by decide) (by decide)
            · rw [y]; exact ci.2.2.1 j hj
        · rw [va_n _ _ z]; exact (hc c (by omega)).1
      · have hcn : c + 1 = n + 1 := hcn
        have : c = n := by omega
        subst this
        show (tt (va_up C c _ c).1).1 (va_up C c _ c).2.1 = some (va_up C c _ c).2.2.1
        rw [va_s]
        exact cm1
      · have hcn : c + 1 < n + 1 := hcn
        show ∃ e, (tt (va_up C n ((C n).1, _) c).1).1 (va_up C n ((C n).1, _) c).2.1 = some e ∧ p_op P (va_up C n ((C n).1, _) c).1 (va_up C n ((C n).1, _) c).2.1 = 35 ∧ cN (p_A P (va_up C n ((C n).1, _) c).1 (va_up C n ((C n).1, _) c).2.1) = (va_up C n ((C n).1, _) (c + 1)).1 ∧ takeL ((tt (va_up C n ((C n).1, _) c).1).2.1 (va_up C n ((C n).1, _) c).2.1) (argL P (va_up C n ((C n).1, _) (c + 1)).1 (p_na P (va_up C n ((C n).1, _) (c + 1)).1)) e = some (va_up C n ((C n).1, _) c).2.2.1
        rw [va_n _ _ (show c ≠ n by omega)]
        have hm : ∀ r : Nat × Nat × (Nat → Int64) × (Nat → Int64) × (Nat → Nat), (va_up C n ((C n).1, r) (c + 1)).1 = (C (c + 1)).1 := by
          intro r
          by_cases z : c + 1 = n
          · rw [z, va_s]
          · rw [va_n _ _ z]
        rw [hm]
        exact hs c (by omega)
theorem WI.wj {k : Nat} {n : Nat} {C : Nat → Cl} {T : Th} {R : (Int32 × Int32 × Int32) × (Nat × Nat × Nat) × Int64} (wi : WI P tt k ((n, C), T, R)) : WJ P tt k n C T := by
  obtain ⟨th, ⟨n6, -⟩, ci, tp, sp⟩ := wi
  refine ⟨th, n6, fun c hc => ⟨ci c hc, ?_⟩, sp⟩
  by_cases z : c + 1 = n
  · exact ⟨_, tp c z⟩
  · obtain ⟨e, he, -⟩ := sp c (by show c + 1 < n; omega)
    exact ⟨e, he⟩
theorem wi_raise (pw : PW P) (st : ST P tt) {k n f m i : Nat} {th : Option Nat} {C : Nat → Cl} {T : Th} {R : (Int32 × Int32 × Int32) × (Nat × Nat × Nat) × Int64} (wi : WI P tt k ((n, C), T, R)) (hf : f < 16) (hth : ∀ t, th = some t → t < T.1) : WI P tt k (w_raise P ((n, C), T, R) f th m i) ∧ (w_raise P ((n, C), T, R) f th m i).2.2.2.1.2.1 = R.2.1.2.1 := by
  have hR : R.2.1.2.1 ≤ 14 := wi.2.1.2
  have wj := wi.wj
  have h60 := wj.1.1
  unfold w_raise w_ft
  cases th with
  | some t => exact wj_fn pw st hR n T wj (ty_t (hth t rfl))
  | none =>
    dsimp only
    by_cases c60 : T.1 = 60
    · rw [if_pos c60]
      exact wj_fn pw st hR n T wj ty_m
    · rw [if_neg c60]
      have wj2 : WJ P tt k n C (addT T (-100 + nI f) 0) := ⟨wj.1.fail (by omega) hf, wj.2.1, fun c hc => ⟨(wj.2.2.1 c hc).1.mono (by show T.1 ≤ T.1 + 1; omega) (Nat.le_refl _), (wj.2.2.1 c hc).2⟩, wj.2.2.2⟩
      exact wj_fn pw st hR n _ wj2 (ty_t (by show T.1 < T.1 + 1; omega))
theorem WI.up {k k' : Nat} {W : Wk} (wi : WI P tt k W) (hk : k ≤ k') : WI P tt k' W := ⟨wi.1, wi.2.1, fun c hc => (wi.2.2.1 c hc).mono (Nat.le_refl _) hk, wi.2.2.2⟩
theorem xop_fT {op : Nat} {A B : Int32} {x : Cl} {T : Th} {fl : Nat × Option Nat} (h : (x_op P op A B x T).1 = some fl) : (x_op P op A B x T).2.2 = T := by
  obtain ⟨m, i, d, s, l, hn⟩ := x
  by_cases c1 : 8 ≤ op ∧ op ≤ 16
  · unfold x_op at h; rw [if_pos c1] at h; cases h
  · by_cases c6 : op = 6
    · unfold x_op at h; rw [if_neg c1, if_pos c6] at h; cases h
    · by_cases c7 : op = 7
      · unfold x_op at h; rw [if_neg c1, if_neg c6, if_pos c7] at h; cases h
      · rw [xop_v c1 c6 c7] at h ⊢
        have h : (x_val P op A B d s l hn i T).1 = some fl := h
        show (x_val P op A B d s l hn i T).2.2.2.2 = T
        unfold x_val at h ⊢
        split at h
        · cases h
        · rename_i y1
          rw [if_neg y1]
          split at h
          · cases h
          · rename_i y2
            rw [if_neg y2]
            split at h
            · cases h
            · rename_i y3
              rw [if_neg y3]
              split at h
              · cases h
              · rename_i y4
                rw [if_neg y4]
                split at h
                · rename_i y5
                  rw [if_pos y5]
                  unfold x_num
                  split
                  · split
                    · rfl
                    · split
                      · rfl
                      · split <;> rfl
                  · split <;> rfl
                · rename_i y5
                  rw [if_neg y5]
                  split at h
                  · cases h
                  · rename_i y6
                    rw [if_neg y6]
                    split at h
                    · rename_i y7
                      rw [if_pos y7]
                      unfold x_arr x_put at h ⊢
                      simp only [xo, xf] at h ⊢
                      split at h
                      · rename_i z1
                        rw [if_pos z1]
                        split at h
                        · rename_i z2; rw [if_pos z2]
                        · rename_i z2
                          rw [if_neg z2]
                          split at h
                          · cases h
                          · rename_i z3; rw [if_neg z3]
                      · rename_i z1
                        rw [if_neg z1]
                        split at h
                        · rename_i z2
                          rw [if_pos z2]
                          split <;> rfl
                        · rename_i z2
                          rw [if_neg z2]
                          split at h
                          · rename_i z3
                            rw [if_pos z3]
                            split at h
                            · first
                              | rfl
                              | (rename_i z4; rw [z4])
                            · rename_i z4
                              try rw [z4]
                              try dsimp only
                              split at h
                              · rename_i z5; rw [if_pos z5]
                              · cases h
                          · rename_i z3
                            rw [if_neg z3]
                            split
                            · split
                              · rfl
                              · split <;> rfl
                            · split
                              · rfl
                              · split <;> rfl
                    · rename_i y7
                      rw [if_neg y7]
                      unfold x_fm at h ⊢
                      simp only [xo, xf, xft] at h ⊢
                      split at h
                      · rename_i z1
                        rw [if_pos z1]
                        split at h
                        · rename_i z2; rw [if_pos z2]
                        · cases h
                      · rename_i z1
                        rw [if_neg z1]
                        split at h
                        · rename_i z2; rw [if_pos z2]
                        · rename_i z2
                          rw [if_neg z2]
                          split at h
                          · rename_i z3
                            rw [if_pos z3]
                            split <;> rfl
                          · rename_i z3
                            rw [if_neg z3]
                            split at h
                            · cases h
                            · rename_i z4
                              rw [if_neg z4]
                              split at h
                              · rename_i z5; rw [if_pos z5]
                              · cases h
theorem cmp_ty {T : Th} {t : Tab} {g : Nat} {S : Sh} {s l : Nat → Int64} (c : Cmp t g S) (h1 : TSt T.1 S.1 S.2.1 s) (h2 : TLo T.1 S.2.2 l) : TSt T.1 S.1 (t.2.1 g) s ∧ TLo T.1 (t.2.2.1 g) l := by
  obtain ⟨c1, c2, c3⟩ := c
  refine ⟨fun p hp => by rw [c2 p hp]; exact h1 p hp, fun j hj => ?_⟩
  rcases c3 j hj with y | y
  · rw [y]; exact ty_x (by decide) (by decide) (by decide)
  · rw [y]; exact h2 j hj
theorem wi_one (pw : PW P) (st : ST P tt) {k n : Nat} {C : Nat → Cl} {T : Th} {R : (Int32 × Int32 × Int32) × (Nat × Nat × Nat) × Int64} (wi : WI P tt k ((n + 1, C), T, R)) : WI P tt (k + 1) (w_one P ((n + 1, C), T, R) n) ∧ (w_one P ((n + 1, C), T, R) n).2.2.2.1.2.1 = R.2.1.2.1 := by
  obtain ⟨f1, f2, f3, f4, f5, f6⟩ := top_f pw st wi
  obtain ⟨th, ⟨n6, hR⟩, ci, tp, sp⟩ := id wi
  have n6 : n + 1 ≤ 6 := n6
  have hR : R.2.1.2.1 ≤ 14 := hR
  have th : TH T := th
  have c0 : CI P tt T k (C n) := ci n (by show n < n + 1; omega)
  have wm := pw.2.2.2.1 _ f1
  obtain ⟨hod, htg, e, htk, h57, h34, hput, hS12, hnx⟩ := j_own_0 f5.1
  have cmp := f5.2
  rw [hput] at cmp
  rw [f6] at htk h57 cmp
  have htk : j_take P (p_op P (C n).1 (C n).2.1) (cN (p_A P (C n).1 (C n).2.1)) (cN (p_B P (C n).1 (C n).2.1)) (C n).2.2.1 ((tt (C n).1).2.1 (C n).2.1) = some e := htk
  have up := wi.up (show k ≤ k + 1 by omega)
  by_cases c34 : p_op P (C n).1 (C n).2.1 = 34
  · have hone : w_one P ((n + 1, C), T, R) n = w_leave P ((n + 1, C), T, R) n (C n) := by
      show (if p_op P (C n).1 (C n).2.1 = 34 then _ else _) = _
      rw [if_pos c34]
    rw [hone]
    unfold w_leave
    by_cases hs : 0 < sm 60 (C n).2.2.2.2.2
    · rw [if_pos hs]
      exact wi_raise pw st up (by decide) (fun t z => by cases z)
    · rw [if_neg hs]
      have hA34 : cN (p_A P (C n).1 (C n).2.1) = p_re P (C n).1 := by
        by_cases z : cN (p_A P (C n).1 (C n).2.1) = p_re P (C n).1
        · exact z
        · exact absurd ⟨c34, z⟩ h34
      cases n with
      | zero =>
        rw [if_pos rfl]
        exact ⟨⟨th, ⟨by show 0 ≤ 6; omega, hR⟩, fun c hc => (by cases hc), fun c hc => (by cases hc), fun c hc => (by cases hc)⟩, rfl⟩
      | succ p =>
        rw [if_neg (by omega)]
        obtain ⟨ep, y1, y2, y3, y4⟩ := sp p (by show p + 1 < p + 1 + 1; omega)
        have y1 : (tt (C p).1).1 (C p).2.1 = some ep := y1
        have y2 : p_op P (C p).1 (C p).2.1 = 35 := y2
        have y3 : cN (p_A P (C p).1 (C p).2.1) = (C (p + 1)).1 := y3
        have y4 : takeL ((tt (C p).1).2.1 (C p).2.1) (argL P (C (p + 1)).1 (p_na P (C (p + 1)).1)) ep = some (C p).2.2.1 := y4
        have cp : CI P tt T k (C p) := ci p (by show p < p + 1 + 1; omega)
        obtain ⟨s1, s2⟩ := st _ cp.1
        obtain ⟨-, -, dn⟩ := s1.1 _ _ y1
        obtain ⟨hod', htg', e', htk', h57', h34', hput', hS12', hnx'⟩ := j_own_0 dn.1
        have cmp' := dn.2
        have sh' : t_sh (tt (C p).1) (C p).2.1 = (ep, (tt (C p).1).2.1 (C p).2.1, (tt (C p).1).2.2.1 (C p).2.1) := by unfold t_sh; rw [y1]; rfl
        rw [hput', sh'] at cmp'
        rw [sh'] at htk'
        have e35 : e' = (C p).2.2.1 := by
          rw [y2, y3] at htk'
          have htk' : takeL ((tt (C p).1).2.1 (C p).2.1) (argL P (C (p + 1)).1 (p_na P (C (p + 1)).1)) ep = some e' := htk'
          rw [y4] at htk'
          injection htk' with htk'
          exact htk'.symm
        subst e35
        have pair := cmp' _ (List.mem_append_right _ (jon_nx rfl (by rw [y2]; omega) _))
        rw [y2, y3] at pair
        have hpt : ∀ x y : Nat, j_pt P 35 x y = p_re P x := fun _ _ => rfl
        have hjp : j_put P 35 (C (p + 1)).1 (cN (p_B P (C p).1 (C p).2.1)) (C p).2.2.1 ((tt (C p).1).2.1 (C p).2.1) ((tt (C p).1).2.2.1 (C p).2.1) = ((if p_re P (C (p + 1)).1 = 5 then (C p).2.2.1 else (C p).2.2.1 + wd (p_re P (C (p + 1)).1)), (if p_re P (C (p + 1)).1 = 5 then (tt (C p).1).2.1 (C p).2.1 else spu ((tt (C p).1).2.1 (C p).2.1) (C p).2.2.1 (p_re P (C (p + 1)).1)), (tt (C p).1).2.2.1 (C p).2.1) := by
          unfold j_put
          rw [if_neg (by decide), if_neg (by decide), hpt]
          by_cases z : p_re P (C (p + 1)).1 = 5
          · rw [if_pos z, if_pos z, if_pos z]
          · rw [if_neg z, if_neg z, if_neg z]
        rw [hjp] at pair
        have tyv : p_re P (C (p + 1)).1 = 5 ∨ Ty T.1 (p_re P (C (p + 1)).1) ((C (p + 1)).2.2.2.1 ((C (p + 1)).2.2.1 - wd (p_re P (C (p + 1)).1))) := by
          by_cases z : p_re P (C (p + 1)).1 = 5
          · exact Or.inl z
          · right
            have htk2 : takeL ((tt (C (p + 1)).1).2.1 (C (p + 1)).2.1) (if p_re P (C (p + 1)).1 = 5 then [] else [p_re P (C (p + 1)).1]) (C (p + 1)).2.2.1 = some e := by
              rw [c34, hA34] at htk
              exact htk
            rw [if_neg z] at htk2
            obtain ⟨a1, a2, a3⟩ := tk_hd htk2
            have hw := wd_le (p_re P (C (p + 1)).1)
            have := f4 ((C (p + 1)).2.2.1 - wd (p_re P (C (p + 1)).1)) (by omega)
            rw [a2] at this
            exact this
        have tst : TSt T.1 (if p_re P (C (p + 1)).1 = 5 then (C p).2.2.1 else (C p).2.2.1 + wd (p_re P (C (p + 1)).1)) (if p_re P (C (p + 1)).1 = 5 then (tt (C p).1).2.1 (C p).2.1 else spu ((tt (C p).1).2.1 (C p).2.1) (C p).2.2.1 (p_re P (C (p + 1)).1)) (if p_re P (C (p + 1)).1 = 5 then (C p).2.2.2.1 else pushS (C p).2.2.2.1 (C p).2.2.1 (p_re P (C (p + 1)).1) ((C (p + 1)).2.2.2.1 ((C (p + 1)).2.2.1 - wd (p_re P (C (p + 1)).1)))) := by
          by_cases z : p_re P (C (p + 1)).1 = 5
          · rw [if_pos z, if_pos z, if_pos z]; exact cp.2.1
          · rw [if_neg z, if_neg z, if_neg z]
            exact tst_push cp.2.1 (tyv.resolve_left z)
        obtain ⟨tq1, tq2⟩ := cmp_ty pair tst cp.2.2.1
        refine ⟨⟨th, ⟨by show p + 1 ≤ 6; omega, hR⟩, fun c hc => ?_, fun c hc => ?_, fun c hc => ?_⟩, rfl⟩
        · have hc : c < p + 1 := hc
          show CI P tt T (k + 1) (va_up C p _ c)
          by_cases z : c = p
          · subst z
            rw [va_s]
            exact ⟨cp.1, tq1, tq2, cp.2.2.2.1, Nat.le_succ_of_le cp.2.2.2.2⟩
          · rw [va_n _ _ z]
            exact (ci c (by show c < p + 1 + 1; omega)).mono (Nat.le_refl _) (by omega)
        · have hc : c + 1 = p + 1 := hc
          have : c = p := by omega
          subst this
          show (tt (va_up C c _ c).1).1 (va_up C c _ c).2.1 = some (va_up C c _ c).2.2.1
          rw [va_s]
          exact pair.1
        · have hc : c + 1 < p + 1 := hc
          show ∃ e, (tt (va_up C p ((C p).1, _) c).1).1 (va_up C p ((C p).1, _) c).2.1 = some e ∧ p_op P (va_up C p ((C p).1, _) c).1 (va_up C p ((C p).1, _) c).2.1 = 35 ∧ cN (p_A P (va_up C p ((C p).1, _) c).1 (va_up C p ((C p).1, _) c).2.1) = (va_up C p ((C p).1, _) (c + 1)).1 ∧ takeL ((tt (va_up C p ((C p).1, _) c).1).2.1 (va_up C p ((C p).1, _) c).2.1) (argL P (va_up C p ((C p).1, _) (c + 1)).1 (p_na P (va_up C p ((C p).1, _) (c + 1)).1)) e = some (va_up C p ((C p).1, _) c).2.2.1
          rw [va_n _ _ (show c ≠ p by omega)]
          have hm : ∀ r : Nat × Nat × (Nat → Int64) × (Nat → Int64) × (Nat → Nat), (va_up C p ((C p).1, r) (c + 1)).1 = (C (c + 1)).1 := by
            intro r
            by_cases z : c + 1 = p
            · rw [z, va_s]
            · rw [va_n _ _ z]
          rw [hm]
          exact sp c (by show c + 1 < p + 1 + 1; omega)
  · by_cases c35 : p_op P (C n).1 (C n).2.1 = 35
    · have hone : w_one P ((n + 1, C), T, R) n = w_enter P ((n + 1, C), T, R) n (C n) (cN (p_A P (C n).1 (C n).2.1)) := by
        show (if p_op P (C n).1 (C n).2.1 = 34 then _ else if p_op P (C n).1 (C n).2.1 = 35 then _ else _) = _
        rw [if_neg c34, if_pos c35]
      rw [hone]
      rw [c35] at hod htk
      have hnm := pw.1
      obtain ⟨a, ha, ea, eca⟩ := wi_ex (x := p_A P (C n).1 (C n).2.1) (n := p_nm P) (by omega) hod
      rw [eca] at htk ⊢
      have htk2 : takeL ((tt (C n).1).2.1 (C n).2.1) (argL P a (p_na P a)) (C n).2.2.1 = some e := htk
      obtain ⟨q1, q2⟩ := takeL_arg _ _ htk2
      have wma := pw.2.2.2.1 a ha
      have hnw : p_aw P a (p_na P a) = p_nw P a := wma.2.2.2.2.2.1
      unfold w_enter
      by_cases c5 : n = 5
      · rw [if_pos c5]
        exact wi_raise pw st up (by decide) (fun t z => by cases z)
      · rw [if_neg c5]
        obtain ⟨sa, -⟩ := st a ha
        have ee : (C n).2.2.1 - p_nw P a = e := by omega
        have targ : TLo T.1 (j_arg P a (p_na P a)) (argS P a (C n).2.2.2.1 (p_na P a) (C n).2.2.1 (C (n + 1)).2.2.2.2.1) := by
          refine tlo_arg (fun q hq => ?_)
          rw [q1, argS_v _ _ _ hq, ← q2 q hq]
          exact f4 _ (by have := aw_lt2 (P := P) (c := a) hq; omega)
        obtain ⟨tq1, tq2⟩ := cmp_ty (T := T) (s := fun _ => (0 : Int64)) sa.2 (fun p hp => by cases hp) targ
        refine ⟨⟨th, ⟨by show n + 2 ≤ 6; omega, hR⟩, fun c hc => ?_, fun c hc => ?_, fun c hc => ?_⟩, rfl⟩
        · have hc : c < n + 2 := hc
          show CI P tt T (k + 1) (va_up (va_up C n _) (n + 1) _ c)
          by_cases z1 : c = n + 1
          · subst z1
            rw [va_s]
            exact ⟨ha, tq1, tq2, fun _ _ _ => rfl, by show sm 60 (fun _ => 0) ≤ k + 1; rw [sm_0]; omega⟩
          · rw [va_n _ _ z1]
            by_cases z2 : c = n
            · subst z2
              rw [va_s]
              exact ⟨c0.1, c0.2.1.sub (show (C c).2.2.1 - p_nw P a ≤ (C c).2.2.1 by omega), c0.2.2.1, c0.2.2.2.1, Nat.le_succ_of_le c0.2.2.2.2⟩
            · rw [va_n _ _ z2]
              exact (ci c (by show c < n + 1; omega)).mono (Nat.le_refl _) (by omega)
        · have hc : c + 1 = n + 2 := hc
          have : c = n + 1 := by omega
          subst this
          show (tt (va_up (va_up C n _) (n + 1) _ (n + 1)).1).1 (va_up (va_up C n _) (n + 1) _ (n + 1)).2.1 = some (va_up (va_up C n _) (n + 1) _ (n + 1)).2.2.1
          rw [va_s]
          exact sa.2.1
        · have hc : c + 1 < n + 2 := hc
          show ∃ e, (tt (va_up (va_up C n ((C n).1, _)) (n + 1) _ c).1).1 (va_up (va_up C n ((C n).1, _)) (n + 1) _ c).2.1 = some e ∧ p_op P (va_up (va_up C n ((C n).1, _)) (n + 1) _ c).1 (va_up (va_up C n ((C n).1, _)) (n + 1) _ c).2.1 = 35 ∧ cN (p_A P (va_up (va_up C n ((C n).1, _)) (n + 1) _ c).1 (va_up (va_up C n ((C n).1, _)) (n + 1) _ c).2.1) = (va_up (va_up C n ((C n).1, _)) (n + 1) _ (c + 1)).1 ∧ takeL ((tt (va_up (va_up C n ((C n).1, _)) (n + 1) _ c).1).2.1 (va_up (va_up C n ((C n).1, _)) (n + 1) _ c).2.1) (argL P (va_up (va_up C n ((C n).1, _)) (n + 1) _ (c + 1)).1 (p_na P (va_up (va_up C n ((C n).1, _)) (n + 1) _ (c + 1)).1)) e = some (va_up (va_up C n ((C n).1, _)) (n + 1) _ c).2.2.1
          rw [va_n _ _ (show c ≠ n + 1 by omega)]
          by_cases z2 : c = n
          · subst z2
            rw [va_s, va_s]
            refine ⟨(C c).2.2.1, tp c rfl, c35, eca, ?_⟩
            show takeL _ _ _ = some ((C c).2.2.1 - p_nw P a)
            rw [ee]; exact htk2
          · rw [va_n _ _ z2]
            rw [va_n _ _ (show c + 1 ≠ n + 1 by omega)]
            have hm : ∀ r : Nat × Nat × (Nat → Int64) × (Nat → Int64) × (Nat → Nat), (va_up C n ((C n).1, r) (c + 1)).1 = (C (c + 1)).1 := by
              intro r
              by_cases z : c + 1 = n
              · rw [z, va_s]
              · rw [va_n _ _ z]
            rw [hm]
            exact sp c (by show c + 1 < n + 1; omega)
    · have hop := wm.2.2.2.2.2.2.2.1 _ f2
      have hone : w_one P ((n + 1, C), T, R) n = w_plain P ((n + 1, C), T, R) n (C n) (x_op P (p_op P (C n).1 (C n).2.1) (p_A P (C n).1 (C n).2.1) (p_B P (C n).1 (C n).2.1) (C n) T) := by
        show (if p_op P (C n).1 (C n).2.1 = 34 then _ else if p_op P (C n).1 (C n).2.1 = 35 then _ else _) = _
        rw [if_neg c34, if_neg c35]
      rw [hone]
      have ht30 : 30 < p_op P (C n).1 (C n).2.1 → Ty T.1 4 ((C n).2.2.2.1 ((C n).2.2.1 - 1)) := by
        intro z
        have e4 : j_tk P (p_op P (C n).1 (C n).2.1) (cN (p_A P (C n).1 (C n).2.1)) (cN (p_B P (C n).1 (C n).2.1)) = [4] := by
          rcases (show p_op P (C n).1 (C n).2.1 = 31 ∨ p_op P (C n).1 (C n).2.1 = 32 ∨ p_op P (C n).1 (C n).2.1 = 33 by omega) with y | y | y <;> rw [y] <;> rfl
        unfold j_take at htk
        rw [if_neg (by omega), e4] at htk
        obtain ⟨a1, a2, -⟩ := tk_hd htk
        have w4 : wd 4 = 1 := rfl
        have := f4 ((C n).2.2.1 - wd 4) (by omega)
        rw [a2] at this
        exact this
      have hxf := fun fl => xop_f (fl := fl) (P := P) (op := p_op P (C n).1 (C n).2.1) (A := p_A P (C n).1 (C n).2.1) (B := p_B P (C n).1 (C n).2.1) (m := (C n).1) (i := (C n).2.1) (d := (C n).2.2.1) (s := (C n).2.2.2.1) (l := (C n).2.2.2.2.1) (hn := (C n).2.2.2.2.2) th (by omega) ht30
      have hxT := fun fl => xop_fT (fl := fl) (P := P) (op := p_op P (C n).1 (C n).2.1) (A := p_A P (C n).1 (C n).2.1) (B := p_B P (C n).1 (C n).2.1) (x := C n) (T := T)
      have hxo := xop_ok (P := P) (m := (C n).1) (i := (C n).2.1) (d := (C n).2.2.1) (s := (C n).2.2.2.1) (l := (C n).2.2.2.2.1) (hn := (C n).2.2.2.2.2) (T := T) (e := e) (B := p_B P (C n).1 (C n).2.1) (σ := (tt (C n).1).2.1 (C n).2.1) (lk := (tt (C n).1).2.2.1 (C n).2.1) rfl rfl th (show p_op P (C n).1 (C n).2.1 < 34 by omega) hod htk h57 f3 f4 c0.2.2.1 c0.2.2.2.1
      have hxm := xop_m (P := P) (op := p_op P (C n).1 (C n).2.1) (A := p_A P (C n).1 (C n).2.1) (B := p_B P (C n).1 (C n).2.1) (x := C n) (T := T)
      have eC : ((C n).1, (C n).2.1, (C n).2.2.1, (C n).2.2.2.1, (C n).2.2.2.2.1, (C n).2.2.2.2.2) = C n := rfl
      rw [eC] at hxf hxo
      have cmp : ∀ x ∈ j_on P (C n).1 (C n).2.1 (j_put P (p_op P (C n).1 (C n).2.1) (cN (p_A P (C n).1 (C n).2.1)) (cN (p_B P (C n).1 (C n).2.1)) e ((tt (C n).1).2.1 (C n).2.1) ((tt (C n).1).2.2.1 (C n).2.1)), Cmp (tt (C n).1) x.1 x.2 := fun x hx => cmp x (List.mem_append_right _ hx)
      generalize j_put P (p_op P (C n).1 (C n).2.1) (cN (p_A P (C n).1 (C n).2.1)) (cN (p_B P (C n).1 (C n).2.1)) e ((tt (C n).1).2.1 (C n).2.1) ((tt (C n).1).2.2.1 (C n).2.1) = S at hxo cmp
      generalize x_op P (p_op P (C n).1 (C n).2.1) (p_A P (C n).1 (C n).2.1) (p_B P (C n).1 (C n).2.1) (C n) T = X at hxf hxT hxo hxm ⊢
      obtain ⟨X1, X2, X3⟩ := X
      cases X1 with
      | some fl =>
        obtain ⟨z1, z2⟩ := hxf fl rfl
        have z3 : X3 = T := hxT fl rfl
        subst z3
        exact wi_raise pw st up z1 z2
      | none =>
        obtain ⟨o1, o2, o3, o4, o5, o6, o7, o8⟩ := hxo rfl
        dsimp only at o1 o2 o3 o4 o5 o6 o7 o8
        have hxm : X2.1 = (C n).1 := hxm
        have pair := cmp _ o8
        obtain ⟨tq1, tq2⟩ := cmp_ty pair o4 o5
        have hk := c0.2.2.2.2
        refine ⟨⟨o1, ⟨n6, hR⟩, fun c hc => ?_, fun c hc => ?_, fun c hc => ?_⟩, rfl⟩
        · have hc : c < n + 1 := hc
          show CI P tt X3 (k + 1) (va_up C n X2 c)
          by_cases z : c = n
          · subst z
            rw [va_s]
            refine ⟨by rw [hxm]; exact c0.1, ?_, ?_, o6, by omega⟩
            · rw [hxm, o3]; exact tq1
            · rw [hxm]; exact tq2
          · rw [va_n _ _ z]
            exact (ci c (by show c < n + 1; omega)).mono o2 (by omega)
        · have hc : c + 1 = n + 1 := hc
          have : c = n := by omega
          subst this
          show (tt (va_up C c X2 c).1).1 (va_up C c X2 c).2.1 = some (va_up C c X2 c).2.2.1
          rw [va_s, hxm, o3]
          exact pair.1
        · have hc : c + 1 < n + 1 := hc
          show ∃ e, (tt (va_up C n X2 c).1).1 (va_up C n X2 c).2.1 = some e ∧ p_op P (va_up C n X2 c).1 (va_up C n X2 c).2.1 = 35 ∧ cN (p_A P (va_up C n X2 c).1 (va_up C n X2 c).2.1) = (va_up C n X2 (c + 1)).1 ∧ takeL ((tt (va_up C n X2 c).1).2.1 (va_up C n X2 c).2.1) (argL P (va_up C n X2 (c + 1)).1 (p_na P (va_up C n X2 (c + 1)).1)) e = some (va_up C n X2 c).2.2.1
          rw [va_n _ _ (show c ≠ n by omega)]
          have hm : (va_up C n X2 (c + 1)).1 = (C (c + 1)).1 := by
            by_cases z : c + 1 = n
            · rw [z, va_s]; exact hxm
            · rw [va_n _ _ z]
          rw [hm]
          exact sp c (by show c + 1 < n + 1; omega)
theorem wi_max (st : ST P tt) {k : Nat} {W : Wk} (wi : WI P tt k W) : WI P tt k (w_max W) := by
  unfold w_max
  by_cases c : 0 < W.1.1
  · rw [if_pos c]
    obtain ⟨th, ⟨n6, hR⟩, ci, tp, sp⟩ := wi
    refine ⟨th, ⟨n6, ?_⟩, ci, tp, sp⟩
    have t0 := tp (W.1.1 - 1) (by omega)
    have c0 := ci (W.1.1 - 1) (by omega)
    have := ((st _ c0.1).1.1 _ _ t0).2.1
    show (if _ then _ else _) ≤ 14
    split <;> omega
  · rw [if_neg c]; exact wi
theorem wi_step (pw : PW P) (st : ST P tt) {k n : Nat} {C : Nat → Cl} {T : Th} {R : (Int32 × Int32 × Int32) × (Nat × Nat × Nat) × Int64} (wi : WI P tt k ((n + 1, C), T, R)) : WI P tt (k + 1) (w_max (w_one P ((n + 1, C), T, R) n)) := wi_max st (wi_one pw st wi).1
end IW
