/-! the class's walker: where its rows lie, its things -/
def WT (T : xT) (R : Nat → Nat → Option Nat) (o : Nat) : Prop := (T (o + 14) = some (.inl 8) ∧ R (o + 14) 0 = some (o + 1) ∧ R (o + 14) 1 = some (o + 15) ∧ R (o + 14) 2 = some (o + 20) ∧ R (o + 14) 3 = some (o + 21)) ∧ (T (o + 15) = some (.inl 7) ∧ R (o + 15) 0 = some (o + 16) ∧ R (o + 15) 1 = some (o + 17) ∧ R (o + 15) 2 = some (o + 18) ∧ R (o + 15) 3 = some (o + 19)) ∧ (T (o + 16) = some (.inr (.int, 60)) ∧ T (o + 17) = some (.inr (.int, 60)) ∧ T (o + 18) = some (.inr (.int, 60)) ∧ T (o + 19) = some (.inr (.long, 6000))) ∧ (T (o + 20) = some (.inr (.object "SeldomOps$Call", 6)) ∧ T (o + 21) = some (.inr (.int, 3))) ∧ ∀ c, c < 6 → (R (o + 20) c = some (o + 22 + 5 * c) ∧ T (o + 22 + 5 * c) = some (.inl 0)) ∧ (R (o + 22 + 5 * c) 4 = some (o + 23 + 5 * c) ∧ R (o + 22 + 5 * c) 5 = some (o + 25 + 5 * c) ∧ R (o + 22 + 5 * c) 6 = some (o + 26 + 5 * c)) ∧ (T (o + 23 + 5 * c) = some (.inl 9) ∧ R (o + 23 + 5 * c) 0 = some (o + 24 + 5 * c)) ∧ T (o + 24 + 5 * c) = some (.inr (.long, 14)) ∧ T (o + 25 + 5 * c) = some (.inr (.long, 16)) ∧ T (o + 26 + 5 * c) = some (.inr (.int, 60))
def TV (h : Hp) (o : Nat) (T : Th) (U : Nat → Nat → Prop) : Prop := (hI h (o + 15) 4 = nI T.1 ∧ T.1 ≤ 60) ∧ ∀ t, t < T.1 → hI h (o + 16) t = T.2.1 t ∧ (hI h (o + 17) t = nI (T.2.2.1 t) ∧ T.2.2.1 t ≤ 100) ∧ hI h (o + 18) t = T.2.2.2.1 t ∧ ∀ k, k < T.2.2.1 t → ¬ U t k → hL h (o + 19) (100 * t + k) = T.2.2.2.2 t k
def U0 : Nat → Nat → Prop := fun _ _ => False
def AT (o : Nat) : Nat → Prop := fun b => o + 15 ≤ b ∧ b ≤ o + 19
theorem WT.fr {A : Nat → Prop} {h g : Hp} {o : Nat} (v : WT (hT h) (hR h) o) (f : Fr A h g) : WT (hT g) (hR g) o := by rw [f.1, f.2.1]; exact v
theorem TV.fr {A : Nat → Prop} {h g : Hp} {o : Nat} {T : Th} {U : Nat → Nat → Prop} (v : TV h o T U) (f : Fr A h g) (hA : ∀ b, o + 15 ≤ b → b ≤ o + 19 → ¬ A b) : TV g o T U := by
  unfold TV at v ⊢
  rw [(f.2.2.2 (o + 15) (hA _ (by omega) (by omega))).1, (f.2.2.2 (o + 16) (hA _ (by omega) (by omega))).1, (f.2.2.2 (o + 17) (hA _ (by omega) (by omega))).1, (f.2.2.2 (o + 18) (hA _ (by omega) (by omega))).1, (f.2.2.2 (o + 19) (hA _ (by omega) (by omega))).2]
  exact v
theorem TV.mono {h : Hp} {o : Nat} {T : Th} {U U' : Nat → Nat → Prop} (v : TV h o T U) (hU : ∀ t k, t < T.1 → k < T.2.2.1 t → U t k → U' t k) : TV h o T U' :=
  ⟨v.1, fun t ht => ⟨(v.2 t ht).1, (v.2 t ht).2.1, (v.2 t ht).2.2.1, fun k hk hn => (v.2 t ht).2.2.2 k hk (fun z => hn (hU t k ht hk z))⟩⟩
theorem f_csort (y : Int32) (h : Hp) : FX8_cellSort y h = some (csI y, h) := by
  unfold FX8_cellSort csI
  by_cases c : y < 16
  · rw [if_pos c, if_pos c]
  · rw [if_neg c, if_neg c]
section TA
variable {h : Hp} {o : Nat} {T : Th} {U : Nat → Nat → Prop}
theorem f_isArr (wt : WT (hT h) (hR h) o) (v : TV h o T U) {t : Nat} (ht : t < T.1) : FX8_isArray (some (o + 15)) (nI t) h = some (b2i (!decide (T.2.1 t < 0)), h) := by
  obtain ⟨-, ⟨a1, a2, a3, a4, a5⟩, ⟨b1, b2, b3, b4⟩, -⟩ := wt
  obtain ⟨⟨v1, v2⟩, v3⟩ := v
  have e := (v3 t ht).1
  unfold FX8_isArray
  rw [gI_ok a1, v1, f_within_t ht (by omega), cl_ok, if_neg (by decide), gR_ok a1, a2, aI_n b1 (by omega) (by decide), e]
  by_cases c : T.2.1 t < 0
  · rw [if_pos c, decide_eq_true c]; rfl
  · rw [if_neg c, decide_eq_false c]; rfl
theorem f_isTy (wt : WT (hT h) (hR h) o) (v : TV h o T U) {t : Nat} (ht : t < T.1) (x : Int32) : FX8_isOfType (some (o + 15)) (nI t) x h = some (b2i (decide (T.2.1 t = x)), h) := by
  obtain ⟨-, ⟨a1, a2, a3, a4, a5⟩, ⟨b1, b2, b3, b4⟩, -⟩ := wt
  obtain ⟨⟨v1, v2⟩, v3⟩ := v
  have e := (v3 t ht).1
  unfold FX8_isOfType
  rw [gI_ok a1, v1, f_within_t ht (by omega), cl_ok, if_neg (by decide), gR_ok a1, a2, aI_n b1 (by omega) (by decide), e]
  by_cases c : T.2.1 t = x
  · rw [if_pos c, decide_eq_true c]; rfl
  · rw [if_neg c, decide_eq_false c]; rfl
theorem f_isTy_m (wt : WT (hT h) (hR h) o) (v : TV h o T U) (x : Int32) : FX8_isOfType (some (o + 15)) (-1) x h = some (0, h) := by
  obtain ⟨-, ⟨a1, a2, a3, a4, a5⟩, ⟨b1, b2, b3, b4⟩, -⟩ := wt
  obtain ⟨⟨v1, v2⟩, v3⟩ := v
  unfold FX8_isOfType
  rw [gI_ok a1, v1, f_within_f (by omega) (Or.inl (by decide)), cl_ok, if_pos rfl]; rfl
theorem f_failNo (wt : WT (hT h) (hR h) o) (v : TV h o T U) {t : Nat} (ht : t < T.1) (hn : T.2.1 t < 0) : FX8_failureNumber (some (o + 15)) (nI t) h = some (T.2.1 t - (-100), h) := by
  obtain ⟨-, ⟨a1, a2, a3, a4, a5⟩, ⟨b1, b2, b3, b4⟩, -⟩ := wt
  obtain ⟨⟨v1, v2⟩, v3⟩ := v
  have e := (v3 t ht).1
  unfold FX8_failureNumber
  rw [gI_ok a1, v1, f_within_t ht (by omega), cl_ok, if_neg (by decide), gR_ok a1, a2, aI_n b1 (by omega) (by decide), e, if_pos hn, gR_ok a1, a2, aI_n b1 (by omega) (by decide), e]
theorem f_hasC (wt : WT (hT h) (hR h) o) (v : TV h o T U) {t : Nat} (ht : t < T.1) (k : Int32) : FX8_hasCell (some (o + 15)) (nI t) k h = some (b2i (wi k (T.2.2.1 t)), h) := by
  obtain ⟨-, ⟨a1, a2, a3, a4, a5⟩, ⟨b1, b2, b3, b4⟩, -⟩ := wt
  obtain ⟨⟨v1, v2⟩, v3⟩ := v
  have e := (v3 t ht).2.1
  unfold FX8_hasCell wi
  rw [if_neg (nI_pos (by omega)), gI_ok a1, v1, if_lt (by omega) (by omega), if_pos ht]
  by_cases c : k < 0
  · have d := c
    rw [i32_lt, i32_0] at d
    rw [if_pos c, decide_eq_false (by omega)]; rfl
  · have d := c
    rw [i32_lt, i32_0] at d
    rw [if_neg c, gR_ok a1, a3, aI_n b2 (by omega) (by decide), e.1]
    by_cases c2 : k < nI (T.2.2.1 t)
    · have d2 := c2
      rw [i32_lt, nI_tI (by omega)] at d2
      rw [if_pos c2, decide_eq_true (by omega)]; rfl
    · have d2 := c2
      rw [i32_lt, nI_tI (by omega)] at d2
      rw [if_neg c2, decide_eq_false (by omega)]; rfl
/-- the number of a failure, or -1 -/
def o2i (r : Option Nat) : Int32 := match r with
  | some f => nI f
  | none => -1
theorem f_refc (wt : WT (hT h) (hR h) o) (v : TV h o T U) {x : Int32} (hx : x = -1 ∨ ∃ t, t < T.1 ∧ x = nI t) (k : Int32) {b : Nat} : FX8_refuseCell (some (o + 15)) x k (nI b) h = some (o2i (refc T x k b), h) := by
  unfold FX8_refuseCell refc
  have n60 := v.1.2
  rcases hx with rfl | ⟨t, ht, rfl⟩
  · rw [if_pos rfl, if_pos rfl]; rfl
  · have e := (v.2 t ht).1
    have m1 := nI_nm1 (a := t) (by omega)
    rw [if_neg m1, if_neg m1, rcv_ok wt.2.1.1, f_isArr wt v ht, cl_ok, b2i_if, cN_n (by omega)]
    by_cases c : T.2.1 t < 0
    · rw [decide_eq_true c, if_neg (by decide), if_pos (Or.inl c)]; rfl
    · rw [decide_eq_false c, if_pos (by decide), gR_ok wt.2.1.1, wt.2.1.2.1, aI_n wt.2.2.1.1 (by omega) (by decide), e, f_csort, cl_ok]
      by_cases c2 : csI (T.2.1 t) = nI b
      · rw [if_pos c2, if_neg (fun z => z.elim c (fun y => y c2)), rcv_ok wt.2.1.1, f_hasC wt v ht, cl_ok, b2i_if]
        cases hw : wi k (T.2.2.1 t) with
        | true => rw [if_pos rfl, if_neg (by decide)]; rfl
        | false => rw [if_neg (by decide), if_pos rfl]; rfl
      · rw [if_neg c2, if_pos (Or.inr c2)]; rfl
theorem f_read (wt : WT (hT h) (hR h) o) (v : TV h o T U) {t k : Nat} (ht : t < T.1) (hk : k < T.2.2.1 t) (hu : ¬ U t k) : FX8_read (some (o + 15)) (nI t) (nI k) h = some (T.2.2.2.2 t k, h) := by
  have n60 := v.1.2
  obtain ⟨e1, ⟨e2, e3⟩, e4, e5⟩ := v.2 t ht
  unfold FX8_read
  rw [rcv_ok wt.2.1.1, f_hasC wt v ht, cl_ok, wi_n (by omega), decide_eq_true hk, if_neg (by decide), gR_ok wt.2.1.1, wt.2.1.2.2.2.2, nl_100, pk_mul, nI_add, aL_n wt.2.2.1.2.2.2 (by omega) (by decide), show t * 100 + k = 100 * t + k by omega, e5 k hk hu]
theorem f_write (wt : WT (hT h) (hR h) o) (v : TV h o T U) {t k : Nat} (ht : t < T.1) (hk : k < T.2.2.1 t) (x : Int64) : Ok (FX8_write (some (o + 15)) (nI t) (nI k) x h) (fun _ g => TV g o (wrC T t k x) (fun a b => U a b ∧ ¬ (a = t ∧ b = k)) ∧ Fr (AT o) h g) := by
  have n60 := v.1.2
  obtain ⟨e1, ⟨e2, e3⟩, e4, e5⟩ := v.2 t ht
  unfold FX8_write
  rw [rcv_ok wt.2.1.1, f_hasC wt v ht, cl_ok, wi_n (by omega), decide_eq_true hk, if_neg (by decide), gR_ok wt.2.1.1, wt.2.1.2.2.2.2, nl_100, pk_mul, nI_add, sL_n wt.2.2.1.2.2.2 (by omega) (by decide), show t * 100 + k = 100 * t + k by omega]
  refine ok_some ⟨⟨v.1, fun a ha => ?_⟩, Fr.wL (A := AT o) (by unfold AT; omega)⟩
  obtain ⟨d1, ⟨d2, d3⟩, d4, d5⟩ := v.2 a ha
  refine ⟨d1, ⟨d2, d3⟩, d4, fun j hj hn => ?_⟩
  unfold wrC at hj ⊢
  dsimp only at hj ⊢
  by_cases c : a = t
  · subst c
    rw [va_s]
    by_cases c2 : j = k
    · subst c2; rw [va_s, hL_wL_s]
    · rw [va_n _ _ c2, hL_wL_k (by omega)]
      exact d5 j hj (fun z => hn ⟨z, fun y => c2 y.2⟩)
  · rw [va_n _ _ c, hL_wL_k (by omega)]
    exact d5 j hj (fun z => hn ⟨z, fun y => c y.1⟩)
theorem f_mayS (wt : WT (hT h) (hR h) o) (v : TV h o T U) {t : Nat} (ht : t < T.1) (hp : ¬ T.2.1 t < 0) {w : Int32} (hw : w = -1 ∨ ∃ u, u < T.1 ∧ w = nI u) : FX8_mayStore (some (o + 15)) (nI t) w h = some (b2i (decide (w = -1 ∨ T.2.1 (cN w) = T.2.1 t - 8)), h) := by
  have n60 := v.1.2
  have e1 := (v.2 t ht).1
  unfold FX8_mayStore
  rcases hw with rfl | ⟨u, hu, rfl⟩
  · rw [if_pos rfl, decide_eq_true (Or.inl rfl)]; rfl
  · have m1 := nI_nm1 (a := u) (by omega)
    rw [if_neg m1, rcv_ok wt.2.1.1, f_isArr wt v ht, cl_ok, b2i_if, decide_eq_false hp, if_pos (by decide), gR_ok wt.2.1.1, wt.2.1.2.1, aI_n wt.2.2.1.1 (by omega) (by decide), e1, rcv_ok wt.2.1.1, f_isTy wt v hu, cl_ok, b2i_if, cN_n (by omega)]
    by_cases c : T.2.1 u = T.2.1 t - 8
    · rw [decide_eq_true c, if_pos rfl, decide_eq_true (Or.inr c)]; rfl
    · rw [decide_eq_false c, if_neg (by decide), decide_eq_false (fun z => z.elim m1 c)]; rfl
theorem f_add (wt : WT (hT h) (hR h) o) (v : TV h o T U) (hn : T.1 < 60) (y : Int32) {z : Nat} (hz : z ≤ 100) : Ok (FX8_add (some (o + 15)) y (nI z) h) (fun r g => r = nI T.1 ∧ TV g o (addT T y z) (fun a b => U a b ∨ a = T.1) ∧ Fr (AT o) h g) := by
  obtain ⟨-, ⟨a1, a2, a3, a4, a5⟩, ⟨b1, b2, b3, b4⟩, -⟩ := id wt
  have v1 := v.1.1
  unfold FX8_add
  rw [gI_ok a1, v1, nl_60, if_eq (by omega) (by decide), if_neg (by omega), gI_ok a1, v1, gI_ok a1, v1, pI_ok a1, nI_1]
  rw [gR_ok (show hT (wI h (o + 15) 4 (nI (T.1 + 1))) (o + 15) = _ from a1), show hR (wI h (o + 15) 4 (nI (T.1 + 1))) (o + 15) 0 = _ from a2, sI_n (show hT (wI h (o + 15) 4 (nI (T.1 + 1))) (o + 16) = _ from b1) hn (by decide)]
  rw [gR_ok (show hT (wI (wI h (o + 15) 4 (nI (T.1 + 1))) (o + 16) T.1 y) (o + 15) = _ from a1), show hR (wI (wI h (o + 15) 4 (nI (T.1 + 1))) (o + 16) T.1 y) (o + 15) 1 = _ from a3, sI_n (show hT (wI (wI h (o + 15) 4 (nI (T.1 + 1))) (o + 16) T.1 y) (o + 17) = _ from b2) hn (by decide)]
  rw [gR_ok (show hT (wI (wI (wI h (o + 15) 4 (nI (T.1 + 1))) (o + 16) T.1 y) (o + 17) T.1 (nI z)) (o + 15) = _ from a1), show hR (wI (wI (wI h (o + 15) 4 (nI (T.1 + 1))) (o + 16) T.1 y) (o + 17) T.1 (nI z)) (o + 15) 2 = _ from a4, sI_n (show hT (wI (wI (wI h (o + 15) 4 (nI (T.1 + 1))) (o + 16) T.1 y) (o + 17) T.1 (nI z)) (o + 18) = _ from b3) hn (by decide)]
  refine ok_some ⟨rfl, ⟨⟨?_, by unfold addT; dsimp only; omega⟩, fun t ht => ?_⟩, (((Fr.wI (A := AT o) (by unfold AT; omega)).trans (Fr.wI (A := AT o) (by unfold AT; omega))).trans (Fr.wI (A := AT o) (by unfold AT; omega))).trans (Fr.wI (A := AT o) (by unfold AT; omega))⟩
  · rw [hI_wI_a (by omega), hI_wI_a (by omega), hI_wI_a (by omega), hI_wI_s]; rfl
  · unfold addT at ht ⊢
    dsimp only at ht ⊢
    rw [hI_wI_a (show o + 16 ≠ o + 18 by omega), hI_wI_a (show o + 16 ≠ o + 17 by omega), hI_wI_a (show o + 17 ≠ o + 18 by omega)]
    by_cases c : t = T.1
    · subst c
      rw [hI_wI_s, hI_wI_s, hI_wI_s, va_s, va_s, va_s, va_s]
      exact ⟨rfl, ⟨rfl, hz⟩, rfl, fun k hk hu => absurd (Or.inr rfl) hu⟩
    · obtain ⟨d1, ⟨d2, d3⟩, d4, d5⟩ := v.2 t (by omega)
      rw [hI_wI_k c, hI_wI_k c, hI_wI_k c, va_n _ _ c, va_n _ _ c, va_n _ _ c, va_n _ _ c, hI_wI_a (show o + 16 ≠ o + 15 by omega), hI_wI_a (show o + 17 ≠ o + 16 by omega), hI_wI_a (show o + 17 ≠ o + 15 by omega), hI_wI_a (show o + 18 ≠ o + 17 by omega), hI_wI_a (show o + 18 ≠ o + 16 by omega), hI_wI_a (show o + 18 ≠ o + 15 by omega)]
      exact ⟨d1, ⟨d2, d3⟩, d4, fun k hk hu => d5 k hk (fun y => hu (Or.inl y))⟩
theorem f_makeF (wt : WT (hT h) (hR h) o) (v : TV h o T U) (hn : T.1 < 60) (y : Int32) : Ok (FX8_makeFailure (some (o + 15)) y h) (fun r g => r = nI T.1 ∧ TV g o (addT T (-100 + y) 0) U ∧ Fr (AT o) h g) := by
  unfold FX8_makeFailure
  rw [rcv_ok wt.2.1.1, nI_c0]
  refine ok_cl (f_add wt v hn (-100 + y) (by omega)) (fun r g q => ok_some ?_)
  obtain ⟨q1, q2, q3⟩ := q
  refine ⟨q1, q2.mono (fun t k ht hk hu => ?_), q3⟩
  rcases hu with hu | hu
  · exact hu
  · subst hu
    unfold addT at hk
    dsimp only at hk
    rw [va_s] at hk
    omega
theorem f_makeF60 (wt : WT (hT h) (hR h) o) (v : TV h o T U) (hn : T.1 = 60) (y : Int32) : FX8_makeFailure (some (o + 15)) y h = some (-1, h) := by
  have v1 := v.1.1
  unfold FX8_makeFailure FX8_add
  rw [rcv_ok wt.2.1.1, gI_ok wt.2.1.1, v1, hn, nl_60, if_pos rfl, cl_ok]
end TA
