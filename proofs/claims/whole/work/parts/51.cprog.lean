/-! the class's program -/
def MT (T : xT) (R : Nat → Nat → Option Nat) (a : Nat) : Prop := T a = some (.inl 2) ∧ (R a 1 = some (a + 1) ∧ R a 4 = some (a + 2) ∧ R a 5 = some (a + 3) ∧ R a 6 = some (a + 4) ∧ R a 8 = some (a + 5) ∧ R a 9 = some (a + 6) ∧ R a 10 = some (a + 7) ∧ R a 11 = some (a + 8) ∧ R a 13 = some (a + 9)) ∧ T (a + 1) = some (.inr (.int, 8)) ∧ T (a + 2) = some (.inr (.int, 60)) ∧ T (a + 3) = some (.inr (.int, 60)) ∧ T (a + 4) = some (.inr (.int, 60)) ∧ T (a + 5) = some (.inr (.int, 6)) ∧ T (a + 6) = some (.inr (.int, 6)) ∧ T (a + 7) = some (.inr (.int, 6)) ∧ T (a + 8) = some (.inr (.int, 6))
def MC (h : Hp) (a : Nat) (P : Pg) (m : Nat) : Prop := (hI h a 0 = nI (p_re P m) ∧ hI h a 2 = nI (p_na P m) ∧ hI h a 3 = nI (p_nw P m) ∧ hI h a 7 = nI (p_no P m) ∧ hI h a 12 = nI (p_nh P m)) ∧ (∀ k, k < p_na P m → hI h (a + 1) k = nI (p_ka P m k)) ∧ (∀ i, i < p_no P m → hI h (a + 2) i = nI (p_op P m i) ∧ hI h (a + 3) i = p_A P m i ∧ hI h (a + 4) i = p_B P m i) ∧ ∀ k, k < p_nh P m → hI h (a + 5) k = nI (p_hf P m k) ∧ hI h (a + 6) k = nI (p_hu P m k) ∧ hI h (a + 7) k = nI (p_hg P m k) ∧ hI h (a + 8) k = p_hn P m k
def TT (T : xT) (R : Nat → Nat → Option Nat) (a : Nat) : Prop := T a = some (.inl 6) ∧ (R a 3 = some (a + 1) ∧ R a 4 = some (a + 2)) ∧ T (a + 1) = some (.inr (.int, 8)) ∧ T (a + 2) = some (.inr (.int, 8))
def TC (h : Hp) (a : Nat) (P : Pg) (t : Nat) : Prop := (hI h a 0 = nI (p_sp P t) ∧ hI h a 1 = p_lo P t ∧ hI h a 2 = nI (p_ot P t) ∧ hI h a 5 = nI (p_ne P t)) ∧ ∀ e, e < p_ne P t → hI h (a + 1) e = p_ky P t e ∧ hI h (a + 2) e = nI (p_tt P t e)
def PT (T : xT) (R : Nat → Nat → Option Nat) (o : Nat) : Prop := T (o + 1) = some (.inl 3) ∧ (R (o + 1) 0 = some (o + 2) ∧ R (o + 1) 2 = some (o + 3) ∧ R (o + 1) 4 = some (o + 4)) ∧ T (o + 2) = some (.inr (.object "SeldomOps$Method", 8)) ∧ T (o + 3) = some (.inr (.long, 40)) ∧ T (o + 4) = some (.inr (.object "SeldomOps$Table", 8))
def PC (h : Hp) (o : Nat) (ma ta : Nat → Nat) (P : Pg) : Prop := PT (hT h) (hR h) o ∧ (hI h (o + 1) 1 = nI (p_nm P) ∧ hI h (o + 1) 3 = nI (p_nc P) ∧ hI h (o + 1) 5 = nI (p_nt P)) ∧
  (∀ m, m < p_nm P → hR h (o + 2) m = some (ma m) ∧ MT (hT h) (hR h) (ma m) ∧ MC h (ma m) P m) ∧ (∀ t, t < p_nt P → hR h (o + 4) t = some (ta t) ∧ TT (hT h) (hR h) (ta t) ∧ TC h (ta t) P t) ∧ ∀ c, c < p_nc P → hL h (o + 3) c = p_c P c
/-- where the program lies -/
def PA (o : Nat) (ma ta : Nat → Nat) (P : Pg) : Nat → Prop := fun b => (o + 1 ≤ b ∧ b ≤ o + 4) ∨ (∃ m, m < p_nm P ∧ ma m ≤ b ∧ b ≤ ma m + 8) ∨ ∃ t, t < p_nt P ∧ ta t ≤ b ∧ b ≤ ta t + 2
theorem MC.fr {h g : Hp} {a : Nat} {P : Pg} {m : Nat} {A : Nat → Prop} (v : MC h a P m) (f : Fr A h g) (hA : ∀ b, a ≤ b → b ≤ a + 8 → ¬ A b) : MC g a P m := by
  have e : ∀ b, a ≤ b → b ≤ a + 8 → hI g b = hI h b := fun b h1 h2 => (f.2.2.2 b (hA b h1 h2)).1
  unfold MC at v ⊢
  rw [e a (by omega) (by omega), e (a + 1) (by omega) (by omega), e (a + 2) (by omega) (by omega), e (a + 3) (by omega) (by omega), e (a + 4) (by omega) (by omega), e (a + 5) (by omega) (by omega), e (a + 6) (by omega) (by omega), e (a + 7) (by omega) (by omega), e (a + 8) (by omega) (by omega)]
  exact v
theorem TC.fr {h g : Hp} {a : Nat} {P : Pg} {t : Nat} {A : Nat → Prop} (v : TC h a P t) (f : Fr A h g) (hA : ∀ b, a ≤ b → b ≤ a + 2 → ¬ A b) : TC g a P t := by
  have e : ∀ b, a ≤ b → b ≤ a + 2 → hI g b = hI h b := fun b h1 h2 => (f.2.2.2 b (hA b h1 h2)).1
  unfold TC at v ⊢
  rw [e a (by omega) (by omega), e (a + 1) (by omega) (by omega), e (a + 2) (by omega) (by omega)]
  exact v
theorem PC.fr {h g : Hp} {o : Nat} {ma ta : Nat → Nat} {P : Pg} {A : Nat → Prop} (v : PC h o ma ta P) (f : Fr A h g) (hA : ∀ b, PA o ma ta P b → ¬ A b) : PC g o ma ta P := by
  obtain ⟨v1, v2, v3, v4, v5⟩ := v
  have e1 := f.2.2.2 (o + 1) (hA _ (Or.inl (by omega)))
  have e3 := f.2.2.2 (o + 3) (hA _ (Or.inl (by omega)))
  refine ⟨by rw [f.1, f.2.1]; exact v1, by rw [e1.1]; exact v2, fun m hm => ?_, fun t ht => ?_, fun c hc => by rw [e3.2]; exact v5 c hc⟩
  · obtain ⟨x1, x2, x3⟩ := v3 m hm
    exact ⟨by rw [f.2.1]; exact x1, by rw [f.1, f.2.1]; exact x2, x3.fr f (fun b h1 h2 => hA b (Or.inr (Or.inl ⟨m, hm, h1, h2⟩)))⟩
  · obtain ⟨x1, x2, x3⟩ := v4 t ht
    exact ⟨by rw [f.2.1]; exact x1, by rw [f.1, f.2.1]; exact x2, x3.fr f (fun b h1 h2 => hA b (Or.inr (Or.inr ⟨t, ht, h1, h2⟩)))⟩
theorem f_ity (x : Int32) (h : Hp) : FX11_isType x h = some (b2i (ity x), h) := by
  have e8 : (8 : Int32).toInt = 8 := rfl
  have e32 : (32 : Int32).toInt = 32 := rfl
  unfold FX11_isType ity
  by_cases c1 : x < 8
  · have d1 := c1
    rw [i32_lt, e8] at d1
    rw [if_pos c1, decide_eq_false (by omega)]; rfl
  · have d1 := c1
    rw [i32_lt, e8] at d1
    rw [if_neg c1]
    by_cases c2 : x < 32
    · have d2 := c2
      rw [i32_lt, e32] at d2
      rw [if_pos c2]
      by_cases c3 : x - x / 8 * 8 = 4
      · rw [if_pos c3, decide_eq_false (fun z => z.2.2 c3)]; rfl
      · rw [if_neg c3, decide_eq_true ⟨by omega, d2, c3⟩]; rfl
    · have d2 := c2
      rw [i32_lt, e32] at d2
      rw [if_neg c2, decide_eq_false (by omega)]; rfl
section CP
variable {h : Hp} {o : Nat} {ma ta : Nat → Nat} {P : Pg}
theorem f_findM (v : PC h o ma ta P) (w : PW P) {m : Nat} (hm : m < p_nm P) : FX4_findMethod (some (o + 1)) (nI m) h = some (some (ma m), h) := by
  obtain ⟨⟨a1, ⟨r0, r2, r4⟩, t2, t3, t4⟩, ⟨i1, i3, i5⟩, v3, v4, v5⟩ := v
  have hb := w.1
  unfold FX4_findMethod
  simp (disch := first | assumption | omega | decide | (simp only [hT_wI, hT_wL, hT_wR, hT_wLr]; assumption)) only [↓reduceIte, Nat.reduceEqDiff, Nat.reduceLT, Nat.reduceLeDiff, Nat.reduceAdd, Nat.reduceSub, Nat.reduceMul, or_self, or_true, true_or, or_false, false_or, and_self, and_true, true_and, and_false, false_and, if_true, if_false, ↓gI_ok, ↓gL_ok, ↓gR_ok, ↓pI_ok, ↓pL_ok, ↓pR_ok, ↓rcv_ok, ↓nz_ok, ↓nz_no, ↓aI_n, ↓aL_n, ↓aR_n, ↓sI_n, ↓sL_n, ↓sR_n, ↓cl_ok, ↓bz_0, ↓bz_1, hT_wI, hT_wL, hT_wR, hT_wLr, hR_wI, hR_wL, hR_wLr, hI_wL, hI_wR, hI_wLr, hL_wI, hL_wR, nI_add, nI_1, pk_mul, if_lt, if_eq, if_eqL, ie_0, ie_1, il_0, il_1, ir_0, ir_1, ie_m, il_m, bz_b, ib_0, i_10, i_01, i_0m, i_1m, i_m0, i_ml0, b2i_if, bz_i, nI_p1, nl_2, nl_3, nl_4, nl_5, nl_6, nl_7, nl_8, nl_9, nl_10, nl_11, nl_12, nl_13, nl_14, nl_15, nl_16, nl_17, nl_18, nl_19, nl_20, nl_21, nl_22, nl_23, nl_24, nl_25, nl_26, nl_27, nl_28, nl_29, nl_30, nl_31, nl_32, nl_33, nl_34, nl_35, nl_36, nl_37, nl_38, nl_39, nl_40, nl_41, nl_42, nl_43, nl_44, nl_45, nl_46, nl_47, nl_48, nl_49, nl_50, nl_51, nl_52, nl_53, nl_54, nl_55, nl_56, nl_57, nl_58, nl_59, nl_60, nl_61, nl_62, nl_63, nl_64, nl_100, nl_480, nl_1020, nl_3000, i1, r0, f_within_t, (v3 m hm).1]
theorem f_findM_no (v : PC h o ma ta P) (w : PW P) {x : Int32} (hx : wi x (p_nm P) = false) : FX4_findMethod (some (o + 1)) x h = some (none, h) := by
  obtain ⟨⟨a1, ⟨r0, r2, r4⟩, t2, t3, t4⟩, ⟨i1, i3, i5⟩, v3, v4, v5⟩ := v
  have hb := w.1
  unfold FX4_findMethod
  simp (disch := first | assumption | omega | decide | (simp only [hT_wI, hT_wL, hT_wR, hT_wLr]; assumption)) only [↓reduceIte, Nat.reduceEqDiff, Nat.reduceLT, Nat.reduceLeDiff, Nat.reduceAdd, Nat.reduceSub, Nat.reduceMul, or_self, or_true, true_or, or_false, false_or, and_self, and_true, true_and, and_false, false_and, if_true, if_false, ↓gI_ok, ↓gL_ok, ↓gR_ok, ↓pI_ok, ↓pL_ok, ↓pR_ok, ↓rcv_ok, ↓nz_ok, ↓nz_no, ↓aI_n, ↓aL_n, ↓aR_n, ↓sI_n, ↓sL_n, ↓sR_n, ↓cl_ok, ↓bz_0, ↓bz_1, hT_wI, hT_wL, hT_wR, hT_wLr, hR_wI, hR_wL, hR_wLr, hI_wL, hI_wR, hI_wLr, hL_wI, hL_wR, nI_add, nI_1, pk_mul, if_lt, if_eq, if_eqL, ie_0, ie_1, il_0, il_1, ir_0, ir_1, ie_m, il_m, bz_b, ib_0, i_10, i_01, i_0m, i_1m, i_m0, i_ml0, b2i_if, bz_i, nI_p1, nl_2, nl_3, nl_4, nl_5, nl_6, nl_7, nl_8, nl_9, nl_10, nl_11, nl_12, nl_13, nl_14, nl_15, nl_16, nl_17, nl_18, nl_19, nl_20, nl_21, nl_22, nl_23, nl_24, nl_25, nl_26, nl_27, nl_28, nl_29, nl_30, nl_31, nl_32, nl_33, nl_34, nl_35, nl_36, nl_37, nl_38, nl_39, nl_40, nl_41, nl_42, nl_43, nl_44, nl_45, nl_46, nl_47, nl_48, nl_49, nl_50, nl_51, nl_52, nl_53, nl_54, nl_55, nl_56, nl_57, nl_58, nl_59, nl_60, nl_61, nl_62, nl_63, nl_64, nl_100, nl_480, nl_1020, nl_3000, i1, f_wi, hx]
  rfl
theorem f_findT (v : PC h o ma ta P) (w : PW P) {t : Nat} (hm : t < p_nt P) : FX4_findTable (some (o + 1)) (nI t) h = some (some (ta t), h) := by
  obtain ⟨⟨a1, ⟨r0, r2, r4⟩, t2, t3, t4⟩, ⟨i1, i3, i5⟩, v3, v4, v5⟩ := v
  have hb := w.2.2.1
  unfold FX4_findTable
  simp (disch := first | assumption | omega | decide | (simp only [hT_wI, hT_wL, hT_wR, hT_wLr]; assumption)) only [↓reduceIte, Nat.reduceEqDiff, Nat.reduceLT, Nat.reduceLeDiff, Nat.reduceAdd, Nat.reduceSub, Nat.reduceMul, or_self, or_true, true_or, or_false, false_or, and_self, and_true, true_and, and_false, false_and, if_true, if_false, ↓gI_ok, ↓gL_ok, ↓gR_ok, ↓pI_ok, ↓pL_ok, ↓pR_ok, ↓rcv_ok, ↓nz_ok, ↓nz_no, ↓aI_n, ↓aL_n, ↓aR_n, ↓sI_n, ↓sL_n, ↓sR_n, ↓cl_ok, ↓bz_0, ↓bz_1, hT_wI, hT_wL, hT_wR, hT_wLr, hR_wI, hR_wL, hR_wLr, hI_wL, hI_wR, hI_wLr, hL_wI, hL_wR, nI_add, nI_1, pk_mul, if_lt, if_eq, if_eqL, ie_0, ie_1, il_0, il_1, ir_0, ir_1, ie_m, il_m, bz_b, ib_0, i_10, i_01, i_0m, i_1m, i_m0, i_ml0, b2i_if, bz_i, nI_p1, nl_2, nl_3, nl_4, nl_5, nl_6, nl_7, nl_8, nl_9, nl_10, nl_11, nl_12, nl_13, nl_14, nl_15, nl_16, nl_17, nl_18, nl_19, nl_20, nl_21, nl_22, nl_23, nl_24, nl_25, nl_26, nl_27, nl_28, nl_29, nl_30, nl_31, nl_32, nl_33, nl_34, nl_35, nl_36, nl_37, nl_38, nl_39, nl_40, nl_41, nl_42, nl_43, nl_44, nl_45, nl_46, nl_47, nl_48, nl_49, nl_50, nl_51, nl_52, nl_53, nl_54, nl_55, nl_56, nl_57, nl_58, nl_59, nl_60, nl_61, nl_62, nl_63, nl_64, nl_100, nl_480, nl_1020, nl_3000, i5, r4, f_within_t, (v4 t hm).1]
theorem f_findT_no (v : PC h o ma ta P) (w : PW P) {x : Int32} (hx : wi x (p_nt P) = false) : FX4_findTable (some (o + 1)) x h = some (none, h) := by
  obtain ⟨⟨a1, ⟨r0, r2, r4⟩, t2, t3, t4⟩, ⟨i1, i3, i5⟩, v3, v4, v5⟩ := v
  have hb := w.2.2.1
  unfold FX4_findTable
  simp (disch := first | assumption | omega | decide | (simp only [hT_wI, hT_wL, hT_wR, hT_wLr]; assumption)) only [↓reduceIte, Nat.reduceEqDiff, Nat.reduceLT, Nat.reduceLeDiff, Nat.reduceAdd, Nat.reduceSub, Nat.reduceMul, or_self, or_true, true_or, or_false, false_or, and_self, and_true, true_and, and_false, false_and, if_true, if_false, ↓gI_ok, ↓gL_ok, ↓gR_ok, ↓pI_ok, ↓pL_ok, ↓pR_ok, ↓rcv_ok, ↓nz_ok, ↓nz_no, ↓aI_n, ↓aL_n, ↓aR_n, ↓sI_n, ↓sL_n, ↓sR_n, ↓cl_ok, ↓bz_0, ↓bz_1, hT_wI, hT_wL, hT_wR, hT_wLr, hR_wI, hR_wL, hR_wLr, hI_wL, hI_wR, hI_wLr, hL_wI, hL_wR, nI_add, nI_1, pk_mul, if_lt, if_eq, if_eqL, ie_0, ie_1, il_0, il_1, ir_0, ir_1, ie_m, il_m, bz_b, ib_0, i_10, i_01, i_0m, i_1m, i_m0, i_ml0, b2i_if, bz_i, nI_p1, nl_2, nl_3, nl_4, nl_5, nl_6, nl_7, nl_8, nl_9, nl_10, nl_11, nl_12, nl_13, nl_14, nl_15, nl_16, nl_17, nl_18, nl_19, nl_20, nl_21, nl_22, nl_23, nl_24, nl_25, nl_26, nl_27, nl_28, nl_29, nl_30, nl_31, nl_32, nl_33, nl_34, nl_35, nl_36, nl_37, nl_38, nl_39, nl_40, nl_41, nl_42, nl_43, nl_44, nl_45, nl_46, nl_47, nl_48, nl_49, nl_50, nl_51, nl_52, nl_53, nl_54, nl_55, nl_56, nl_57, nl_58, nl_59, nl_60, nl_61, nl_62, nl_63, nl_64, nl_100, nl_480, nl_1020, nl_3000, i5, f_wi, hx]
  rfl
theorem f_readC (v : PC h o ma ta P) (w : PW P) {c : Nat} (hc : c < p_nc P) : FX4_readConstant (some (o + 1)) (nI c) h = some (p_c P c, h) := by
  obtain ⟨⟨a1, ⟨r0, r2, r4⟩, t2, t3, t4⟩, ⟨i1, i3, i5⟩, v3, v4, v5⟩ := v
  have hb := w.2.1
  unfold FX4_readConstant
  simp (disch := first | assumption | omega | decide | (simp only [hT_wI, hT_wL, hT_wR, hT_wLr]; assumption)) only [↓reduceIte, Nat.reduceEqDiff, Nat.reduceLT, Nat.reduceLeDiff, Nat.reduceAdd, Nat.reduceSub, Nat.reduceMul, or_self, or_true, true_or, or_false, false_or, and_self, and_true, true_and, and_false, false_and, if_true, if_false, ↓gI_ok, ↓gL_ok, ↓gR_ok, ↓pI_ok, ↓pL_ok, ↓pR_ok, ↓rcv_ok, ↓nz_ok, ↓nz_no, ↓aI_n, ↓aL_n, ↓aR_n, ↓sI_n, ↓sL_n, ↓sR_n, ↓cl_ok, ↓bz_0, ↓bz_1, hT_wI, hT_wL, hT_wR, hT_wLr, hR_wI, hR_wL, hR_wLr, hI_wL, hI_wR, hI_wLr, hL_wI, hL_wR, nI_add, nI_1, pk_mul, if_lt, if_eq, if_eqL, ie_0, ie_1, il_0, il_1, ir_0, ir_1, ie_m, il_m, bz_b, ib_0, i_10, i_01, i_0m, i_1m, i_m0, i_ml0, b2i_if, bz_i, nI_p1, nl_2, nl_3, nl_4, nl_5, nl_6, nl_7, nl_8, nl_9, nl_10, nl_11, nl_12, nl_13, nl_14, nl_15, nl_16, nl_17, nl_18, nl_19, nl_20, nl_21, nl_22, nl_23, nl_24, nl_25, nl_26, nl_27, nl_28, nl_29, nl_30, nl_31, nl_32, nl_33, nl_34, nl_35, nl_36, nl_37, nl_38, nl_39, nl_40, nl_41, nl_42, nl_43, nl_44, nl_45, nl_46, nl_47, nl_48, nl_49, nl_50, nl_51, nl_52, nl_53, nl_54, nl_55, nl_56, nl_57, nl_58, nl_59, nl_60, nl_61, nl_62, nl_63, nl_64, nl_100, nl_480, nl_1020, nl_3000, i3, r2, f_within_t, v5 c hc]
theorem f_covers {a m k i : Nat} (t : MT (hT h) (hR h) a) (c : MC h a P m) (w : PWm P m) (hk : k < p_nh P m) (hi : i < 60) : FX2_covers (some a) (nI k) (nI i) h = some (b2i (pcov P m k i), h) := by
  obtain ⟨a0, ⟨r1, r4, r5, r6, r8, r9, r10, r11, r13⟩, t1, t2, t3, t4, t5, t6, t7, t8⟩ := t
  obtain ⟨-, -, -, c4⟩ := c
  obtain ⟨-, -, -, -, w5, -, -, -, w9⟩ := w
  obtain ⟨e1, e2, -, -⟩ := c4 k hk
  obtain ⟨b1, b2, -, -⟩ := w9 k hk
  unfold FX2_covers
  simp (disch := first | assumption | omega | decide | (simp only [hT_wI, hT_wL, hT_wR, hT_wLr]; assumption)) only [↓reduceIte, Nat.reduceEqDiff, Nat.reduceLT, Nat.reduceLeDiff, Nat.reduceAdd, Nat.reduceSub, Nat.reduceMul, or_self, or_true, true_or, or_false, false_or, and_self, and_true, true_and, and_false, false_and, if_true, if_false, ↓gI_ok, ↓gL_ok, ↓gR_ok, ↓pI_ok, ↓pL_ok, ↓pR_ok, ↓rcv_ok, ↓nz_ok, ↓nz_no, ↓aI_n, ↓aL_n, ↓aR_n, ↓sI_n, ↓sL_n, ↓sR_n, ↓cl_ok, ↓bz_0, ↓bz_1, hT_wI, hT_wL, hT_wR, hT_wLr, hR_wI, hR_wL, hR_wLr, hI_wL, hI_wR, hI_wLr, hL_wI, hL_wR, nI_add, nI_1, pk_mul, if_lt, if_eq, if_eqL, ie_0, ie_1, il_0, il_1, ir_0, ir_1, ie_m, il_m, bz_b, ib_0, i_10, i_01, i_0m, i_1m, i_m0, i_ml0, b2i_if, bz_i, nI_p1, nl_2, nl_3, nl_4, nl_5, nl_6, nl_7, nl_8, nl_9, nl_10, nl_11, nl_12, nl_13, nl_14, nl_15, nl_16, nl_17, nl_18, nl_19, nl_20, nl_21, nl_22, nl_23, nl_24, nl_25, nl_26, nl_27, nl_28, nl_29, nl_30, nl_31, nl_32, nl_33, nl_34, nl_35, nl_36, nl_37, nl_38, nl_39, nl_40, nl_41, nl_42, nl_43, nl_44, nl_45, nl_46, nl_47, nl_48, nl_49, nl_50, nl_51, nl_52, nl_53, nl_54, nl_55, nl_56, nl_57, nl_58, nl_59, nl_60, nl_61, nl_62, nl_63, nl_64, nl_100, nl_480, nl_1020, nl_3000, r8, r9, e1, e2]
  unfold pcov
  by_cases d1 : i < p_hf P m k
  · rw [if_pos d1, decide_eq_false (by omega)]; rfl
  · rw [if_neg d1]
    by_cases d2 : i < p_hu P m k
    · rw [if_pos d2, decide_eq_true ⟨by omega, d2⟩]; rfl
    · rw [if_neg d2, decide_eq_false (by omega)]; rfl
theorem sb_loop {a t n : Nat} (y : TT (hT h) (hR h) a) (c : TC h a P t) (w : PWt P t) (hn : n < 2 ^ 31) : ∀ (f e : Nat), e ≤ p_ne P t → p_ne P t - e < f → (∀ j, j < e → p_tt P t j < n) → BX7_staysBelow_2 f (some a) (nI n) (nI e) h = some (b2i (tbel P t n), h) := by
  obtain ⟨a0, ⟨r3, r4⟩, t1, t2⟩ := y
  obtain ⟨⟨c0, c1, c2, c5⟩, c6⟩ := c
  obtain ⟨w1, w2, w3, w4, w5, w6⟩ := w
  intro f
  induction f with
  | zero => intro e h1 h2; omega
  | succ f ih =>
    intro e h1 h2 hb
    unfold BX7_staysBelow_2
    by_cases d : e < p_ne P t
    · have e2 := (c6 e d).2
      have e3 := w4 e d
      simp (disch := first | assumption | omega | decide | (simp only [hT_wI, hT_wL, hT_wR, hT_wLr]; assumption)) only [↓reduceIte, Nat.reduceEqDiff, Nat.reduceLT, Nat.reduceLeDiff, Nat.reduceAdd, Nat.reduceSub, Nat.reduceMul, or_self, or_true, true_or, or_false, false_or, and_self, and_true, true_and, and_false, false_and, if_true, if_false, ↓gI_ok, ↓gL_ok, ↓gR_ok, ↓pI_ok, ↓pL_ok, ↓pR_ok, ↓rcv_ok, ↓nz_ok, ↓nz_no, ↓aI_n, ↓aL_n, ↓aR_n, ↓sI_n, ↓sL_n, ↓sR_n, ↓cl_ok, ↓bz_0, ↓bz_1, hT_wI, hT_wL, hT_wR, hT_wLr, hR_wI, hR_wL, hR_wLr, hI_wL, hI_wR, hI_wLr, hL_wI, hL_wR, nI_add, nI_1, pk_mul, if_lt, if_eq, if_eqL, ie_0, ie_1, il_0, il_1, ir_0, ir_1, ie_m, il_m, bz_b, ib_0, i_10, i_01, i_0m, i_1m, i_m0, i_ml0, b2i_if, bz_i, nI_p1, nl_2, nl_3, nl_4, nl_5, nl_6, nl_7, nl_8, nl_9, nl_10, nl_11, nl_12, nl_13, nl_14, nl_15, nl_16, nl_17, nl_18, nl_19, nl_20, nl_21, nl_22, nl_23, nl_24, nl_25, nl_26, nl_27, nl_28, nl_29, nl_30, nl_31, nl_32, nl_33, nl_34, nl_35, nl_36, nl_37, nl_38, nl_39, nl_40, nl_41, nl_42, nl_43, nl_44, nl_45, nl_46, nl_47, nl_48, nl_49, nl_50, nl_51, nl_52, nl_53, nl_54, nl_55, nl_56, nl_57, nl_58, nl_59, nl_60, nl_61, nl_62, nl_63, nl_64, nl_100, nl_480, nl_1020, nl_3000, c5, r4, e2]
      rw [if_pos d]
      by_cases d2 : p_tt P t e < n
      · rw [if_pos d2]
        exact ih (e + 1) (by omega) (by omega) (fun j hj => by
          by_cases ej : j = e
          · subst ej; exact d2
          · exact hb j (by omega))
      · rw [if_neg d2]
        have : tbel P t n = false := by
          unfold tbel
          rw [← Bool.not_eq_true, Bool.and_eq_true, List.all_eq_true]
          intro z
          have := z.1 e (List.mem_range.mpr d)
          exact d2 (of_decide_eq_true this)
        rw [this]; rfl
    · simp (disch := first | assumption | omega | decide | (simp only [hT_wI, hT_wL, hT_wR, hT_wLr]; assumption)) only [↓reduceIte, Nat.reduceEqDiff, Nat.reduceLT, Nat.reduceLeDiff, Nat.reduceAdd, Nat.reduceSub, Nat.reduceMul, or_self, or_true, true_or, or_false, false_or, and_self, and_true, true_and, and_false, false_and, if_true, if_false, ↓gI_ok, ↓gL_ok, ↓gR_ok, ↓pI_ok, ↓pL_ok, ↓pR_ok, ↓rcv_ok, ↓nz_ok, ↓nz_no, ↓aI_n, ↓aL_n, ↓aR_n, ↓sI_n, ↓sL_n, ↓sR_n, ↓cl_ok, ↓bz_0, ↓bz_1, hT_wI, hT_wL, hT_wR, hT_wLr, hR_wI, hR_wL, hR_wLr, hI_wL, hI_wR, hI_wLr, hL_wI, hL_wR, nI_add, nI_1, pk_mul, if_lt, if_eq, if_eqL, ie_0, ie_1, il_0, il_1, ir_0, ir_1, ie_m, il_m, bz_b, ib_0, i_10, i_01, i_0m, i_1m, i_m0, i_ml0, b2i_if, bz_i, nI_p1, nl_2, nl_3, nl_4, nl_5, nl_6, nl_7, nl_8, nl_9, nl_10, nl_11, nl_12, nl_13, nl_14, nl_15, nl_16, nl_17, nl_18, nl_19, nl_20, nl_21, nl_22, nl_23, nl_24, nl_25, nl_26, nl_27, nl_28, nl_29, nl_30, nl_31, nl_32, nl_33, nl_34, nl_35, nl_36, nl_37, nl_38, nl_39, nl_40, nl_41, nl_42, nl_43, nl_44, nl_45, nl_46, nl_47, nl_48, nl_49, nl_50, nl_51, nl_52, nl_53, nl_54, nl_55, nl_56, nl_57, nl_58, nl_59, nl_60, nl_61, nl_62, nl_63, nl_64, nl_100, nl_480, nl_1020, nl_3000, c5, c2]
      rw [if_neg d]
      have hall : (List.range (p_ne P t)).all (fun e => decide (p_tt P t e < n)) = true := by
        rw [List.all_eq_true]
        exact fun j hj => decide_eq_true (hb j (by have := List.mem_range.mp hj; omega))
      unfold tbel
      rw [hall, Bool.true_and]
      by_cases d2 : p_ot P t < n
      · rw [if_pos d2, decide_eq_true d2]; rfl
      · rw [if_neg d2, decide_eq_false d2]; rfl
theorem f_stays {a t n : Nat} (y : TT (hT h) (hR h) a) (c : TC h a P t) (w : PWt P t) (hn : n < 2 ^ 31) : FX7_staysBelow (some a) (nI n) h = some (b2i (tbel P t n), h) := by
  unfold FX7_staysBelow
  rw [nI_c0]
  exact sb_loop y c w hn 100000 0 (by omega) (by have := w.2.1; omega) (fun j hj => by omega)
end CP
