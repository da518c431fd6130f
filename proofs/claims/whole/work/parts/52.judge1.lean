/-! Judge: what an operation asks by itself -/
theorem op36 {op : Nat} (h : op < 36) : op = 0 ∨ op = 1 ∨ op = 2 ∨ op = 3 ∨ op = 4 ∨ op = 5 ∨ op = 6 ∨ op = 7 ∨ op = 8 ∨ op = 9 ∨ op = 10 ∨ op = 11 ∨ op = 12 ∨ op = 13 ∨ op = 14 ∨ op = 15 ∨ op = 16 ∨ op = 17 ∨ op = 18 ∨ op = 19 ∨ op = 20 ∨ op = 21 ∨ op = 22 ∨ op = 23 ∨ op = 24 ∨ op = 25 ∨ op = 26 ∨ op = 27 ∨ op = 28 ∨ op = 29 ∨ op = 30 ∨ op = 31 ∨ op = 32 ∨ op = 33 ∨ op = 34 ∨ op = 35 := by omega
def JT (T : xT) (R : Nat → Nat → Option Nat) (o : Nat) : Prop := T (o + 5) = some (.inl 1) ∧ R (o + 5) 0 = some (o + 1) ∧ R (o + 5) 1 = some (o + 6) ∧ R (o + 5) 2 = some (o + 10)
theorem wi_2 (b : Int32) : wi b 2 = (decide (b = 0) || decide (b = 1)) := by
  by_cases h0 : b = 0
  · subst h0; rfl
  · by_cases h1 : b = 1
    · subst h1; rfl
    · rw [decide_eq_false h0, decide_eq_false h1]
      cases hw : wi b 2 with
      | false => rfl
      | true =>
        obtain ⟨j, hj, rfl, -⟩ := wi_ex (by decide) hw
        rcases (show j = 0 ∨ j = 1 by omega) with rfl | rfl
        · exact absurd rfl h0
        · exact absurd rfl h1
section JA
variable {h : Hp} {o : Nat} {ma ta : Nat → Nat} {P : Pg}
theorem f_od5 (a b : Int32) : BX1_operandsAreSuch_168 a b h = some (b2i (wi b 5 && wi a (17 - wd (cN b))), h) := by
  unfold BX1_operandsAreSuch_168
  simp (disch := first | assumption | omega | decide | (simp only [hT_wI, hT_wL, hT_wR, hT_wLr]; assumption)) only [↓reduceIte, Nat.reduceEqDiff, Nat.reduceLT, Nat.reduceLeDiff, Nat.reduceAdd, Nat.reduceSub, Nat.reduceMul, or_self, or_true, true_or, or_false, false_or, and_self, and_true, true_and, and_false, false_and, if_true, if_false, ↓gI_ok, ↓gL_ok, ↓gR_ok, ↓pI_ok, ↓pL_ok, ↓pR_ok, ↓rcv_ok, ↓nz_ok, ↓nz_no, ↓aI_n, ↓aL_n, ↓aR_n, ↓sI_n, ↓sL_n, ↓sR_n, ↓cl_ok, ↓bz_0, ↓bz_1, hT_wI, hT_wL, hT_wR, hT_wLr, hR_wI, hR_wL, hR_wLr, hI_wL, hI_wR, hI_wLr, hL_wI, hL_wR, nI_add, nI_1, pk_mul, if_lt, if_eq, if_eqL, ie_0, ie_1, il_0, il_1, ir_0, ir_1, ie_m, il_m, bz_b, ib_0, i_10, i_01, i_0m, i_1m, i_m0, i_ml0, b2i_if, bz_i, nI_p1, nl_2, nl_3, nl_4, nl_5, nl_6, nl_7, nl_8, nl_9, nl_10, nl_11, nl_12, nl_13, nl_14, nl_15, nl_16, nl_17, nl_18, nl_19, nl_20, nl_21, nl_22, nl_23, nl_24, nl_25, nl_26, nl_27, nl_28, nl_29, nl_30, nl_31, nl_32, nl_33, nl_34, nl_35, nl_36, nl_37, nl_38, nl_39, nl_40, nl_41, nl_42, nl_43, nl_44, nl_45, nl_46, nl_47, nl_48, nl_49, nl_50, nl_51, nl_52, nl_53, nl_54, nl_55, nl_56, nl_57, nl_58, nl_59, nl_60, nl_61, nl_62, nl_63, nl_64, nl_100, nl_480, nl_1020, nl_3000, f_wi]
  cases hb : wi b 5 with
  | false => rfl
  | true =>
    obtain ⟨k, hk, rfl, e⟩ := wi_ex (by decide) hb
    have hw := wd_le k
    rw [e, Bool.true_and]
    simp (disch := first | assumption | omega | decide | (simp only [hT_wI, hT_wL, hT_wR, hT_wLr]; assumption)) only [↓reduceIte, Nat.reduceEqDiff, Nat.reduceLT, Nat.reduceLeDiff, Nat.reduceAdd, Nat.reduceSub, Nat.reduceMul, or_self, or_true, true_or, or_false, false_or, and_self, and_true, true_and, and_false, false_and, if_true, if_false, ↓gI_ok, ↓gL_ok, ↓gR_ok, ↓pI_ok, ↓pL_ok, ↓pR_ok, ↓rcv_ok, ↓nz_ok, ↓nz_no, ↓aI_n, ↓aL_n, ↓aR_n, ↓sI_n, ↓sL_n, ↓sR_n, ↓cl_ok, ↓bz_0, ↓bz_1, hT_wI, hT_wL, hT_wR, hT_wLr, hR_wI, hR_wL, hR_wLr, hI_wL, hI_wR, hI_wLr, hL_wI, hL_wR, nI_add, nI_1, pk_mul, if_lt, if_eq, if_eqL, ie_0, ie_1, il_0, il_1, ir_0, ir_1, ie_m, il_m, bz_b, ib_0, i_10, i_01, i_0m, i_1m, i_m0, i_ml0, b2i_if, bz_i, nI_p1, nl_2, nl_3, nl_4, nl_5, nl_6, nl_7, nl_8, nl_9, nl_10, nl_11, nl_12, nl_13, nl_14, nl_15, nl_16, nl_17, nl_18, nl_19, nl_20, nl_21, nl_22, nl_23, nl_24, nl_25, nl_26, nl_27, nl_28, nl_29, nl_30, nl_31, nl_32, nl_33, nl_34, nl_35, nl_36, nl_37, nl_38, nl_39, nl_40, nl_41, nl_42, nl_43, nl_44, nl_45, nl_46, nl_47, nl_48, nl_49, nl_50, nl_51, nl_52, nl_53, nl_54, nl_55, nl_56, nl_57, nl_58, nl_59, nl_60, nl_61, nl_62, nl_63, nl_64, nl_100, nl_480, nl_1020, nl_3000, f_width, pk_sub, f_wi]
    cases wi a (17 - wd k) <;> rfl
theorem f_od24 (a b : Int32) (ha : ity a = true) : (if b < 1 then some ((0 : Int32), h) else if a / 8 < b then some (0, h) else some (1, h)) = some (b2i (decide (1 ≤ b.toInt ∧ b.toInt ≤ a.toInt / 8)), h) := by
  unfold ity at ha
  have ha := of_decide_eq_true ha
  obtain ⟨j, hj, rfl⟩ := nI_lt_of (x := a) (n := 32) (by decide) (by omega) (by exact ha.2.1)
  have e1 : (1 : Int32).toInt = 1 := rfl
  rw [show (nI j : Int32) / 8 = nI (j / 8) from pk_div (by omega) (by decide) (by decide)]
  rw [nI_tI (by omega)]
  by_cases c1 : b < 1
  · have d1 := c1
    rw [i32_lt, e1] at d1
    rw [if_pos c1, decide_eq_false (by omega)]; rfl
  · have d1 := c1
    rw [i32_lt, e1] at d1
    rw [if_neg c1]
    by_cases c2 : nI (j / 8) < b
    · have d2 := c2
      rw [i32_lt, nI_tI (by omega)] at d2
      rw [if_pos c2, decide_eq_false (by omega)]; rfl
    · have d2 := c2
      rw [i32_lt, nI_tI (by omega)] at d2
      rw [if_neg c2, decide_eq_true (by omega)]; rfl
theorem f_od (j : JT (hT h) (hR h) o) (v : PC h o ma ta P) (w : PW P) {op : Nat} (hop : op < 36) (a b : Int32) : FX1_operandsAreSuch (some (o + 5)) (nI op) a b h = some (b2i (j_od P op a b), h) := by
  obtain ⟨j0, j1, j2, j3⟩ := j
  obtain ⟨⟨a1, -⟩, ⟨i1, i3, i5⟩, -⟩ := v
  obtain ⟨w1, w2, w3, -⟩ := w
  unfold FX1_operandsAreSuch BX1_operandsAreSuch_156 BX1_operandsAreSuch_290 BX1_operandsAreSuch_297
  rcases op36 hop with rfl | rfl | rfl | rfl | rfl | rfl | rfl | rfl | rfl | rfl | rfl | rfl | rfl | rfl | rfl | rfl | rfl | rfl | rfl | rfl | rfl | rfl | rfl | rfl | rfl | rfl | rfl | rfl | rfl | rfl | rfl | rfl | rfl | rfl | rfl | rfl <;> simp (disch := first | assumption | omega | decide | (simp only [hT_wI, hT_wL, hT_wR, hT_wLr]; assumption)) only [↓reduceIte, Nat.reduceEqDiff, Nat.reduceLT, Nat.reduceLeDiff, Nat.reduceAdd, Nat.reduceSub, Nat.reduceMul, or_self, or_true, true_or, or_false, false_or, and_self, and_true, true_and, and_false, false_and, if_true, if_false, ↓gI_ok, ↓gL_ok, ↓gR_ok, ↓pI_ok, ↓pL_ok, ↓pR_ok, ↓rcv_ok, ↓nz_ok, ↓nz_no, ↓aI_n, ↓aL_n, ↓aR_n, ↓sI_n, ↓sL_n, ↓sR_n, ↓cl_ok, ↓bz_0, ↓bz_1, hT_wI, hT_wL, hT_wR, hT_wLr, hR_wI, hR_wL, hR_wLr, hI_wL, hI_wR, hI_wLr, hL_wI, hL_wR, nI_add, nI_1, pk_mul, if_lt, if_eq, if_eqL, ie_0, ie_1, il_0, il_1, ir_0, ir_1, ie_m, il_m, bz_b, ib_0, i_10, i_01, i_0m, i_1m, i_m0, i_ml0, b2i_if, bz_i, nI_p1, nl_2, nl_3, nl_4, nl_5, nl_6, nl_7, nl_8, nl_9, nl_10, nl_11, nl_12, nl_13, nl_14, nl_15, nl_16, nl_17, nl_18, nl_19, nl_20, nl_21, nl_22, nl_23, nl_24, nl_25, nl_26, nl_27, nl_28, nl_29, nl_30, nl_31, nl_32, nl_33, nl_34, nl_35, nl_36, nl_37, nl_38, nl_39, nl_40, nl_41, nl_42, nl_43, nl_44, nl_45, nl_46, nl_47, nl_48, nl_49, nl_50, nl_51, nl_52, nl_53, nl_54, nl_55, nl_56, nl_57, nl_58, nl_59, nl_60, nl_61, nl_62, nl_63, nl_64, nl_100, nl_480, nl_1020, nl_3000, j_od, j1, i1, i3, i5, f_wi, f_ity, f_od5] <;> try rfl
  · cases wi a 12 with
    | false => rfl
    | true =>
      rw [if_pos rfl, Bool.true_and, wi_2]
      by_cases h0 : b = 0
      · rw [if_pos h0, decide_eq_true h0]; rfl
      · rw [if_neg h0, decide_eq_false h0, Bool.false_or]
        by_cases h1 : b = 1
        · rw [if_pos h1, decide_eq_true h1]; rfl
        · rw [if_neg h1, decide_eq_false h1]; rfl
  · cases ha : ity a with
    | false => rfl
    | true => rw [if_pos rfl, Bool.true_and]; exact f_od24 a b ha
theorem jhb_iff {m i : Nat} : j_hb P m i = true ↔ ∀ k, k < p_nh P m → pcov P m k i = true → p_hg P m k < p_no P m := by
  unfold j_hb
  rw [List.all_eq_true]
  refine ⟨fun z k hk hc => ?_, fun z k hk => ?_⟩
  · have := z k (List.mem_range.mpr hk)
    rw [hc] at this
    simpa using this
  · have := z k (List.mem_range.mp hk)
    cases hc : pcov P m k i with
    | false => rfl
    | true => simpa using this hc
theorem th_loop {m i a : Nat} (t : MT (hT h) (hR h) a) (c : MC h a P m) (w : PWm P m) (hi : i < 60) : ∀ (n k : Nat), k ≤ p_nh P m → p_nh P m - k < n → (∀ j, j < k → pcov P m j i = true → p_hg P m j < p_no P m) → BX1_targetsAreThere_86 n (some a) (nI i) (nI k) h = some (b2i (j_hb P m i), h) := by
  obtain ⟨a0, ⟨r1, r4, r5, r6, r8, r9, r10, r11, r13⟩, t1, t2, t3, t4, t5, t6, t7, t8⟩ := id t
  obtain ⟨⟨c0, c2, c3, c7, c12⟩, -, -, c4⟩ := id c
  obtain ⟨w1, w2, w3, w4, w5, w6, w7, w8, w9⟩ := id w
  intro n
  induction n with
  | zero => intro k h1 h2; omega
  | succ n ih =>
    intro k h1 h2 hb
    unfold BX1_targetsAreThere_86
    by_cases d : k < p_nh P m
    · obtain ⟨e1, e2, e3, e4⟩ := c4 k d
      obtain ⟨b1, b2, b3, b4⟩ := w9 k d
      simp (disch := first | assumption | omega | decide | (simp only [hT_wI, hT_wL, hT_wR, hT_wLr]; assumption)) only [↓reduceIte, Nat.reduceEqDiff, Nat.reduceLT, Nat.reduceLeDiff, Nat.reduceAdd, Nat.reduceSub, Nat.reduceMul, or_self, or_true, true_or, or_false, false_or, and_self, and_true, true_and, and_false, false_and, if_true, if_false, ↓gI_ok, ↓gL_ok, ↓gR_ok, ↓pI_ok, ↓pL_ok, ↓pR_ok, ↓rcv_ok, ↓nz_ok, ↓nz_no, ↓aI_n, ↓aL_n, ↓aR_n, ↓sI_n, ↓sL_n, ↓sR_n, ↓cl_ok, ↓bz_0, ↓bz_1, hT_wI, hT_wL, hT_wR, hT_wLr, hR_wI, hR_wL, hR_wLr, hI_wL, hI_wR, hI_wLr, hL_wI, hL_wR, nI_add, nI_1, pk_mul, if_lt, if_eq, if_eqL, ie_0, ie_1, il_0, il_1, ir_0, ir_1, ie_m, il_m, bz_b, ib_0, i_10, i_01, i_0m, i_1m, i_m0, i_ml0, b2i_if, bz_i, nI_p1, nl_2, nl_3, nl_4, nl_5, nl_6, nl_7, nl_8, nl_9, nl_10, nl_11, nl_12, nl_13, nl_14, nl_15, nl_16, nl_17, nl_18, nl_19, nl_20, nl_21, nl_22, nl_23, nl_24, nl_25, nl_26, nl_27, nl_28, nl_29, nl_30, nl_31, nl_32, nl_33, nl_34, nl_35, nl_36, nl_37, nl_38, nl_39, nl_40, nl_41, nl_42, nl_43, nl_44, nl_45, nl_46, nl_47, nl_48, nl_49, nl_50, nl_51, nl_52, nl_53, nl_54, nl_55, nl_56, nl_57, nl_58, nl_59, nl_60, nl_61, nl_62, nl_63, nl_64, nl_100, nl_480, nl_1020, nl_3000, c12, f_covers t c w d hi, r10, e3, c7]
      rw [if_pos d]
      unfold BX1_targetsAreThere_121
      rw [nI_1]
      cases hc : pcov P m k i with
      | false =>
        rw [if_neg (by decide)]
        exact ih (k + 1) (by omega) (by omega) (fun j hj hp => by
          by_cases ej : j = k
          · subst ej; rw [hc] at hp; cases hp
          · exact hb j (by omega) hp)
      | true =>
        rw [if_pos rfl]
        by_cases d2 : p_hg P m k < p_no P m
        · rw [if_pos d2]
          exact ih (k + 1) (by omega) (by omega) (fun j hj hp => by
            by_cases ej : j = k
            · subst ej; exact d2
            · exact hb j (by omega) hp)
        · rw [if_neg d2]
          have : j_hb P m i = false := by
            rw [← Bool.not_eq_true, jhb_iff]
            exact fun z => d2 (z k d hc)
          rw [this]; rfl
    · simp (disch := first | assumption | omega | decide | (simp only [hT_wI, hT_wL, hT_wR, hT_wLr]; assumption)) only [↓reduceIte, Nat.reduceEqDiff, Nat.reduceLT, Nat.reduceLeDiff, Nat.reduceAdd, Nat.reduceSub, Nat.reduceMul, or_self, or_true, true_or, or_false, false_or, and_self, and_true, true_and, and_false, false_and, if_true, if_false, ↓gI_ok, ↓gL_ok, ↓gR_ok, ↓pI_ok, ↓pL_ok, ↓pR_ok, ↓rcv_ok, ↓nz_ok, ↓nz_no, ↓aI_n, ↓aL_n, ↓aR_n, ↓sI_n, ↓sL_n, ↓sR_n, ↓cl_ok, ↓bz_0, ↓bz_1, hT_wI, hT_wL, hT_wR, hT_wLr, hR_wI, hR_wL, hR_wLr, hI_wL, hI_wR, hI_wLr, hL_wI, hL_wR, nI_add, nI_1, pk_mul, if_lt, if_eq, if_eqL, ie_0, ie_1, il_0, il_1, ir_0, ir_1, ie_m, il_m, bz_b, ib_0, i_10, i_01, i_0m, i_1m, i_m0, i_ml0, b2i_if, bz_i, nI_p1, nl_2, nl_3, nl_4, nl_5, nl_6, nl_7, nl_8, nl_9, nl_10, nl_11, nl_12, nl_13, nl_14, nl_15, nl_16, nl_17, nl_18, nl_19, nl_20, nl_21, nl_22, nl_23, nl_24, nl_25, nl_26, nl_27, nl_28, nl_29, nl_30, nl_31, nl_32, nl_33, nl_34, nl_35, nl_36, nl_37, nl_38, nl_39, nl_40, nl_41, nl_42, nl_43, nl_44, nl_45, nl_46, nl_47, nl_48, nl_49, nl_50, nl_51, nl_52, nl_53, nl_54, nl_55, nl_56, nl_57, nl_58, nl_59, nl_60, nl_61, nl_62, nl_63, nl_64, nl_100, nl_480, nl_1020, nl_3000, c12]
      rw [if_neg d]
      have : j_hb P m i = true := jhb_iff.mpr (fun j hj hp => hb j (by omega) hp)
      rw [this]; rfl
theorem f_tg (j : JT (hT h) (hR h) o) (v : PC h o ma ta P) (w : PW P) {m i : Nat} (hm : m < p_nm P) (hi : i < p_no P m) (hod : p_op P m i = 23 → wi (p_A P m i) (p_nt P) = true) : FX1_targetsAreThere (some (o + 5)) (some (ma m)) (nI i) h = some (b2i (j_tg P m i), h) := by
  obtain ⟨j0, j1, j2, j3⟩ := j
  obtain ⟨vt, -, vm, vtb, -⟩ := id v
  obtain ⟨-, t, c⟩ := vm m hm
  have wm := w.2.2.2.1 m hm
  obtain ⟨a0, ⟨r1, r4, r5, r6, r8, r9, r10, r11, r13⟩, t1, t2, t3, t4, t5, t6, t7, t8⟩ := id t
  obtain ⟨⟨c0, c2, c3, c7, c12⟩, -, cop, c4⟩ := id c
  obtain ⟨w1, w2, w3, w4, w5, w6, w7, w8, w9⟩ := id wm
  obtain ⟨e1, e2, e3⟩ := cop i hi
  have e4 := w8 i hi
  have l86 : BX1_targetsAreThere_83 (some (ma m)) (nI i) h = some (b2i (j_hb P m i), h) := by
    unfold BX1_targetsAreThere_83
    rw [nI_c0]
    exact th_loop t c wm (by omega) 100000 0 (by omega) (by omega) (fun j hj => by omega)
  unfold FX1_targetsAreThere BX1_targetsAreThere_33 BX1_targetsAreThere_47 j_tg
  simp (disch := first | assumption | omega | decide | (simp only [hT_wI, hT_wL, hT_wR, hT_wLr]; assumption)) only [↓reduceIte, Nat.reduceEqDiff, Nat.reduceLT, Nat.reduceLeDiff, Nat.reduceAdd, Nat.reduceSub, Nat.reduceMul, or_self, or_true, true_or, or_false, false_or, and_self, and_true, true_and, and_false, false_and, if_true, if_false, ↓gI_ok, ↓gL_ok, ↓gR_ok, ↓pI_ok, ↓pL_ok, ↓pR_ok, ↓rcv_ok, ↓nz_ok, ↓nz_no, ↓aI_n, ↓aL_n, ↓aR_n, ↓sI_n, ↓sL_n, ↓sR_n, ↓cl_ok, ↓bz_0, ↓bz_1, hT_wI, hT_wL, hT_wR, hT_wLr, hR_wI, hR_wL, hR_wLr, hI_wL, hI_wR, hI_wLr, hL_wI, hL_wR, nI_add, nI_1, pk_mul, if_lt, if_eq, if_eqL, ie_0, ie_1, il_0, il_1, ir_0, ir_1, ie_m, il_m, bz_b, ib_0, i_10, i_01, i_0m, i_1m, i_m0, i_ml0, b2i_if, bz_i, nI_p1, nl_2, nl_3, nl_4, nl_5, nl_6, nl_7, nl_8, nl_9, nl_10, nl_11, nl_12, nl_13, nl_14, nl_15, nl_16, nl_17, nl_18, nl_19, nl_20, nl_21, nl_22, nl_23, nl_24, nl_25, nl_26, nl_27, nl_28, nl_29, nl_30, nl_31, nl_32, nl_33, nl_34, nl_35, nl_36, nl_37, nl_38, nl_39, nl_40, nl_41, nl_42, nl_43, nl_44, nl_45, nl_46, nl_47, nl_48, nl_49, nl_50, nl_51, nl_52, nl_53, nl_54, nl_55, nl_56, nl_57, nl_58, nl_59, nl_60, nl_61, nl_62, nl_63, nl_64, nl_100, nl_480, nl_1020, nl_3000, r4, r5, e1, e2, c7, f_wi, l86, j1]
  by_cases d : p_op P m i = 20 ∨ p_op P m i = 21 ∨ p_op P m i = 22
  · have d23 : ¬ p_op P m i = 23 := by omega
    rw [if_pos d]
    simp only [d23, if_false, Bool.and_true]
    cases hw : wi (p_A P m i) (p_no P m) with
    | false =>
      simp only [Bool.false_and, Bool.false_eq_true, if_false]
      rcases d with d | d | d <;> simp only [d, Nat.reduceEqDiff, if_true, if_false] <;> rfl
    | true =>
      simp only [Bool.true_and, if_true]
      rcases d with d | d | d <;> simp only [d, Nat.reduceEqDiff, if_true, if_false]
  · rw [if_neg d, if_neg (fun z => d (Or.inl z)), if_neg (fun z => d (Or.inr (Or.inl z))), if_neg (fun z => d (Or.inr (Or.inr z))), Bool.true_and]
    by_cases d23 : p_op P m i = 23
    · rw [if_pos d23, if_pos d23]
      obtain ⟨x, hx, ex, ec⟩ := wi_ex (by have := w.2.2.1; omega) (hod d23)
      obtain ⟨-, tt, tc⟩ := vtb x hx
      have hno : p_no P m < 2 ^ 31 := by omega
      have q1 : hT h (o + 1) = some (.inl 3) := vt.1
      have q2 : hT h (ta x) = some (.inl 6) := tt.1
      rw [ec, ex]
      simp (disch := first | assumption | omega | decide | (simp only [hT_wI, hT_wL, hT_wR, hT_wLr]; assumption)) only [↓reduceIte, Nat.reduceEqDiff, Nat.reduceLT, Nat.reduceLeDiff, Nat.reduceAdd, Nat.reduceSub, Nat.reduceMul, or_self, or_true, true_or, or_false, false_or, and_self, and_true, true_and, and_false, false_and, if_true, if_false, ↓gI_ok, ↓gL_ok, ↓gR_ok, ↓pI_ok, ↓pL_ok, ↓pR_ok, ↓rcv_ok, ↓nz_ok, ↓nz_no, ↓aI_n, ↓aL_n, ↓aR_n, ↓sI_n, ↓sL_n, ↓sR_n, ↓cl_ok, ↓bz_0, ↓bz_1, hT_wI, hT_wL, hT_wR, hT_wLr, hR_wI, hR_wL, hR_wLr, hI_wL, hI_wR, hI_wLr, hL_wI, hL_wR, nI_add, nI_1, pk_mul, if_lt, if_eq, if_eqL, ie_0, ie_1, il_0, il_1, ir_0, ir_1, ie_m, il_m, bz_b, ib_0, i_10, i_01, i_0m, i_1m, i_m0, i_ml0, b2i_if, bz_i, nI_p1, nl_2, nl_3, nl_4, nl_5, nl_6, nl_7, nl_8, nl_9, nl_10, nl_11, nl_12, nl_13, nl_14, nl_15, nl_16, nl_17, nl_18, nl_19, nl_20, nl_21, nl_22, nl_23, nl_24, nl_25, nl_26, nl_27, nl_28, nl_29, nl_30, nl_31, nl_32, nl_33, nl_34, nl_35, nl_36, nl_37, nl_38, nl_39, nl_40, nl_41, nl_42, nl_43, nl_44, nl_45, nl_46, nl_47, nl_48, nl_49, nl_50, nl_51, nl_52, nl_53, nl_54, nl_55, nl_56, nl_57, nl_58, nl_59, nl_60, nl_61, nl_62, nl_63, nl_64, nl_100, nl_480, nl_1020, nl_3000, f_findT v w hx, f_stays tt tc (w.2.2.2.2 x hx) hno, c7, l86]
      cases tbel P x (p_no P m) with
      | false => rfl
      | true => rw [if_pos rfl, Bool.true_and]
    · rw [if_neg d23, if_neg d23, Bool.true_and]
/-- behind and caught, the two shapes of the judge -/
abbrev SvB (h : Hp) (o d : Nat) (σ l : Nat → Nat) : Prop := Sv h (o + 6) (o + 7) (o + 8) (o + 9) d σ l
abbrev SvC (h : Hp) (o d : Nat) (σ l : Nat → Nat) : Prop := Sv h (o + 10) (o + 11) (o + 12) (o + 13) d σ l
def TkR (o : Nat) (h : Hp) (σ l : Nat → Nat) (ks : List Nat) (d : Nat) : Int32 → Hp → Prop := fun r g => ∃ d', SvB g o d' σ l ∧ Fr (Aw (o + 7) (o + 8)) h g ∧ ((takeL σ ks d = some d' ∧ r = 1) ∨ (takeL σ ks d = none ∧ r = 0))
theorem tk_seq {d k : Nat} {σ l : Nat → Nat} {ks : List Nat} {c : Hp → Option (Int32 × Hp)} (u : SvB h o d σ l) (hk : k < 8) (hc : ∀ g d', SvB g o d' σ l → Fr (Aw (o + 7) (o + 8)) h g → Ok (c g) (TkR o g σ l ks d')) : Ok (cl (FX5_take (some (o + 6)) (nI k) h) (fun v h1 => if v = 0 then some (0, h1) else c h1)) (TkR o h σ l (k :: ks) d) := by
  by_cases z : wd k ≤ d ∧ σ (d - wd k) = k
  · refine ok_cl (k_take_t u hk z.1 z.2) (fun r g q => ?_)
    obtain ⟨rfl, q1, q2⟩ := q
    rw [if_neg (by decide)]
    refine (hc g _ q1 q2).mono (fun r g' q => ?_)
    obtain ⟨d', x1, x2, x3⟩ := q
    refine ⟨d', x1, q2.trans x2, ?_⟩
    rw [takeL, if_pos z]
    exact x3
  · rw [k_take_f u hk z, cl_ok]
    rw [if_pos rfl]
    refine ok_some ⟨d, u, Fr.refl _ _, Or.inr ⟨?_, rfl⟩⟩
    rw [takeL, if_neg z]
theorem tk_one {d k : Nat} {σ l : Nat → Nat} (u : SvB h o d σ l) (hk : k < 8) : Ok (FX5_take (some (o + 6)) (nI k) h) (TkR o h σ l [k] d) := by
  by_cases z : wd k ≤ d ∧ σ (d - wd k) = k
  · refine (k_take_t u hk z.1 z.2).mono (fun r g q => ?_)
    obtain ⟨rfl, q1, q2⟩ := q
    refine ⟨_, q1, q2, Or.inl ⟨?_, rfl⟩⟩
    rw [takeL, if_pos z, takeL]
  · rw [k_take_f u hk z]
    refine ok_some ⟨d, u, Fr.refl _ _, Or.inr ⟨?_, rfl⟩⟩
    rw [takeL, if_neg z]
theorem tk_bz {d : Nat} {σ l : Nat → Nat} {ks : List Nat} {c : Option (Int32 × Hp)} (hc : Ok c (TkR o h σ l ks d)) : Ok (cl c (fun v h1 => bz v (some (v, h1)))) (TkR o h σ l ks d) := by
  refine ok_cl hc (fun r g q => ok_bz ?_ (ok_some q))
  obtain ⟨d', -, -, q⟩ := q
  rcases q with q | q
  · exact Or.inr q.2
  · exact Or.inl q.2
theorem tk_nil {d : Nat} {σ l : Nat → Nat} (u : SvB h o d σ l) : Ok (some ((1 : Int32), h)) (TkR o h σ l [] d) := ok_some ⟨d, u, Fr.refl _ _, Or.inl ⟨rfl, rfl⟩⟩
end JA
