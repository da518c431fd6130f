/-! Judge: what an operation puts, and its first fault -/
theorem mvS_G {op d : Nat} {σ : Nat → Nat} : mvS op d (fun i => lN (σ i)) = fun i => lN (mvG op d σ i) := by
  funext i
  unfold mvS mvG
  by_cases c9 : op ≤ 9
  · rw [if_pos c9, if_pos c9]
  · rw [if_neg c9, if_neg c9]
    by_cases c16 : op = 16
    · rw [if_pos c16, if_pos c16]
      simp only [vp_updL, va_up]
      split
      · rfl
      · split <;> rfl
    · rw [if_neg c16, if_neg c16]
      simp only [cpu, cpG]
      split
      · rfl
      · split <;> rfl
theorem mvG_at {α : Type} {op d : Nat} {s : Nat → α} (h1 : 8 ≤ op) (h2 : op ≤ 16) (hv : mvU op + mvV op ≤ d) {i : Nat} (hi : i < mvD op d) : ∃ j, j < d ∧ mvG op d s i = s j := by
  obtain ⟨b1, b2, b3⟩ := mv_b h1 h2
  unfold mvD at hi
  unfold mvG
  by_cases c9 : op ≤ 9
  · rw [if_pos c9] at hi ⊢
    exact ⟨i, by omega, rfl⟩
  · rw [if_neg c9] at hi ⊢
    by_cases c16 : op = 16
    · rw [if_pos c16] at hi ⊢
      simp only [va_up]
      subst c16
      have hv2 : 2 ≤ d := hv
      split
      · exact ⟨d - 2, by omega, rfl⟩
      · split
        · exact ⟨d - 1, by omega, rfl⟩
        · exact ⟨i, by omega, rfl⟩
    · rw [if_neg c16] at hi ⊢
      simp only [cpG]
      split
      · exact ⟨i, by omega, rfl⟩
      · split
        · exact ⟨_, by omega, rfl⟩
        · exact ⟨_, by omega, rfl⟩
theorem k_moveS {h : Hp} {s w wa la d op : Nat} {σ l : Nat → Nat} (v : Sv h s w wa la d σ l) (h1 : 8 ≤ op) (h2 : op ≤ 16) (hv : mvU op + mvV op ≤ d) (hd : d ≤ 12) : Ok (FX10_move (some w) (nI op) h) (fun _ g => Sv g s w wa la (mvD op d) (mvG op d σ) l ∧ Fr (Aw w wa) h g) := by
  have a10 := v.2.2.2.2.2.2.2.2.2
  refine (k_move h1 h2 v.2.2.2.2.2.2.1 hv hd).mono (fun _ g q => ?_)
  rw [mvS_G] at q
  refine ⟨v.stk q.2 q.1 (fun i hi => ?_), q.2⟩
  obtain ⟨j, hj, e⟩ := mvG_at (s := σ) h1 h2 hv hi
  rw [e]
  exact a10 j hj
section JC
variable {h : Hp} {o : Nat} {ma ta : Nat → Nat} {P : Pg}
theorem j_pt_le (w : PW P) {op : Nat} (hop : op < 36) {a b : Int32} (hod : j_od P op a b = true) : j_pt P op (cN a) (cN b) ≤ 5 := by
  rcases op36 hop with rfl | rfl | rfl | rfl | rfl | rfl | rfl | rfl | rfl | rfl | rfl | rfl | rfl | rfl | rfl | rfl | rfl | rfl | rfl | rfl | rfl | rfl | rfl | rfl | rfl | rfl | rfl | rfl | rfl | rfl | rfl | rfl | rfl | rfl | rfl | rfl
  all_goals simp only [j_pt, Nat.reduceEqDiff, Nat.reduceLeDiff, or_self, or_true, true_or, or_false, false_or, if_true, if_false]
  all_goals first | decide | omega | skip
  · have hb : wi b 5 = true := by simp [j_od] at hod; exact hod.1
    obtain ⟨k, hk, rfl, e⟩ := wi_ex (by decide) hb
    omega
  · have hb : wi b 2 = true := by simp [j_od] at hod; exact hod.2
    obtain ⟨k, hk, rfl, e⟩ := wi_ex (by decide) hb
    omega
  · split <;> omega
  · unfold kcl
    split <;> omega
  · have ha : wi a (p_nm P) = true := by simp [j_od] at hod; exact hod
    obtain ⟨x, hx, rfl, ex⟩ := wi_ex (by have := w.1; omega) ha
    have := (w.2.2.2.1 x hx).1
    rw [ex]
    omega
theorem f_kindPut (j : JT (hT h) (hR h) o) (v : PC h o ma ta P) (w : PW P) {op : Nat} (hop : op < 36) (hop4 : 4 < op) {a b : Int32} (hod : j_od P op a b = true) (hmv : ¬ (8 ≤ op ∧ op ≤ 16)) : FX1_kindPut (some (o + 5)) (nI op) a b h = some (nI (j_pt P op (cN a) (cN b)), h) := by
  obtain ⟨j0, j1, j2, j3⟩ := id j
  have q1 : hT h (o + 1) = some (.inl 3) := v.1.1
  unfold FX1_kindPut
  rcases op36 hop with rfl | rfl | rfl | rfl | rfl | rfl | rfl | rfl | rfl | rfl | rfl | rfl | rfl | rfl | rfl | rfl | rfl | rfl | rfl | rfl | rfl | rfl | rfl | rfl | rfl | rfl | rfl | rfl | rfl | rfl | rfl | rfl | rfl | rfl | rfl | rfl
  all_goals first | (exfalso; omega) | skip
  all_goals simp (disch := first | assumption | omega | decide | (simp only [hT_wI, hT_wL, hT_wR, hT_wLr]; assumption)) only [↓reduceIte, Nat.reduceEqDiff, Nat.reduceLT, Nat.reduceLeDiff, Nat.reduceAdd, Nat.reduceSub, Nat.reduceMul, or_self, or_true, true_or, or_false, false_or, and_self, and_true, true_and, and_false, false_and, if_true, if_false, ↓gI_ok, ↓gL_ok, ↓gR_ok, ↓pI_ok, ↓pL_ok, ↓pR_ok, ↓rcv_ok, ↓nz_ok, ↓nz_no, ↓aI_n, ↓aL_n, ↓aR_n, ↓sI_n, ↓sL_n, ↓sR_n, ↓cl_ok, ↓bz_0, ↓bz_1, hT_wI, hT_wL, hT_wR, hT_wLr, hR_wI, hR_wL, hR_wLr, hI_wL, hI_wR, hI_wLr, hL_wI, hL_wR, nI_add, nI_1, pk_mul, if_lt, if_eq, if_eqL, ie_0, ie_1, il_0, il_1, ir_0, ir_1, ie_m, il_m, bz_b, ib_0, i_10, i_01, i_0m, i_1m, i_m0, i_ml0, b2i_if, bz_i, nI_p1, nl_2, nl_3, nl_4, nl_5, nl_6, nl_7, nl_8, nl_9, nl_10, nl_11, nl_12, nl_13, nl_14, nl_15, nl_16, nl_17, nl_18, nl_19, nl_20, nl_21, nl_22, nl_23, nl_24, nl_25, nl_26, nl_27, nl_28, nl_29, nl_30, nl_31, nl_32, nl_33, nl_34, nl_35, nl_36, nl_37, nl_38, nl_39, nl_40, nl_41, nl_42, nl_43, nl_44, nl_45, nl_46, nl_47, nl_48, nl_49, nl_50, nl_51, nl_52, nl_53, nl_54, nl_55, nl_56, nl_57, nl_58, nl_59, nl_60, nl_61, nl_62, nl_63, nl_64, nl_100, nl_480, nl_1020, nl_3000, j_pt, j1, j2]
  all_goals first | done | rfl | skip
  · have hb : wi b 5 = true := by simp [j_od] at hod; exact hod.1
    obtain ⟨k, hk, rfl, e⟩ := wi_ex (by decide) hb
    rw [e]
  · have hb : wi b 2 = true := by simp [j_od] at hod; exact hod.2
    obtain ⟨k, hk, rfl, e⟩ := wi_ex (by decide) hb
    rw [e]
  · have ha : wi a 5 = true := by simp [j_od] at hod; exact hod
    obtain ⟨x, hx, rfl, ex⟩ := wi_ex (by decide) ha
    rw [ex]
    rcases (show x = 0 ∨ x = 1 ∨ x = 2 ∨ x = 3 ∨ x = 4 by omega) with rfl | rfl | rfl | rfl | rfl <;> rfl
  · have hb : wi b 8 = true := by simp [j_od] at hod; exact hod
    obtain ⟨k, hk, rfl, e⟩ := wi_ex (by decide) hb
    rw [e]
    simp (disch := first | assumption | omega | decide | (simp only [hT_wI, hT_wL, hT_wR, hT_wLr]; assumption)) only [↓reduceIte, Nat.reduceEqDiff, Nat.reduceLT, Nat.reduceLeDiff, Nat.reduceAdd, Nat.reduceSub, Nat.reduceMul, or_self, or_true, true_or, or_false, false_or, and_self, and_true, true_and, and_false, false_and, if_true, if_false, ↓gI_ok, ↓gL_ok, ↓gR_ok, ↓pI_ok, ↓pL_ok, ↓pR_ok, ↓rcv_ok, ↓nz_ok, ↓nz_no, ↓aI_n, ↓aL_n, ↓aR_n, ↓sI_n, ↓sL_n, ↓sR_n, ↓cl_ok, ↓bz_0, ↓bz_1, hT_wI, hT_wL, hT_wR, hT_wLr, hR_wI, hR_wL, hR_wLr, hI_wL, hI_wR, hI_wLr, hL_wI, hL_wR, nI_add, nI_1, pk_mul, if_lt, if_eq, if_eqL, ie_0, ie_1, il_0, il_1, ir_0, ir_1, ie_m, il_m, bz_b, ib_0, i_10, i_01, i_0m, i_1m, i_m0, i_ml0, b2i_if, bz_i, nI_p1, nl_2, nl_3, nl_4, nl_5, nl_6, nl_7, nl_8, nl_9, nl_10, nl_11, nl_12, nl_13, nl_14, nl_15, nl_16, nl_17, nl_18, nl_19, nl_20, nl_21, nl_22, nl_23, nl_24, nl_25, nl_26, nl_27, nl_28, nl_29, nl_30, nl_31, nl_32, nl_33, nl_34, nl_35, nl_36, nl_37, nl_38, nl_39, nl_40, nl_41, nl_42, nl_43, nl_44, nl_45, nl_46, nl_47, nl_48, nl_49, nl_50, nl_51, nl_52, nl_53, nl_54, nl_55, nl_56, nl_57, nl_58, nl_59, nl_60, nl_61, nl_62, nl_63, nl_64, nl_100, nl_480, nl_1020, nl_3000, f_kcl hk]
  · have ha : wi a (p_nm P) = true := by simp [j_od] at hod; exact hod
    obtain ⟨x, hx, rfl, ex⟩ := wi_ex (by have := w.1; omega) ha
    rw [ex]
    obtain ⟨-, mt, mc⟩ := v.2.2.1 x hx
    have q2 : hT h (ma x) = some (.inl 2) := mt.1
    have q3 := mc.1.1
    simp (disch := first | assumption | omega | decide | (simp only [hT_wI, hT_wL, hT_wR, hT_wLr]; assumption)) only [↓reduceIte, Nat.reduceEqDiff, Nat.reduceLT, Nat.reduceLeDiff, Nat.reduceAdd, Nat.reduceSub, Nat.reduceMul, or_self, or_true, true_or, or_false, false_or, and_self, and_true, true_and, and_false, false_and, if_true, if_false, ↓gI_ok, ↓gL_ok, ↓gR_ok, ↓pI_ok, ↓pL_ok, ↓pR_ok, ↓rcv_ok, ↓nz_ok, ↓nz_no, ↓aI_n, ↓aL_n, ↓aR_n, ↓sI_n, ↓sL_n, ↓sR_n, ↓cl_ok, ↓bz_0, ↓bz_1, hT_wI, hT_wL, hT_wR, hT_wLr, hR_wI, hR_wL, hR_wLr, hI_wL, hI_wR, hI_wLr, hL_wI, hL_wR, nI_add, nI_1, pk_mul, if_lt, if_eq, if_eqL, ie_0, ie_1, il_0, il_1, ir_0, ir_1, ie_m, il_m, bz_b, ib_0, i_10, i_01, i_0m, i_1m, i_m0, i_ml0, b2i_if, bz_i, nI_p1, nl_2, nl_3, nl_4, nl_5, nl_6, nl_7, nl_8, nl_9, nl_10, nl_11, nl_12, nl_13, nl_14, nl_15, nl_16, nl_17, nl_18, nl_19, nl_20, nl_21, nl_22, nl_23, nl_24, nl_25, nl_26, nl_27, nl_28, nl_29, nl_30, nl_31, nl_32, nl_33, nl_34, nl_35, nl_36, nl_37, nl_38, nl_39, nl_40, nl_41, nl_42, nl_43, nl_44, nl_45, nl_46, nl_47, nl_48, nl_49, nl_50, nl_51, nl_52, nl_53, nl_54, nl_55, nl_56, nl_57, nl_58, nl_59, nl_60, nl_61, nl_62, nl_63, nl_64, nl_100, nl_480, nl_1020, nl_3000, f_findM v w hx, q3]
theorem f_putAll (j : JT (hT h) (hR h) o) (v : PC h o ma ta P) (w : PW P) {d op : Nat} {σ l : Nat → Nat} (u : SvB h o d σ l) (hd : d ≤ 12) (hop : op < 36) {a b : Int32} (hod : j_od P op a b = true) (hmv : 8 ≤ op ∧ op ≤ 16 → mok op d σ = true) : Ok (FX1_putAll (some (o + 5)) (nI op) a b h) (fun _ g => SvB g o (j_put P op (cN a) (cN b) d σ l).1 (j_put P op (cN a) (cN b) d σ l).2.1 (j_put P op (cN a) (cN b) d σ l).2.2 ∧ Fr (Asv (o + 7) (o + 8) (o + 9)) h g) := by
  obtain ⟨j0, j1, j2, j3⟩ := id j
  have u1 : hT h (o + 6) = some (.inl 4) := u.1
  have u2 : hR h (o + 6) 0 = some (o + 7) := u.2.1
  have u3 : hT h (o + 7) = some (.inl 9) := u.2.2.2.2.2.2.1.1
  have wAw : ∀ g, Fr (Aw (o + 7) (o + 8)) h g → Fr (Asv (o + 7) (o + 8) (o + 9)) h g := fun g f => f.mono Aw_Asv
  unfold FX1_putAll j_put
  by_cases c4 : 4 < op
  · by_cases cm : 8 ≤ op ∧ op ≤ 16
    · rw [if_pos cm]
      have c8 : ¬ op < 8 := by omega
      have c16 : ¬ 16 < op := by omega
      simp (disch := first | assumption | omega | decide | (simp only [hT_wI, hT_wL, hT_wR, hT_wLr]; assumption)) only [↓reduceIte, Nat.reduceEqDiff, Nat.reduceLT, Nat.reduceLeDiff, Nat.reduceAdd, Nat.reduceSub, Nat.reduceMul, or_self, or_true, true_or, or_false, false_or, and_self, and_true, true_and, and_false, false_and, if_true, if_false, ↓gI_ok, ↓gL_ok, ↓gR_ok, ↓pI_ok, ↓pL_ok, ↓pR_ok, ↓rcv_ok, ↓nz_ok, ↓nz_no, ↓aI_n, ↓aL_n, ↓aR_n, ↓sI_n, ↓sL_n, ↓sR_n, ↓cl_ok, ↓bz_0, ↓bz_1, hT_wI, hT_wL, hT_wR, hT_wLr, hR_wI, hR_wL, hR_wLr, hI_wL, hI_wR, hI_wLr, hL_wI, hL_wR, nI_add, nI_1, pk_mul, if_lt, if_eq, if_eqL, ie_0, ie_1, il_0, il_1, ir_0, ir_1, ie_m, il_m, bz_b, ib_0, i_10, i_01, i_0m, i_1m, i_m0, i_ml0, b2i_if, bz_i, nI_p1, nl_2, nl_3, nl_4, nl_5, nl_6, nl_7, nl_8, nl_9, nl_10, nl_11, nl_12, nl_13, nl_14, nl_15, nl_16, nl_17, nl_18, nl_19, nl_20, nl_21, nl_22, nl_23, nl_24, nl_25, nl_26, nl_27, nl_28, nl_29, nl_30, nl_31, nl_32, nl_33, nl_34, nl_35, nl_36, nl_37, nl_38, nl_39, nl_40, nl_41, nl_42, nl_43, nl_44, nl_45, nl_46, nl_47, nl_48, nl_49, nl_50, nl_51, nl_52, nl_53, nl_54, nl_55, nl_56, nl_57, nl_58, nl_59, nl_60, nl_61, nl_62, nl_63, nl_64, nl_100, nl_480, nl_1020, nl_3000, j2, u2, c4, c8, c16]
      have hm := of_decide_eq_true (hmv cm)
      exact ok_cl (k_moveS u cm.1 cm.2 hm.1 hd) (fun _ g q => ok_some ⟨q.1, wAw _ q.2⟩)
    · rw [if_neg cm]
      have e42 : (if nI op < 8 then BX1_putAll_42 (some (o + 5)) (nI op) a b h else if 16 < nI op then BX1_putAll_42 (some (o + 5)) (nI op) a b h else gR h (some (o + 5)) 1 1 fun v4 => gR h v4 4 0 fun v8 => rcv h v8 9 <| cl (FX10_move v8 (nI op) h) fun v12 h13 => some ((), h13)) = BX1_putAll_42 (some (o + 5)) (nI op) a b h := by
        rw [nl_8, if_lt (by omega) (by decide), nl_16, if_lt (by decide) (by omega)]
        by_cases c8 : op < 8
        · rw [if_pos c8]
        · rw [if_neg c8, if_pos (by omega)]
      rw [nl_4, if_lt (by decide) (by omega), if_pos c4, e42]
      unfold BX1_putAll_42
      by_cases c6 : op = 6
      · subst c6
        rw [if_pos rfl]
        simp (disch := first | assumption | omega | decide | (simp only [hT_wI, hT_wL, hT_wR, hT_wLr]; assumption)) only [↓reduceIte, Nat.reduceEqDiff, Nat.reduceLT, Nat.reduceLeDiff, Nat.reduceAdd, Nat.reduceSub, Nat.reduceMul, or_self, or_true, true_or, or_false, false_or, and_self, and_true, true_and, and_false, false_and, if_true, if_false, ↓gI_ok, ↓gL_ok, ↓gR_ok, ↓pI_ok, ↓pL_ok, ↓pR_ok, ↓rcv_ok, ↓nz_ok, ↓nz_no, ↓aI_n, ↓aL_n, ↓aR_n, ↓sI_n, ↓sL_n, ↓sR_n, ↓cl_ok, ↓bz_0, ↓bz_1, hT_wI, hT_wL, hT_wR, hT_wLr, hR_wI, hR_wL, hR_wLr, hI_wL, hI_wR, hI_wLr, hL_wI, hL_wR, nI_add, nI_1, pk_mul, if_lt, if_eq, if_eqL, ie_0, ie_1, il_0, il_1, ir_0, ir_1, ie_m, il_m, bz_b, ib_0, i_10, i_01, i_0m, i_1m, i_m0, i_ml0, b2i_if, bz_i, nI_p1, nl_2, nl_3, nl_4, nl_5, nl_6, nl_7, nl_8, nl_9, nl_10, nl_11, nl_12, nl_13, nl_14, nl_15, nl_16, nl_17, nl_18, nl_19, nl_20, nl_21, nl_22, nl_23, nl_24, nl_25, nl_26, nl_27, nl_28, nl_29, nl_30, nl_31, nl_32, nl_33, nl_34, nl_35, nl_36, nl_37, nl_38, nl_39, nl_40, nl_41, nl_42, nl_43, nl_44, nl_45, nl_46, nl_47, nl_48, nl_49, nl_50, nl_51, nl_52, nl_53, nl_54, nl_55, nl_56, nl_57, nl_58, nl_59, nl_60, nl_61, nl_62, nl_63, nl_64, nl_100, nl_480, nl_1020, nl_3000, j2]
        have hab : wi b 5 = true ∧ wi a (17 - wd (cN b)) = true := by simp [j_od] at hod; exact hod
        obtain ⟨k, hk, rfl, e⟩ := wi_ex (by decide) hab.1
        have hw := wd_le k
        rw [e] at hab ⊢
        obtain ⟨x, hx, rfl, ex⟩ := wi_ex (by omega) hab.2
        rw [ex]
        exact ok_cl (k_store u (by omega) (by omega)) (fun _ g q => ok_some ⟨q.1, q.2.mono (fun b e => Or.inr (Or.inr e))⟩)
      · have hle := j_pt_le w hop hod
        rw [if_neg c6]
        simp (disch := first | assumption | omega | decide | (simp only [hT_wI, hT_wL, hT_wR, hT_wLr]; assumption)) only [↓reduceIte, Nat.reduceEqDiff, Nat.reduceLT, Nat.reduceLeDiff, Nat.reduceAdd, Nat.reduceSub, Nat.reduceMul, or_self, or_true, true_or, or_false, false_or, and_self, and_true, true_and, and_false, false_and, if_true, if_false, ↓gI_ok, ↓gL_ok, ↓gR_ok, ↓pI_ok, ↓pL_ok, ↓pR_ok, ↓rcv_ok, ↓nz_ok, ↓nz_no, ↓aI_n, ↓aL_n, ↓aR_n, ↓sI_n, ↓sL_n, ↓sR_n, ↓cl_ok, ↓bz_0, ↓bz_1, hT_wI, hT_wL, hT_wR, hT_wLr, hR_wI, hR_wL, hR_wLr, hI_wL, hI_wR, hI_wLr, hL_wI, hL_wR, nI_add, nI_1, pk_mul, if_lt, if_eq, if_eqL, ie_0, ie_1, il_0, il_1, ir_0, ir_1, ie_m, il_m, bz_b, ib_0, i_10, i_01, i_0m, i_1m, i_m0, i_ml0, b2i_if, bz_i, nI_p1, nl_2, nl_3, nl_4, nl_5, nl_6, nl_7, nl_8, nl_9, nl_10, nl_11, nl_12, nl_13, nl_14, nl_15, nl_16, nl_17, nl_18, nl_19, nl_20, nl_21, nl_22, nl_23, nl_24, nl_25, nl_26, nl_27, nl_28, nl_29, nl_30, nl_31, nl_32, nl_33, nl_34, nl_35, nl_36, nl_37, nl_38, nl_39, nl_40, nl_41, nl_42, nl_43, nl_44, nl_45, nl_46, nl_47, nl_48, nl_49, nl_50, nl_51, nl_52, nl_53, nl_54, nl_55, nl_56, nl_57, nl_58, nl_59, nl_60, nl_61, nl_62, nl_63, nl_64, nl_100, nl_480, nl_1020, nl_3000, f_kindPut j v w hop c4 hod cm, j2, c6]
        by_cases c5 : j_pt P op (cN a) (cN b) = 5
        · rw [if_pos c5, if_pos c5]
          exact ok_some ⟨u, Fr.refl _ _⟩
        · rw [if_neg c5, if_neg c5]
          have hw := wd_le (j_pt P op (cN a) (cN b))
          exact ok_cl (k_put u (by omega) (by omega)) (fun _ g q => ok_some ⟨q.1, wAw _ q.2⟩)
  · have cm : ¬ (8 ≤ op ∧ op ≤ 16) := by omega
    have c6 : ¬ op = 6 := by omega
    have ep : j_pt P op (cN a) (cN b) = op := by unfold j_pt; rw [if_pos (by omega)]
    have c5 : ¬ op = 5 := by omega
    rw [if_neg cm, if_neg c6, ep, if_neg c5]
    simp (disch := first | assumption | omega | decide | (simp only [hT_wI, hT_wL, hT_wR, hT_wLr]; assumption)) only [↓reduceIte, Nat.reduceEqDiff, Nat.reduceLT, Nat.reduceLeDiff, Nat.reduceAdd, Nat.reduceSub, Nat.reduceMul, or_self, or_true, true_or, or_false, false_or, and_self, and_true, true_and, and_false, false_and, if_true, if_false, ↓gI_ok, ↓gL_ok, ↓gR_ok, ↓pI_ok, ↓pL_ok, ↓pR_ok, ↓rcv_ok, ↓nz_ok, ↓nz_no, ↓aI_n, ↓aL_n, ↓aR_n, ↓sI_n, ↓sL_n, ↓sR_n, ↓cl_ok, ↓bz_0, ↓bz_1, hT_wI, hT_wL, hT_wR, hT_wLr, hR_wI, hR_wL, hR_wLr, hI_wL, hI_wR, hI_wLr, hL_wI, hL_wR, nI_add, nI_1, pk_mul, if_lt, if_eq, if_eqL, ie_0, ie_1, il_0, il_1, ir_0, ir_1, ie_m, il_m, bz_b, ib_0, i_10, i_01, i_0m, i_1m, i_m0, i_ml0, b2i_if, bz_i, nI_p1, nl_2, nl_3, nl_4, nl_5, nl_6, nl_7, nl_8, nl_9, nl_10, nl_11, nl_12, nl_13, nl_14, nl_15, nl_16, nl_17, nl_18, nl_19, nl_20, nl_21, nl_22, nl_23, nl_24, nl_25, nl_26, nl_27, nl_28, nl_29, nl_30, nl_31, nl_32, nl_33, nl_34, nl_35, nl_36, nl_37, nl_38, nl_39, nl_40, nl_41, nl_42, nl_43, nl_44, nl_45, nl_46, nl_47, nl_48, nl_49, nl_50, nl_51, nl_52, nl_53, nl_54, nl_55, nl_56, nl_57, nl_58, nl_59, nl_60, nl_61, nl_62, nl_63, nl_64, nl_100, nl_480, nl_1020, nl_3000, j2, c4]
    have hw := wd_le op
    exact ok_cl (k_put u (by omega) (by omega)) (fun _ g q => ok_some ⟨q.1, wAw _ q.2⟩)
theorem f_next {op : Nat} (hop : op < 36) (g : Hp) : FX1_goesToNext (nI op) g = some (b2i (j_nx op), g) := by
  unfold FX1_goesToNext
  rcases op36 hop with rfl | rfl | rfl | rfl | rfl | rfl | rfl | rfl | rfl | rfl | rfl | rfl | rfl | rfl | rfl | rfl | rfl | rfl | rfl | rfl | rfl | rfl | rfl | rfl | rfl | rfl | rfl | rfl | rfl | rfl | rfl | rfl | rfl | rfl | rfl | rfl
  all_goals rfl
/-- the first fault of an operation, and the shape behind it -/
theorem f_own (j : JT (hT h) (hR h) o) (v : PC h o ma ta P) (w : PW P) {m i d0 d : Nat} {σ0 l0 : Nat → Nat} {t : Tab} (hm : m < p_nm P) (hi : i < p_no P m) (tv : Tv h (ma m + 9) (ma m + 10) (ma m + 11) (ma m + 12) (ma m + 13) t) (u : SvB h o d0 σ0 l0) (hd : t.1 i = some d) (hap : ∀ c, PA o ma ta P c → ¬ Asv (o + 7) (o + 8) (o + 9) c) (hap2 : ∀ c, Asv (o + 7) (o + 8) (o + 9) c → ¬ At (ma m + 10) (ma m + 11) (ma m + 12) (ma m + 13) c) :
    Ok (FX1_ownFault (some (o + 5)) (some (ma m)) (nI i) h) (fun r g => r = nI (j_own P m i (t_sh t i)).1 ∧ Fr (Asv (o + 7) (o + 8) (o + 9)) h g ∧ ∃ s : Sh, SvB g o s.1 s.2.1 s.2.2 ∧ ((j_own P m i (t_sh t i)).1 = 0 → s = (j_own P m i (t_sh t i)).2)) := by
  obtain ⟨j0, j1, j2, j3⟩ := id j
  obtain ⟨vt, -, vm, vtb, -⟩ := id v
  obtain ⟨-, mt, c⟩ := vm m hm
  have wm := w.2.2.2.1 m hm
  obtain ⟨a0, ⟨r1, r4, r5, r6, r8, r9, r10, r11, r13⟩, t1, t2, t3, t4, t5, t6, t7, t8⟩ := id mt
  obtain ⟨⟨c0, c2, c3, c7, c12⟩, -, cop, c4⟩ := id c
  obtain ⟨w1, w2, w3, w4, w5, w6, w7, w8, w9⟩ := id wm
  obtain ⟨e1, e2, e3⟩ := cop i hi
  have e4 := w8 i hi
  have hdd : d ≤ 12 := (tv.2.2.2.2.2 i d (by omega) hd).1
  have esh : t_sh t i = (d, t.2.1 i, t.2.2.1 i) := by unfold t_sh; rw [hd]; rfl
  have q5 : hT h (ma m + 9) = some (.inl 5) := tv.1
  have u1 : hT h (o + 6) = some (.inl 4) := u.1
  have u2 : hR h (o + 6) 0 = some (o + 7) := u.2.1
  have u3 : hT h (o + 7) = some (.inl 9) := u.2.2.2.2.2.2.1.1
  unfold FX1_ownFault
  simp (disch := first | assumption | omega | decide | (simp only [hT_wI, hT_wL, hT_wR, hT_wLr]; assumption)) only [↓reduceIte, Nat.reduceEqDiff, Nat.reduceLT, Nat.reduceLeDiff, Nat.reduceAdd, Nat.reduceSub, Nat.reduceMul, or_self, or_true, true_or, or_false, false_or, and_self, and_true, true_and, and_false, false_and, if_true, if_false, ↓gI_ok, ↓gL_ok, ↓gR_ok, ↓pI_ok, ↓pL_ok, ↓pR_ok, ↓rcv_ok, ↓nz_ok, ↓nz_no, ↓aI_n, ↓aL_n, ↓aR_n, ↓sI_n, ↓sL_n, ↓sR_n, ↓cl_ok, ↓bz_0, ↓bz_1, hT_wI, hT_wL, hT_wR, hT_wLr, hR_wI, hR_wL, hR_wLr, hI_wL, hI_wR, hI_wLr, hL_wI, hL_wR, nI_add, nI_1, pk_mul, if_lt, if_eq, if_eqL, ie_0, ie_1, il_0, il_1, ir_0, ir_1, ie_m, il_m, bz_b, ib_0, i_10, i_01, i_0m, i_1m, i_m0, i_ml0, b2i_if, bz_i, nI_p1, nl_2, nl_3, nl_4, nl_5, nl_6, nl_7, nl_8, nl_9, nl_10, nl_11, nl_12, nl_13, nl_14, nl_15, nl_16, nl_17, nl_18, nl_19, nl_20, nl_21, nl_22, nl_23, nl_24, nl_25, nl_26, nl_27, nl_28, nl_29, nl_30, nl_31, nl_32, nl_33, nl_34, nl_35, nl_36, nl_37, nl_38, nl_39, nl_40, nl_41, nl_42, nl_43, nl_44, nl_45, nl_46, nl_47, nl_48, nl_49, nl_50, nl_51, nl_52, nl_53, nl_54, nl_55, nl_56, nl_57, nl_58, nl_59, nl_60, nl_61, nl_62, nl_63, nl_64, nl_100, nl_480, nl_1020, nl_3000, r4, r5, r6, r13, e1, e2, e3, j2]
  refine ok_cl (k_load tv u (by omega) hd ⟨fun z => hap2 (o + 8) (Or.inr (Or.inl rfl)) (Or.inr (Or.inl z)), fun z => hap2 (o + 8) (Or.inr (Or.inl rfl)) (Or.inr (Or.inr (Or.inl z))), fun z => hap2 (o + 9) (Or.inr (Or.inr rfl)) (Or.inr (Or.inr (Or.inl z))), fun z => hap2 (o + 9) (Or.inr (Or.inr rfl)) (Or.inr (Or.inl z)), fun z => hap2 (o + 7) (Or.inl rfl) (Or.inl z), by omega⟩) (fun _ g q => ?_)
  obtain ⟨ug, f⟩ := q
  have g1 : hT g = hT h := f.1
  have g2 : hR g = hR h := f.2.1
  have vg : PC g o ma ta P := v.fr f hap
  have jg : JT (hT g) (hR g) o := by rw [g1, g2]; exact j
  rw [rcv_ok (by rw [g1]; exact j0), f_od jg vg w e4, cl_ok, b2i_if]
  unfold j_own
  rw [esh]
  cases hod : j_od P (p_op P m i) (p_A P m i) (p_B P m i) with
  | false =>
    rw [if_neg (by decide), if_pos rfl]
    exact ok_some ⟨rfl, f, (d, t.2.1 i, t.2.2.1 i), ug, fun _ => rfl⟩
  | true =>
    rw [if_pos rfl, if_neg (by decide), rcv_ok (by rw [g1]; exact j0), f_tg jg vg w hm hi (fun z => by rw [z] at hod; simp [j_od] at hod; exact hod), cl_ok, b2i_if]
    cases htg : j_tg P m i with
    | false =>
      rw [if_neg (by decide), if_pos rfl]
      exact ok_some ⟨rfl, f, (d, t.2.1 i, t.2.2.1 i), ug, fun _ => rfl⟩
    | true =>
      rw [if_pos rfl, if_neg (by decide), rcv_ok (by rw [g1]; exact j0)]
      have hapW : ∀ c, PA o ma ta P c → ¬ Aw (o + 7) (o + 8) c := fun c hc z => hap c hc (Aw_Asv c z)
      have tk : Ok (FX1_takeAll (some (o + 5)) (nI (p_op P m i)) (p_A P m i) (p_B P m i) g) (fun r g' => ∃ d', SvB g' o d' (t.2.1 i) (t.2.2.1 i) ∧ Fr (Aw (o + 7) (o + 8)) g g' ∧ ((j_take P (p_op P m i) (cN (p_A P m i)) (cN (p_B P m i)) d (t.2.1 i) = some d' ∧ r = 1) ∨ (j_take P (p_op P m i) (cN (p_A P m i)) (cN (p_B P m i)) d (t.2.1 i) = none ∧ r = 0))) := by
        unfold j_take
        by_cases cm : 8 ≤ p_op P m i ∧ p_op P m i ≤ 16
        · rw [f_takeMv jg ug cm.1 cm.2, if_pos cm]
          refine ok_some ⟨d, ug, Fr.refl _ _, ?_⟩
          cases mok (p_op P m i) d (t.2.1 i) with
          | false => exact Or.inr ⟨rfl, rfl⟩
          | true => exact Or.inl ⟨rfl, rfl⟩
        · rw [if_neg cm]
          exact f_takeAll jg vg w ug e4 hod cm hapW
      refine ok_cl tk (fun r g' q => ?_)
      obtain ⟨d', ug', f', hq⟩ := q
      have ff : Fr (Asv (o + 7) (o + 8) (o + 9)) h g' := f.trans (f'.mono Aw_Asv)
      rcases hq with ⟨ht, rfl⟩ | ⟨ht, rfl⟩
      · rw [ht, if_neg (by decide)]
        dsimp only
        have g1' : hT g' = hT h := ff.1
        have g2' : hR g' = hR h := ff.2.1
        have vg' : PC g' o ma ta P := v.fr ff hap
        have jg' : JT (hT g') (hR g') o := by rw [g1', g2']; exact j
        obtain ⟨⟨c0', c2', c3', c7', c12'⟩, -⟩ := (vg'.2.2.1 m hm).2.2
        have hd' : d' ≤ 12 ∧ (8 ≤ p_op P m i ∧ p_op P m i ≤ 16 → mok (p_op P m i) d' (t.2.1 i) = true) := by
          unfold j_take at ht
          by_cases cm : 8 ≤ p_op P m i ∧ p_op P m i ≤ 16
          · rw [if_pos cm] at ht
            cases hk : mok (p_op P m i) d (t.2.1 i) with
            | false => rw [hk] at ht; simp at ht
            | true =>
              rw [hk] at ht
              simp at ht
              rw [← ht]
              exact ⟨hdd, fun _ => hk⟩
          · rw [if_neg cm] at ht
            have : ∀ (ks : List Nat) (x : Nat), takeL (t.2.1 i) ks x = some d' → d' ≤ x := by
              intro ks
              induction ks with
              | nil => intro x hx; simp [takeL] at hx; omega
              | cons k ks ih =>
                intro x hx
                rw [takeL] at hx
                split at hx
                · have := ih _ hx; omega
                · cases hx
            have := this _ _ ht
            exact ⟨by omega, fun z => absurd z cm⟩
        have fin : Ok (BX1_ownFault_133 (some (o + 5)) (some (ma m)) (nI i) (nI (p_op P m i)) (p_A P m i) (p_B P m i) g') (fun r g => r = nI (j_end P m i (j_put P (p_op P m i) (cN (p_A P m i)) (cN (p_B P m i)) d' (t.2.1 i) (t.2.2.1 i))).1 ∧ Fr (Asv (o + 7) (o + 8) (o + 9)) h g ∧ ∃ s : Sh, SvB g o s.1 s.2.1 s.2.2 ∧ ((j_end P m i (j_put P (p_op P m i) (cN (p_A P m i)) (cN (p_B P m i)) d' (t.2.1 i) (t.2.2.1 i))).1 = 0 → s = (j_end P m i (j_put P (p_op P m i) (cN (p_A P m i)) (cN (p_B P m i)) d' (t.2.1 i) (t.2.2.1 i))).2)) := by
          unfold BX1_ownFault_133
          rw [rcv_ok (by rw [g1']; exact j0)]
          refine ok_cl (f_putAll jg' vg' w ug' hd'.1 e4 hod hd'.2) (fun _ k q => ?_)
          obtain ⟨uk, fk⟩ := q
          generalize j_put P (p_op P m i) (cN (p_A P m i)) (cN (p_B P m i)) d' (t.2.1 i) (t.2.2.1 i) = s' at uk ⊢
          have ffk := ff.trans fk
          have k1 : hT k = hT h := ffk.1
          have k2 : hR k = hR h := ffk.2.1
          have uk4 : hI k (o + 7) 1 = nI s'.1 := uk.2.2.2.2.2.2.1.2.2.2.2.1
          have uk5 : s'.1 ≤ 14 := uk.2.2.2.2.2.2.1.2.2.2.2.2.1
          have ck : hI k (ma m) 7 = nI (p_no P m) := (((v.fr ffk hap).2.2.1 m hm).2.2).1.2.2.2.1
          simp (disch := first | assumption | omega | decide | (simp only [hT_wI, hT_wL, hT_wR, hT_wLr, k1, k2]; assumption)) only [↓reduceIte, Nat.reduceEqDiff, Nat.reduceLT, Nat.reduceLeDiff, Nat.reduceAdd, Nat.reduceSub, Nat.reduceMul, or_self, or_true, true_or, or_false, false_or, and_self, and_true, true_and, and_false, false_and, if_true, if_false, ↓gI_ok, ↓gL_ok, ↓gR_ok, ↓pI_ok, ↓pL_ok, ↓pR_ok, ↓rcv_ok, ↓nz_ok, ↓nz_no, ↓aI_n, ↓aL_n, ↓aR_n, ↓sI_n, ↓sL_n, ↓sR_n, ↓cl_ok, ↓bz_0, ↓bz_1, hT_wI, hT_wL, hT_wR, hT_wLr, hR_wI, hR_wL, hR_wLr, hI_wL, hI_wR, hI_wLr, hL_wI, hL_wR, nI_add, nI_1, pk_mul, if_lt, if_eq, if_eqL, ie_0, ie_1, il_0, il_1, ir_0, ir_1, ie_m, il_m, bz_b, ib_0, i_10, i_01, i_0m, i_1m, i_m0, i_ml0, b2i_if, bz_i, nI_p1, nl_2, nl_3, nl_4, nl_5, nl_6, nl_7, nl_8, nl_9, nl_10, nl_11, nl_12, nl_13, nl_14, nl_15, nl_16, nl_17, nl_18, nl_19, nl_20, nl_21, nl_22, nl_23, nl_24, nl_25, nl_26, nl_27, nl_28, nl_29, nl_30, nl_31, nl_32, nl_33, nl_34, nl_35, nl_36, nl_37, nl_38, nl_39, nl_40, nl_41, nl_42, nl_43, nl_44, nl_45, nl_46, nl_47, nl_48, nl_49, nl_50, nl_51, nl_52, nl_53, nl_54, nl_55, nl_56, nl_57, nl_58, nl_59, nl_60, nl_61, nl_62, nl_63, nl_64, nl_100, nl_480, nl_1020, nl_3000, k1, k2, j2, u2, uk4, f_next e4, ck]
          unfold j_end
          by_cases x12 : 12 < s'.1
          · rw [if_pos x12, if_pos x12]
            exact ok_some ⟨rfl, ffk, s', uk, fun _ => rfl⟩
          · rw [if_neg x12, if_neg x12]
            cases hnx : j_nx (p_op P m i) with
            | false =>
              rw [if_neg (by decide), if_neg (fun z => by cases z.1)]
              exact ok_some ⟨rfl, ffk, s', uk, fun _ => rfl⟩
            | true =>
              rw [if_pos rfl]
              by_cases xn : i + 1 < p_no P m
              · rw [if_pos xn, if_neg (fun z => by omega)]
                exact ok_some ⟨rfl, ffk, s', uk, fun _ => rfl⟩
              · rw [if_neg xn, if_pos ⟨rfl, by omega⟩]
                exact ok_some ⟨rfl, ffk, s', uk, fun _ => rfl⟩
        have u1' : hT g' (o + 6) = some (.inl 4) := ug'.1
        rw [g1'] at u1'
        by_cases c5 : p_op P m i = 5
        · have hab : wi (p_B P m i) 5 = true ∧ wi (p_A P m i) (17 - wd (cN (p_B P m i))) = true := by
            have := hod
            rw [c5] at this
            simp [j_od] at this; exact this
          obtain ⟨k, hk, ek, ek2⟩ := wi_ex (by decide) hab.1
          have hw := wd_le k
          rw [ek2] at hab
          obtain ⟨x, hx, ex, ex2⟩ := wi_ex (by omega) hab.2
          have c5' : ¬ p_op P m i = 7 := by omega
          have c5'' : ¬ p_op P m i = 34 := by omega
          unfold BX1_ownFault_94 BX1_ownFault_115
          rw [ek2, ex2] at fin ⊢
          rw [ek, ex] at fin ⊢
          simp only [c5, Nat.reduceEqDiff, false_and, or_false, true_and, if_false] at fin ⊢
          simp (disch := first | assumption | omega | decide | (simp only [hT_wI, hT_wL, hT_wR, hT_wLr, g1', g2']; assumption)) only [↓reduceIte, Nat.reduceEqDiff, Nat.reduceLT, Nat.reduceLeDiff, Nat.reduceAdd, Nat.reduceSub, Nat.reduceMul, or_self, or_true, true_or, or_false, false_or, and_self, and_true, true_and, and_false, false_and, if_true, if_false, ↓gI_ok, ↓gL_ok, ↓gR_ok, ↓pI_ok, ↓pL_ok, ↓pR_ok, ↓rcv_ok, ↓nz_ok, ↓nz_no, ↓aI_n, ↓aL_n, ↓aR_n, ↓sI_n, ↓sL_n, ↓sR_n, ↓cl_ok, ↓bz_0, ↓bz_1, hT_wI, hT_wL, hT_wR, hT_wLr, hR_wI, hR_wL, hR_wLr, hI_wL, hI_wR, hI_wLr, hL_wI, hL_wR, nI_add, nI_1, pk_mul, if_lt, if_eq, if_eqL, ie_0, ie_1, il_0, il_1, ir_0, ir_1, ie_m, il_m, bz_b, ib_0, i_10, i_01, i_0m, i_1m, i_m0, i_ml0, b2i_if, bz_i, nI_p1, nl_2, nl_3, nl_4, nl_5, nl_6, nl_7, nl_8, nl_9, nl_10, nl_11, nl_12, nl_13, nl_14, nl_15, nl_16, nl_17, nl_18, nl_19, nl_20, nl_21, nl_22, nl_23, nl_24, nl_25, nl_26, nl_27, nl_28, nl_29, nl_30, nl_31, nl_32, nl_33, nl_34, nl_35, nl_36, nl_37, nl_38, nl_39, nl_40, nl_41, nl_42, nl_43, nl_44, nl_45, nl_46, nl_47, nl_48, nl_49, nl_50, nl_51, nl_52, nl_53, nl_54, nl_55, nl_56, nl_57, nl_58, nl_59, nl_60, nl_61, nl_62, nl_63, nl_64, nl_100, nl_480, nl_1020, nl_3000, g1', g2', j2, k_holds ug' (show k < 8 by omega) (show x < 16 by omega)]
          by_cases z : t.2.2.1 i x = k
          · simp only [z, not_true, if_true, if_false]
            exact fin
          · simp only [z, not_false_eq_true, if_true, if_false]
            exact ok_some ⟨rfl, ff, (d', t.2.1 i, t.2.2.1 i), ug', fun z => by cases z⟩
        · unfold BX1_ownFault_94 BX1_ownFault_115
          by_cases c7 : p_op P m i = 7
          · have ha : wi (p_A P m i) 16 = true := by
              have := hod
              rw [c7] at this
              simp [j_od] at this; exact this
            obtain ⟨x, hx, ex, ex2⟩ := wi_ex (by decide) ha
            rw [ex2] at fin ⊢
            rw [ex] at fin ⊢
            simp only [c7, Nat.reduceEqDiff, false_and, false_or, true_and, if_false] at fin ⊢
            simp (disch := first | assumption | omega | decide | (simp only [hT_wI, hT_wL, hT_wR, hT_wLr, g1', g2']; assumption)) only [↓reduceIte, Nat.reduceEqDiff, Nat.reduceLT, Nat.reduceLeDiff, Nat.reduceAdd, Nat.reduceSub, Nat.reduceMul, or_self, or_true, true_or, or_false, false_or, and_self, and_true, true_and, and_false, false_and, if_true, if_false, ↓gI_ok, ↓gL_ok, ↓gR_ok, ↓pI_ok, ↓pL_ok, ↓pR_ok, ↓rcv_ok, ↓nz_ok, ↓nz_no, ↓aI_n, ↓aL_n, ↓aR_n, ↓sI_n, ↓sL_n, ↓sR_n, ↓cl_ok, ↓bz_0, ↓bz_1, hT_wI, hT_wL, hT_wR, hT_wLr, hR_wI, hR_wL, hR_wLr, hI_wL, hI_wR, hI_wLr, hL_wI, hL_wR, nI_add, nI_1, pk_mul, if_lt, if_eq, if_eqL, ie_0, ie_1, il_0, il_1, ir_0, ir_1, ie_m, il_m, bz_b, ib_0, i_10, i_01, i_0m, i_1m, i_m0, i_ml0, b2i_if, bz_i, nI_p1, nl_2, nl_3, nl_4, nl_5, nl_6, nl_7, nl_8, nl_9, nl_10, nl_11, nl_12, nl_13, nl_14, nl_15, nl_16, nl_17, nl_18, nl_19, nl_20, nl_21, nl_22, nl_23, nl_24, nl_25, nl_26, nl_27, nl_28, nl_29, nl_30, nl_31, nl_32, nl_33, nl_34, nl_35, nl_36, nl_37, nl_38, nl_39, nl_40, nl_41, nl_42, nl_43, nl_44, nl_45, nl_46, nl_47, nl_48, nl_49, nl_50, nl_51, nl_52, nl_53, nl_54, nl_55, nl_56, nl_57, nl_58, nl_59, nl_60, nl_61, nl_62, nl_63, nl_64, nl_100, nl_480, nl_1020, nl_3000, g1', g2', j2]
            rw [show (0 : Int32) = nI 0 from rfl, k_holds ug' (show 0 < 8 by omega) (show x < 16 by omega), cl_ok]
            by_cases z : t.2.2.1 i x = 0
            · simp only [z, not_true, if_true, if_false]
              exact fin
            · simp only [z, not_false_eq_true, if_true, if_false]
              exact ok_some ⟨rfl, ff, (d', t.2.1 i, t.2.2.1 i), ug', fun z => by cases z⟩
          · by_cases c34 : p_op P m i = 34
            · have ha : wi (p_A P m i) 6 = true := by
                have := hod
                rw [c34] at this
                simp [j_od] at this; exact this
              obtain ⟨x, hx, ex, ex2⟩ := wi_ex (by decide) ha
              rw [ex2] at fin ⊢
              rw [ex] at fin ⊢
              simp only [c34, Nat.reduceEqDiff, false_and, or_self, true_and, if_false] at fin ⊢
              simp (disch := first | assumption | omega | decide | (simp only [hT_wI, hT_wL, hT_wR, hT_wLr, g1', g2']; assumption)) only [↓reduceIte, Nat.reduceEqDiff, Nat.reduceLT, Nat.reduceLeDiff, Nat.reduceAdd, Nat.reduceSub, Nat.reduceMul, or_self, or_true, true_or, or_false, false_or, and_self, and_true, true_and, and_false, false_and, if_true, if_false, ↓gI_ok, ↓gL_ok, ↓gR_ok, ↓pI_ok, ↓pL_ok, ↓pR_ok, ↓rcv_ok, ↓nz_ok, ↓nz_no, ↓aI_n, ↓aL_n, ↓aR_n, ↓sI_n, ↓sL_n, ↓sR_n, ↓cl_ok, ↓bz_0, ↓bz_1, hT_wI, hT_wL, hT_wR, hT_wLr, hR_wI, hR_wL, hR_wLr, hI_wL, hI_wR, hI_wLr, hL_wI, hL_wR, nI_add, nI_1, pk_mul, if_lt, if_eq, if_eqL, ie_0, ie_1, il_0, il_1, ir_0, ir_1, ie_m, il_m, bz_b, ib_0, i_10, i_01, i_0m, i_1m, i_m0, i_ml0, b2i_if, bz_i, nI_p1, nl_2, nl_3, nl_4, nl_5, nl_6, nl_7, nl_8, nl_9, nl_10, nl_11, nl_12, nl_13, nl_14, nl_15, nl_16, nl_17, nl_18, nl_19, nl_20, nl_21, nl_22, nl_23, nl_24, nl_25, nl_26, nl_27, nl_28, nl_29, nl_30, nl_31, nl_32, nl_33, nl_34, nl_35, nl_36, nl_37, nl_38, nl_39, nl_40, nl_41, nl_42, nl_43, nl_44, nl_45, nl_46, nl_47, nl_48, nl_49, nl_50, nl_51, nl_52, nl_53, nl_54, nl_55, nl_56, nl_57, nl_58, nl_59, nl_60, nl_61, nl_62, nl_63, nl_64, nl_100, nl_480, nl_1020, nl_3000, g1', g2', c0']
              by_cases z : x = p_re P m
              · rw [if_pos z, if_neg (fun y => y z)]
                exact fin
              · rw [if_neg z, if_pos z]
                exact ok_some ⟨rfl, ff, (d', t.2.1 i, t.2.2.1 i), ug', fun z => by cases z⟩
            · rw [if_neg c5, nl_7, if_eq (by omega) (by decide), if_neg c7, nl_34, if_eq (by omega) (by decide), if_neg c34, if_neg (by omega), if_neg (by omega)]
              exact fin
      · rw [ht, if_pos rfl]
        exact ok_some ⟨rfl, ff, (d', t.2.1 i, t.2.2.1 i), ug', fun z => by cases z⟩
end JC
