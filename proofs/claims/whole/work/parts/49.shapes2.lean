/-! Shapes: a shape comes to an operation -/
abbrev Sh : Type := Nat × (Nat → Nat) × (Nat → Nat)
def cmL (l l' : Nat → Nat) : Nat → Nat := fun j => if l j = l' j then l j else 5
def chg (l l' : Nat → Nat) : Bool := (List.range 16).any (fun j => decide (l j ≠ 5 ∧ l j ≠ l' j))
def likeS (d : Nat) (σ σ' : Nat → Nat) : Bool := (List.range d).all (fun k => decide (σ k = σ' k))
theorem chg_iff {l l' : Nat → Nat} : chg l l' = true ↔ ∃ j, j < 16 ∧ l j ≠ 5 ∧ l j ≠ l' j := by
  simp only [chg, List.any_eq_true, List.mem_range, decide_eq_true_eq]
theorem likeS_iff {d : Nat} {σ σ' : Nat → Nat} : likeS d σ σ' = true ↔ ∀ k, k < d → σ k = σ' k := by
  simp only [likeS, List.all_eq_true, List.mem_range, decide_eq_true_eq]
def tb_set (t : Tab) (i : Nat) (s : Sh) : Tab := (va_up t.1 i (some s.1), va_up t.2.1 i s.2.1, va_up t.2.2.1 i s.2.2, va_up t.2.2.2 i true)
def tb_mod (t : Tab) (i : Nat) (l : Nat → Nat) : Tab := (t.1, t.2.1, va_up t.2.2.1 i l, va_up t.2.2.2 i true)
def come (t : Tab) (i : Nat) (s : Sh) : Bool × Tab := match t.1 i with
  | none => (true, tb_set t i s)
  | some d => if d = s.1 ∧ likeS d (t.2.1 i) s.2.1 = true then (true, if chg (t.2.2.1 i) s.2.2 = true then tb_mod t i (dh (cmL (t.2.2.1 i) s.2.2)) else t) else (false, t)
theorem cp_0l {α : Type} {h : Hp} {a0 a1 n0 n1 dp x : Nat} {c : Hp → Option α} (t0 : hT h a0 = some (.inr (.long, n0))) (t1 : hT h a1 = some (.inr (.long, n1))) (h0 : x ≤ n0) (h1 : dp + x ≤ n1) (b0 : n0 < 2 ^ 31) (b1 : n1 < 2 ^ 31) : cp h (some a0) 0 (some a1) (nI dp) (nI x) c = c (wLr h a1 (va_cpy (hL h a0) (hL h a1) 0 dp x)) := cp_ok (sp := 0) t0 t1 (by omega) h1 b0 b1
theorem k_keep {h : Hp} {sh dp sk lc du s w wa la d i : Nat} {t : Tab} {σ l : Nat → Nat} (v : Tv h sh dp sk lc du t) (u : Sv h s w wa la d σ l) (hi : i < 60) (hd : d ≤ 12) (hap : ∀ b, Asv w wa la b → ¬ At dp sk lc du b) : Ok (FX6_keep (some sh) (nI i) (some s) h) (fun _ g => Tv g sh dp sk lc du (va_up t.1 i (some d), va_up t.2.1 i σ, va_up t.2.2.1 i l, t.2.2.2) ∧ Fr (At dp sk lc du) h g) := by
  obtain ⟨a1, ⟨r0, r1, r2, r3⟩, ⟨t0, t1, t2, t3⟩, a4, a5, a6⟩ := v
  obtain ⟨s1, s2, s3, s4, s5, s6, s7, s8, s9, s10⟩ := u
  obtain ⟨w1, w2, w3, w4, w5, w6, w7⟩ := s7
  unfold FX6_keep
  have n1 : ¬ la = sk := fun e => hap la (Or.inr (Or.inr rfl)) (Or.inr (Or.inl e))
  simp (disch := first | assumption | omega | decide | (simp only [hT_wI, hT_wL, hT_wR, hT_wLr]; assumption)) only [↓reduceIte, Nat.reduceEqDiff, Nat.reduceLT, Nat.reduceLeDiff, Nat.reduceAdd, Nat.reduceSub, Nat.reduceMul, or_self, or_true, true_or, or_false, false_or, and_self, and_true, true_and, and_false, false_and, if_true, if_false, ↓gI_ok, ↓gL_ok, ↓gR_ok, ↓pI_ok, ↓pL_ok, ↓pR_ok, ↓rcv_ok, ↓nz_ok, ↓nz_no, ↓aI_n, ↓aL_n, ↓aR_n, ↓sI_n, ↓sL_n, ↓sR_n, ↓cl_ok, ↓bz_0, ↓bz_1, hT_wI, hT_wL, hT_wR, hT_wLr, hR_wI, hR_wL, hR_wLr, hI_wL, hI_wR, hI_wLr, hL_wI, hL_wR, nI_add, nI_1, pk_mul, if_lt, if_eq, if_eqL, ie_0, ie_1, il_0, il_1, ir_0, ir_1, ie_m, il_m, bz_b, ib_0, i_10, i_01, i_0m, i_1m, i_m0, i_ml0, b2i_if, bz_i, nI_p1, nl_2, nl_3, nl_4, nl_5, nl_6, nl_7, nl_8, nl_9, nl_10, nl_11, nl_12, nl_13, nl_14, nl_15, nl_16, nl_17, nl_18, nl_19, nl_20, nl_21, nl_22, nl_23, nl_24, nl_25, nl_26, nl_27, nl_28, nl_29, nl_30, nl_31, nl_32, nl_33, nl_34, nl_35, nl_36, nl_37, nl_38, nl_39, nl_40, nl_41, nl_42, nl_43, nl_44, nl_45, nl_46, nl_47, nl_48, nl_49, nl_50, nl_51, nl_52, nl_53, nl_54, nl_55, nl_56, nl_57, nl_58, nl_59, nl_60, nl_61, nl_62, nl_63, nl_64, nl_100, nl_480, nl_1020, nl_3000, r0, r1, r2, r3, s2, s3, w2, w5, cp_0l]
  refine ok_some ⟨⟨a1, ⟨r0, r1, r2, r3⟩, ⟨t0, t1, t2, t3⟩, a4, fun j hj => ?_, fun j e hj he => ?_⟩, ((Fr.wI (Or.inl rfl)).trans (Fr.wLr (Or.inr (Or.inl rfl)))).trans (Fr.wLr (Or.inr (Or.inr (Or.inl rfl))))⟩
  · have := a5 j hj
    refine ⟨?_, ?_⟩
    · show hI (wI h dp i (nI d)) dp j = d2i (va_up t.1 i (some d) j)
      unfold va_up
      by_cases c : j = i
      · subst c; rw [hI_wI_s, if_pos rfl]; rfl
      · rw [hI_wI_k c, if_neg c]; exact this.1
    · show hI (wI h dp i (nI d)) du j = _
      rw [hI_wI_a (Ne.symm a4.1)]; exact this.2
  · have ek : ∀ k, k < 12 → hL (wLr (wLr (wI h dp i (nI d)) sk (va_cpy (hL h wa) (hL h sk) 0 (i * 12) 12)) lc (va_cpy (hL (wLr (wI h dp i (nI d)) sk (va_cpy (hL h wa) (hL h sk) 0 (i * 12) 12)) la) (hL (wLr (wI h dp i (nI d)) sk (va_cpy (hL h wa) (hL h sk) 0 (i * 12) 12)) lc) 0 (i * 16) 16)) sk (12 * j + k) = if j = i then hL h wa k else hL h sk (12 * j + k) := fun k hk => by
      rw [hL_wLr_a a4.2.1, hL_wLr_s]
      by_cases c : j = i
      · subst c; rw [pk_cpy_in (by omega) (by omega), if_pos rfl]; congr 1; omega
      · rw [pk_cpy_out (by omega), if_neg c]
    have el : ∀ k, k < 16 → hL (wLr (wLr (wI h dp i (nI d)) sk (va_cpy (hL h wa) (hL h sk) 0 (i * 12) 12)) lc (va_cpy (hL (wLr (wI h dp i (nI d)) sk (va_cpy (hL h wa) (hL h sk) 0 (i * 12) 12)) la) (hL (wLr (wI h dp i (nI d)) sk (va_cpy (hL h wa) (hL h sk) 0 (i * 12) 12)) lc) 0 (i * 16) 16)) lc (16 * j + k) = if j = i then hL h la k else hL h lc (16 * j + k) := fun k hk => by
      rw [hL_wLr_s]
      by_cases c : j = i
      · subst c; rw [pk_cpy_in (by omega) (by omega), if_pos rfl, hL_wLr_a n1]
        show hL h la _ = _
        congr 1; omega
      · rw [pk_cpy_out (by omega), if_neg c, hL_wLr_a (Ne.symm a4.2.1)]
        rfl
    by_cases c : j = i
    · subst c
      have e1 : e = d := by
        simp only [va_up, if_true] at he
        injection he with he
        exact he.symm
      subst e1
      refine ⟨hd, fun k hk => ?_, fun k hk => ?_⟩
      · rw [ek k (by omega), if_pos rfl]
        simp only [va_up, if_true]
        exact ⟨w7 k hk, s10 k hk⟩
      · rw [el k hk, if_pos rfl]
        simp only [va_up, if_true]
        exact ⟨s8 k hk, s9 k hk⟩
    · have he' : t.1 j = some e := by
        simp only [va_up, if_neg c] at he
        exact he
      obtain ⟨b1, b2, b3⟩ := a6 j e hj he'
      refine ⟨b1, fun k hk => ?_, fun k hk => ?_⟩
      · rw [ek k (by omega), if_neg c]
        simp only [va_up, if_neg c]
        exact b2 k hk
      · rw [el k hk, if_neg c]
        simp only [va_up, if_neg c]
        exact b3 k hk
theorem is_loop {h : Hp} {sh dp sk lc du s w wa la d i : Nat} {t : Tab} {σ l : Nat → Nat} (v : Tv h sh dp sk lc du t) (u : Sv h s w wa la d σ l) (hi : i < 60) (hd : t.1 i = some d) : ∀ (n k : Nat), k ≤ d → d - k < n → (∀ j, j < k → t.2.1 i j = σ j) → BX6_isStack_17 n (some sh) (nI i) (some w) (nI k) h = some (b2i (likeS d (t.2.1 i) σ), h) := by
  obtain ⟨a1, ⟨r0, r1, r2, r3⟩, ⟨t0, t1, t2, t3⟩, a4, a5, a6⟩ := v
  obtain ⟨s1, s2, s3, s4, s5, s6, s7, s8, s9, s10⟩ := u
  obtain ⟨w1, w2, w3, w4, w5, w6, w7⟩ := id s7
  obtain ⟨b1, b2, b3⟩ := a6 i d hi hd
  intro n
  induction n with
  | zero => intro k h1 h2; omega
  | succ n ih =>
    intro k h1 h2 hk
    unfold BX6_isStack_17
    by_cases c : k < d
    · have b2' := (b2 k c).1
      rw [Nat.mul_comm] at b2'
      simp (disch := first | assumption | omega | decide | (simp only [hT_wI, hT_wL, hT_wR, hT_wLr]; assumption)) only [↓reduceIte, Nat.reduceEqDiff, Nat.reduceLT, Nat.reduceLeDiff, Nat.reduceAdd, Nat.reduceSub, Nat.reduceMul, or_self, or_true, true_or, or_false, false_or, and_self, and_true, true_and, and_false, false_and, if_true, if_false, ↓gI_ok, ↓gL_ok, ↓gR_ok, ↓pI_ok, ↓pL_ok, ↓pR_ok, ↓rcv_ok, ↓nz_ok, ↓nz_no, ↓aI_n, ↓aL_n, ↓aR_n, ↓sI_n, ↓sL_n, ↓sR_n, ↓cl_ok, ↓bz_0, ↓bz_1, hT_wI, hT_wL, hT_wR, hT_wLr, hR_wI, hR_wL, hR_wLr, hI_wL, hI_wR, hI_wLr, hL_wI, hL_wR, nI_add, nI_1, pk_mul, if_lt, if_eq, if_eqL, ie_0, ie_1, il_0, il_1, ir_0, ir_1, ie_m, il_m, bz_b, ib_0, i_10, i_01, i_0m, i_1m, i_m0, i_ml0, b2i_if, bz_i, nI_p1, nl_2, nl_3, nl_4, nl_5, nl_6, nl_7, nl_8, nl_9, nl_10, nl_11, nl_12, nl_13, nl_14, nl_15, nl_16, nl_17, nl_18, nl_19, nl_20, nl_21, nl_22, nl_23, nl_24, nl_25, nl_26, nl_27, nl_28, nl_29, nl_30, nl_31, nl_32, nl_33, nl_34, nl_35, nl_36, nl_37, nl_38, nl_39, nl_40, nl_41, nl_42, nl_43, nl_44, nl_45, nl_46, nl_47, nl_48, nl_49, nl_50, nl_51, nl_52, nl_53, nl_54, nl_55, nl_56, nl_57, nl_58, nl_59, nl_60, nl_61, nl_62, nl_63, nl_64, nl_100, nl_480, nl_1020, nl_3000, r1, w5]
      rw [if_pos c, k_at s7 c]
      simp (disch := first | assumption | omega | decide | (simp only [hT_wI, hT_wL, hT_wR, hT_wLr]; assumption)) only [↓reduceIte, Nat.reduceEqDiff, Nat.reduceLT, Nat.reduceLeDiff, Nat.reduceAdd, Nat.reduceSub, Nat.reduceMul, or_self, or_true, true_or, or_false, false_or, and_self, and_true, true_and, and_false, false_and, if_true, if_false, ↓gI_ok, ↓gL_ok, ↓gR_ok, ↓pI_ok, ↓pL_ok, ↓pR_ok, ↓rcv_ok, ↓nz_ok, ↓nz_no, ↓aI_n, ↓aL_n, ↓aR_n, ↓sI_n, ↓sL_n, ↓sR_n, ↓cl_ok, ↓bz_0, ↓bz_1, hT_wI, hT_wL, hT_wR, hT_wLr, hR_wI, hR_wL, hR_wLr, hI_wL, hI_wR, hI_wLr, hL_wI, hL_wR, nI_add, nI_1, pk_mul, if_lt, if_eq, if_eqL, ie_0, ie_1, il_0, il_1, ir_0, ir_1, ie_m, il_m, bz_b, ib_0, i_10, i_01, i_0m, i_1m, i_m0, i_ml0, b2i_if, bz_i, nI_p1, nl_2, nl_3, nl_4, nl_5, nl_6, nl_7, nl_8, nl_9, nl_10, nl_11, nl_12, nl_13, nl_14, nl_15, nl_16, nl_17, nl_18, nl_19, nl_20, nl_21, nl_22, nl_23, nl_24, nl_25, nl_26, nl_27, nl_28, nl_29, nl_30, nl_31, nl_32, nl_33, nl_34, nl_35, nl_36, nl_37, nl_38, nl_39, nl_40, nl_41, nl_42, nl_43, nl_44, nl_45, nl_46, nl_47, nl_48, nl_49, nl_50, nl_51, nl_52, nl_53, nl_54, nl_55, nl_56, nl_57, nl_58, nl_59, nl_60, nl_61, nl_62, nl_63, nl_64, nl_100, nl_480, nl_1020, nl_3000, b2']
      have b8 := (b2 k c).2
      have s11 := s10 k c
      simp (disch := first | assumption | omega | decide | (simp only [hT_wI, hT_wL, hT_wR, hT_wLr]; assumption)) only [↓reduceIte, Nat.reduceEqDiff, Nat.reduceLT, Nat.reduceLeDiff, Nat.reduceAdd, Nat.reduceSub, Nat.reduceMul, or_self, or_true, true_or, or_false, false_or, and_self, and_true, true_and, and_false, false_and, if_true, if_false, ↓gI_ok, ↓gL_ok, ↓gR_ok, ↓pI_ok, ↓pL_ok, ↓pR_ok, ↓rcv_ok, ↓nz_ok, ↓nz_no, ↓aI_n, ↓aL_n, ↓aR_n, ↓sI_n, ↓sL_n, ↓sR_n, ↓cl_ok, ↓bz_0, ↓bz_1, hT_wI, hT_wL, hT_wR, hT_wLr, hR_wI, hR_wL, hR_wLr, hI_wL, hI_wR, hI_wLr, hL_wI, hL_wR, nI_add, nI_1, pk_mul, if_lt, if_eq, if_eqL, ie_0, ie_1, il_0, il_1, ir_0, ir_1, ie_m, il_m, bz_b, ib_0, i_10, i_01, i_0m, i_1m, i_m0, i_ml0, b2i_if, bz_i, nI_p1, nl_2, nl_3, nl_4, nl_5, nl_6, nl_7, nl_8, nl_9, nl_10, nl_11, nl_12, nl_13, nl_14, nl_15, nl_16, nl_17, nl_18, nl_19, nl_20, nl_21, nl_22, nl_23, nl_24, nl_25, nl_26, nl_27, nl_28, nl_29, nl_30, nl_31, nl_32, nl_33, nl_34, nl_35, nl_36, nl_37, nl_38, nl_39, nl_40, nl_41, nl_42, nl_43, nl_44, nl_45, nl_46, nl_47, nl_48, nl_49, nl_50, nl_51, nl_52, nl_53, nl_54, nl_55, nl_56, nl_57, nl_58, nl_59, nl_60, nl_61, nl_62, nl_63, nl_64, nl_100, nl_480, nl_1020, nl_3000]
      by_cases e : t.2.1 i k = σ k
      · rw [if_pos e]
        exact ih (k + 1) (by omega) (by omega) (fun j hj => by
          by_cases e2 : j = k
          · subst e2; exact e
          · exact hk j (by omega))
      · rw [if_neg e]
        have : likeS d (t.2.1 i) σ = false := by
          rw [← Bool.not_eq_true, likeS_iff]
          exact fun z => e (z k c)
        rw [this]; rfl
    · simp (disch := first | assumption | omega | decide | (simp only [hT_wI, hT_wL, hT_wR, hT_wLr]; assumption)) only [↓reduceIte, Nat.reduceEqDiff, Nat.reduceLT, Nat.reduceLeDiff, Nat.reduceAdd, Nat.reduceSub, Nat.reduceMul, or_self, or_true, true_or, or_false, false_or, and_self, and_true, true_and, and_false, false_and, if_true, if_false, ↓gI_ok, ↓gL_ok, ↓gR_ok, ↓pI_ok, ↓pL_ok, ↓pR_ok, ↓rcv_ok, ↓nz_ok, ↓nz_no, ↓aI_n, ↓aL_n, ↓aR_n, ↓sI_n, ↓sL_n, ↓sR_n, ↓cl_ok, ↓bz_0, ↓bz_1, hT_wI, hT_wL, hT_wR, hT_wLr, hR_wI, hR_wL, hR_wLr, hI_wL, hI_wR, hI_wLr, hL_wI, hL_wR, nI_add, nI_1, pk_mul, if_lt, if_eq, if_eqL, ie_0, ie_1, il_0, il_1, ir_0, ir_1, ie_m, il_m, bz_b, ib_0, i_10, i_01, i_0m, i_1m, i_m0, i_ml0, b2i_if, bz_i, nI_p1, nl_2, nl_3, nl_4, nl_5, nl_6, nl_7, nl_8, nl_9, nl_10, nl_11, nl_12, nl_13, nl_14, nl_15, nl_16, nl_17, nl_18, nl_19, nl_20, nl_21, nl_22, nl_23, nl_24, nl_25, nl_26, nl_27, nl_28, nl_29, nl_30, nl_31, nl_32, nl_33, nl_34, nl_35, nl_36, nl_37, nl_38, nl_39, nl_40, nl_41, nl_42, nl_43, nl_44, nl_45, nl_46, nl_47, nl_48, nl_49, nl_50, nl_51, nl_52, nl_53, nl_54, nl_55, nl_56, nl_57, nl_58, nl_59, nl_60, nl_61, nl_62, nl_63, nl_64, nl_100, nl_480, nl_1020, nl_3000, w5]
      rw [if_neg c]
      have : likeS d (t.2.1 i) σ = true := likeS_iff.mpr (fun j hj => hk j (by omega))
      rw [this]; rfl
theorem k_isStack {h : Hp} {sh dp sk lc du s w wa la d e i : Nat} {t : Tab} {σ l : Nat → Nat} (v : Tv h sh dp sk lc du t) (u : Sv h s w wa la d σ l) (hi : i < 60) (he : t.1 i = some e) : FX6_isStack (some sh) (nI i) (some w) h = some (b2i (decide (e = d ∧ likeS e (t.2.1 i) σ = true)), h) := by
  obtain ⟨a1, ⟨r0, r1, r2, r3⟩, ⟨t0, t1, t2, t3⟩, a4, a5, a6⟩ := id v
  obtain ⟨s1, s2, s3, s4, s5, s6, s7, s8, s9, s10⟩ := id u
  obtain ⟨w1, w2, w3, w4, w5, w6, w7⟩ := id s7
  obtain ⟨b1, b2, b3⟩ := a6 i e hi he
  have e1 := (a5 i hi).1
  rw [he] at e1
  have e2 : hI h dp i = nI e := e1
  unfold FX6_isStack
  simp (disch := first | assumption | omega | decide | (simp only [hT_wI, hT_wL, hT_wR, hT_wLr]; assumption)) only [↓reduceIte, Nat.reduceEqDiff, Nat.reduceLT, Nat.reduceLeDiff, Nat.reduceAdd, Nat.reduceSub, Nat.reduceMul, or_self, or_true, true_or, or_false, false_or, and_self, and_true, true_and, and_false, false_and, if_true, if_false, ↓gI_ok, ↓gL_ok, ↓gR_ok, ↓pI_ok, ↓pL_ok, ↓pR_ok, ↓rcv_ok, ↓nz_ok, ↓nz_no, ↓aI_n, ↓aL_n, ↓aR_n, ↓sI_n, ↓sL_n, ↓sR_n, ↓cl_ok, ↓bz_0, ↓bz_1, hT_wI, hT_wL, hT_wR, hT_wLr, hR_wI, hR_wL, hR_wLr, hI_wL, hI_wR, hI_wLr, hL_wI, hL_wR, nI_add, nI_1, pk_mul, if_lt, if_eq, if_eqL, ie_0, ie_1, il_0, il_1, ir_0, ir_1, ie_m, il_m, bz_b, ib_0, i_10, i_01, i_0m, i_1m, i_m0, i_ml0, b2i_if, bz_i, nI_p1, nl_2, nl_3, nl_4, nl_5, nl_6, nl_7, nl_8, nl_9, nl_10, nl_11, nl_12, nl_13, nl_14, nl_15, nl_16, nl_17, nl_18, nl_19, nl_20, nl_21, nl_22, nl_23, nl_24, nl_25, nl_26, nl_27, nl_28, nl_29, nl_30, nl_31, nl_32, nl_33, nl_34, nl_35, nl_36, nl_37, nl_38, nl_39, nl_40, nl_41, nl_42, nl_43, nl_44, nl_45, nl_46, nl_47, nl_48, nl_49, nl_50, nl_51, nl_52, nl_53, nl_54, nl_55, nl_56, nl_57, nl_58, nl_59, nl_60, nl_61, nl_62, nl_63, nl_64, nl_100, nl_480, nl_1020, nl_3000, r0, w5, e2]
  by_cases c : e = d
  · subst c
    rw [if_pos rfl, nI_c0, is_loop v u hi he 100000 0 (by omega) (by omega) (fun j hj => by omega)]
    simp only [true_and, Bool.decide_eq_true]
  · rw [if_neg c]
    simp only [c, false_and, decide_false]
    rfl
/-- locals of a row after j of them have been held against others -/
def cmJ (l l' : Nat → Nat) (j : Nat) : Nat → Nat := fun i => if i < j then cmL l l' i else l i
def chJ (l l' : Nat → Nat) (j : Nat) : Bool := (List.range j).any (fun i => decide (l i ≠ 5 ∧ l i ≠ l' i))
theorem chJ_succ (l l' : Nat → Nat) (j : Nat) : chJ l l' (j + 1) = (chJ l l' j || decide (l j ≠ 5 ∧ l j ≠ l' j)) := by
  simp only [chJ, List.range_succ, List.any_append, List.any_cons, List.any_nil, Bool.or_false]
theorem cmJ_lt {l l' : Nat → Nat} (hl : ∀ j, j < 16 → l j < 8) {j i : Nat} (hi : i < 16) : cmJ l l' j i < 8 := by
  have := hl i hi
  unfold cmJ cmL
  split
  · split <;> omega
  · exact this
theorem jl_loop {sh sk la lc row : Nat} {l l' : Nat → Nat} (hrow : row + 16 ≤ 960) (hll : lc ≠ la) (hl : ∀ j, j < 16 → l j < 8) (hl' : ∀ j, j < 16 → l' j < 8) : ∀ (n j : Nat) (h : Hp), j ≤ 16 → 16 - j < n → hT h sh = some (.inl 5) → hR h sh 2 = some lc → hT h lc = some (.inr (.long, 960)) → hT h la = some (.inr (.long, 16)) → (∀ i, i < 16 → hL h la i = lN (l' i)) → (∀ i, i < 16 → hL h lc (row + i) = lN (cmJ l l' j i)) →
    Ok (BX6_joinLocals_5 n (some sh) (nI row) (some la) (b2i (chJ l l' j)) (nI j) h) (fun r g => r = b2i (chg l l') ∧ Fr (fun b => b = lc) h g ∧ (∀ i, i < 16 → hL g lc (row + i) = lN (if chg l l' = true then dh (cmL l l') i else l i)) ∧ ∀ i, (i < row ∨ row + 16 ≤ i) → hL g lc i = hL h lc i) := by
  intro n
  induction n with
  | zero => intro j h h1 h2; omega
  | succ n ih =>
    intro j h h1 h2 a1 a2 a3 a4 c1 c2
    unfold BX6_joinLocals_5
    by_cases c : j < 16
    · have e1 := c2 j c
      have e2 := c1 j c
      have e3 : cmJ l l' j j = l j := by unfold cmJ; rw [if_neg (by omega)]
      rw [e3] at e1
      have l1 := hl j c
      have l2 := hl' j c
      have goOn : ∀ g, (hT g = hT h) → (hR g = hR h) → (∀ i, i < 16 → hL g la i = lN (l' i)) → (∀ i, i < 16 → hL g lc (row + i) = lN (cmJ l l' (j + 1) i)) → Fr (fun b => b = lc) h g → (∀ i, (i < row ∨ row + 16 ≤ i) → hL g lc i = hL h lc i) → Ok (BX6_joinLocals_5 n (some sh) (nI row) (some la) (b2i (chJ l l' (j + 1))) (nI (j + 1)) g) (fun r g => r = b2i (chg l l') ∧ Fr (fun b => b = lc) h g ∧ (∀ i, i < 16 → hL g lc (row + i) = lN (if chg l l' = true then dh (cmL l l') i else l i)) ∧ ∀ i, (i < row ∨ row + 16 ≤ i) → hL g lc i = hL h lc i) := by
        intro g g1 g2 g3 g4 g5 g6
        refine (ih (j + 1) g (by omega) (by omega) (by rw [g1]; exact a1) (by rw [g2]; exact a2) (by rw [g1]; exact a3) (by rw [g1]; exact a4) g3 g4).mono (fun r k q => ⟨q.1, g5.trans q.2.1, q.2.2.1, fun i hi => (q.2.2.2 i hi).trans (g6 i hi)⟩)
      have same : ¬ (l j ≠ 5 ∧ l j ≠ l' j) → ∀ i, i < 16 → hL h lc (row + i) = lN (cmJ l l' (j + 1) i) := by
        intro z i hi
        rw [c2 i hi]
        congr 1
        unfold cmJ
        by_cases e : i = j
        · subst e
          rw [if_neg (by omega), if_pos (by omega)]
          unfold cmL
          by_cases e5 : l i = l' i
          · rw [if_pos e5]
          · rw [if_neg e5]; omega
        · by_cases e6 : i < j
          · rw [if_pos e6, if_pos (by omega)]
          · rw [if_neg e6, if_neg (by omega)]
      simp (disch := first | assumption | omega | decide | (simp only [hT_wI, hT_wL, hT_wR, hT_wLr]; assumption)) only [↓reduceIte, Nat.reduceEqDiff, Nat.reduceLT, Nat.reduceLeDiff, Nat.reduceAdd, Nat.reduceSub, Nat.reduceMul, or_self, or_true, true_or, or_false, false_or, and_self, and_true, true_and, and_false, false_and, if_true, if_false, ↓gI_ok, ↓gL_ok, ↓gR_ok, ↓pI_ok, ↓pL_ok, ↓pR_ok, ↓rcv_ok, ↓nz_ok, ↓nz_no, ↓aI_n, ↓aL_n, ↓aR_n, ↓sI_n, ↓sL_n, ↓sR_n, ↓cl_ok, ↓bz_0, ↓bz_1, hT_wI, hT_wL, hT_wR, hT_wLr, hR_wI, hR_wL, hR_wLr, hI_wL, hI_wR, hI_wLr, hL_wI, hL_wR, nI_add, nI_1, pk_mul, if_lt, if_eq, if_eqL, ie_0, ie_1, il_0, il_1, ir_0, ir_1, ie_m, il_m, bz_b, ib_0, i_10, i_01, i_0m, i_1m, i_m0, i_ml0, b2i_if, bz_i, nI_p1, nl_2, nl_3, nl_4, nl_5, nl_6, nl_7, nl_8, nl_9, nl_10, nl_11, nl_12, nl_13, nl_14, nl_15, nl_16, nl_17, nl_18, nl_19, nl_20, nl_21, nl_22, nl_23, nl_24, nl_25, nl_26, nl_27, nl_28, nl_29, nl_30, nl_31, nl_32, nl_33, nl_34, nl_35, nl_36, nl_37, nl_38, nl_39, nl_40, nl_41, nl_42, nl_43, nl_44, nl_45, nl_46, nl_47, nl_48, nl_49, nl_50, nl_51, nl_52, nl_53, nl_54, nl_55, nl_56, nl_57, nl_58, nl_59, nl_60, nl_61, nl_62, nl_63, nl_64, nl_100, nl_480, nl_1020, nl_3000, a2, e1, e2]
      rw [if_pos c]
      by_cases d1 : l j = l' j
      · rw [if_pos d1]
        unfold BX6_joinLocals_59
        have ec : chJ l l' (j + 1) = chJ l l' j := by rw [chJ_succ]; simp [d1]
        rw [nI_1, ← ec]
        exact goOn h rfl rfl c1 (same (by omega)) (Fr.refl _ _) (fun _ _ => rfl)
      · rw [if_neg d1, show (5 : Int64) = lN 5 from rfl, if_eqL (by omega) (by omega)]
        unfold BX6_joinLocals_59
        by_cases d2 : l j = 5
        · rw [if_pos d2]
          have ec : chJ l l' (j + 1) = chJ l l' j := by rw [chJ_succ]; simp [d2]
          rw [nI_1, ← ec]
          exact goOn h rfl rfl c1 (same (by omega)) (Fr.refl _ _) (fun _ _ => rfl)
        · rw [if_neg d2]
          have ec : b2i (chJ l l' (j + 1)) = 1 := by rw [chJ_succ]; simp [d1, d2, b2i]
          rw [nI_1, ← ec]
          refine goOn _ rfl rfl (fun i hi => ?_) (fun i hi => ?_) (Fr.wL (A := fun b => b = lc) rfl) (fun i hi => hL_wL_k (by omega))
          · rw [hL_wL_a (Ne.symm hll)]; exact c1 i hi
          · by_cases e : i = j
            · subst e
              rw [hL_wL_s]
              unfold cmJ cmL
              rw [if_pos (by omega), if_neg d1]
            · rw [hL_wL_k (by omega), c2 i hi]
              congr 1
              unfold cmJ
              by_cases e6 : i < j
              · rw [if_pos e6, if_pos (by omega)]
              · rw [if_neg e6, if_neg (by omega)]
    · have ej : j = 16 := by omega
      subst ej
      have ec : chJ l l' 16 = chg l l' := rfl
      rw [nl_16, if_lt (by omega) (by omega), if_neg c, ec]
      cases hc : chg l l' with
      | false =>
        rw [show b2i false = 0 from rfl, if_pos rfl, bz_0]
        refine ok_some ⟨rfl, Fr.refl _ _, fun i hi => ?_, fun _ _ => rfl⟩
        rw [if_neg (by decide), c2 i hi]
        congr 1
        unfold cmJ cmL
        rw [if_pos hi]
        have : ¬ (l i ≠ 5 ∧ l i ≠ l' i) := fun z => by
          have := chg_iff.mpr ⟨i, hi, z⟩
          rw [hc] at this; cases this
        by_cases e5 : l i = l' i
        · rw [if_pos e5]
        · rw [if_neg e5]; omega
      | true =>
        rw [show b2i true = 1 from rfl, if_neg (by decide), gR_ok a1, a2]
        refine ok_cl (k_dropHalves (l := cmL l l') a3 hrow (by decide) (fun j hj => ?_) (fun i hi => ?_)) (fun _ g q => ?_)
        · have := hl j hj
          unfold cmL; split <;> omega
        · rw [c2 i hi]
          unfold cmJ
          rw [if_pos hi]
        · rw [bz_1]
          refine ok_some ⟨rfl, q.1, fun i hi => ?_, q.2.2⟩
          rw [if_pos rfl]
          exact q.2.1 i hi
theorem k_bring {h : Hp} {sh dp sk lc du s w wa la d i : Nat} {t : Tab} {σ l : Nat → Nat} (v : Tv h sh dp sk lc du t) (u : Sv h s w wa la d σ l) (hi : i < 60) (hd : d ≤ 12) (hap : ∀ b, Asv w wa la b → ¬ At dp sk lc du b) : Ok (FX6_bring (some sh) (nI i) (some s) h) (fun r g => r = b2i (come t i (d, σ, l)).1 ∧ Tv g sh dp sk lc du (come t i (d, σ, l)).2 ∧ Sv g s w wa la d σ l ∧ Fr (At dp sk lc du) h g) := by
  obtain ⟨a1, ⟨r0, r1, r2, r3⟩, ⟨t0, t1, t2, t3⟩, a4, a5, a6⟩ := id v
  obtain ⟨s1, s2, s3, s4, s5, s6, s7, s8, s9, s10⟩ := id u
  obtain ⟨w1, w2, w3, w4, w5, w6, w7⟩ := id s7
  have e1 := (a5 i hi).1
  have hs : ∀ g, Fr (At dp sk lc du) h g → Sv g s w wa la d σ l := fun g f => u.fr f (hap w (Or.inl rfl)) (hap wa (Or.inr (Or.inl rfl))) (hap la (Or.inr (Or.inr rfl)))
  unfold FX6_bring
  cases ht : t.1 i with
  | none =>
    rw [ht] at e1
    have e2 : hI h dp i = -1 := e1
    simp (disch := first | assumption | omega | decide | (simp only [hT_wI, hT_wL, hT_wR, hT_wLr]; assumption)) only [↓reduceIte, Nat.reduceEqDiff, Nat.reduceLT, Nat.reduceLeDiff, Nat.reduceAdd, Nat.reduceSub, Nat.reduceMul, or_self, or_true, true_or, or_false, false_or, and_self, and_true, true_and, and_false, false_and, if_true, if_false, ↓gI_ok, ↓gL_ok, ↓gR_ok, ↓pI_ok, ↓pL_ok, ↓pR_ok, ↓rcv_ok, ↓nz_ok, ↓nz_no, ↓aI_n, ↓aL_n, ↓aR_n, ↓sI_n, ↓sL_n, ↓sR_n, ↓cl_ok, ↓bz_0, ↓bz_1, hT_wI, hT_wL, hT_wR, hT_wLr, hR_wI, hR_wL, hR_wLr, hI_wL, hI_wR, hI_wLr, hL_wI, hL_wR, nI_add, nI_1, pk_mul, if_lt, if_eq, if_eqL, ie_0, ie_1, il_0, il_1, ir_0, ir_1, ie_m, il_m, bz_b, ib_0, i_10, i_01, i_0m, i_1m, i_m0, i_ml0, b2i_if, bz_i, nI_p1, nl_2, nl_3, nl_4, nl_5, nl_6, nl_7, nl_8, nl_9, nl_10, nl_11, nl_12, nl_13, nl_14, nl_15, nl_16, nl_17, nl_18, nl_19, nl_20, nl_21, nl_22, nl_23, nl_24, nl_25, nl_26, nl_27, nl_28, nl_29, nl_30, nl_31, nl_32, nl_33, nl_34, nl_35, nl_36, nl_37, nl_38, nl_39, nl_40, nl_41, nl_42, nl_43, nl_44, nl_45, nl_46, nl_47, nl_48, nl_49, nl_50, nl_51, nl_52, nl_53, nl_54, nl_55, nl_56, nl_57, nl_58, nl_59, nl_60, nl_61, nl_62, nl_63, nl_64, nl_100, nl_480, nl_1020, nl_3000, r0, e2]
    refine ok_cl (k_keep v u hi hd hap) (fun _ g q => ?_)
    obtain ⟨q1, f1⟩ := q
    obtain ⟨b1, ⟨br0, br1, br2, br3⟩, ⟨bt0, bt1, bt2, bt3⟩, b4, b5, b6⟩ := id q1
    rw [gR_ok b1, br3, sZ_n bt3 hi (by decide) (Or.inr rfl)]
    have f2 : Fr (At dp sk lc du) h (wI g du i 1) := f1.trans (Fr.wI (Or.inr (Or.inr (Or.inr rfl))))
    have ec : come t i (d, σ, l) = (true, tb_set t i (d, σ, l)) := by unfold come; rw [ht]
    rw [ec]
    refine ok_some ⟨rfl, ⟨b1, ⟨br0, br1, br2, br3⟩, ⟨bt0, bt1, bt2, bt3⟩, b4, fun j hj => ?_, b6⟩, hs _ f2, f2⟩
    have := b5 j hj
    refine ⟨?_, ?_⟩
    · rw [hI_wI_a b4.1]; exact this.1
    · show _ = b2i (va_up t.2.2.2 i true j)
      unfold va_up
      by_cases c : j = i
      · subst c; rw [hI_wI_s, if_pos rfl]; rfl
      · rw [hI_wI_k c, if_neg c]; exact this.2
  | some e =>
    rw [ht] at e1
    have e2 : hI h dp i = nI e := e1
    obtain ⟨b1, b2, b3⟩ := a6 i e hi ht
    simp (disch := first | assumption | omega | decide | (simp only [hT_wI, hT_wL, hT_wR, hT_wLr]; assumption)) only [↓reduceIte, Nat.reduceEqDiff, Nat.reduceLT, Nat.reduceLeDiff, Nat.reduceAdd, Nat.reduceSub, Nat.reduceMul, or_self, or_true, true_or, or_false, false_or, and_self, and_true, true_and, and_false, false_and, if_true, if_false, ↓gI_ok, ↓gL_ok, ↓gR_ok, ↓pI_ok, ↓pL_ok, ↓pR_ok, ↓rcv_ok, ↓nz_ok, ↓nz_no, ↓aI_n, ↓aL_n, ↓aR_n, ↓sI_n, ↓sL_n, ↓sR_n, ↓cl_ok, ↓bz_0, ↓bz_1, hT_wI, hT_wL, hT_wR, hT_wLr, hR_wI, hR_wL, hR_wLr, hI_wL, hI_wR, hI_wLr, hL_wI, hL_wR, nI_add, nI_1, pk_mul, if_lt, if_eq, if_eqL, ie_0, ie_1, il_0, il_1, ir_0, ir_1, ie_m, il_m, bz_b, ib_0, i_10, i_01, i_0m, i_1m, i_m0, i_ml0, b2i_if, bz_i, nI_p1, nl_2, nl_3, nl_4, nl_5, nl_6, nl_7, nl_8, nl_9, nl_10, nl_11, nl_12, nl_13, nl_14, nl_15, nl_16, nl_17, nl_18, nl_19, nl_20, nl_21, nl_22, nl_23, nl_24, nl_25, nl_26, nl_27, nl_28, nl_29, nl_30, nl_31, nl_32, nl_33, nl_34, nl_35, nl_36, nl_37, nl_38, nl_39, nl_40, nl_41, nl_42, nl_43, nl_44, nl_45, nl_46, nl_47, nl_48, nl_49, nl_50, nl_51, nl_52, nl_53, nl_54, nl_55, nl_56, nl_57, nl_58, nl_59, nl_60, nl_61, nl_62, nl_63, nl_64, nl_100, nl_480, nl_1020, nl_3000, r0, e2, s2]
    rw [k_isStack v u hi ht, cl_ok]
    by_cases c : e = d ∧ likeS e (t.2.1 i) σ = true
    · have ec : come t i (d, σ, l) = (true, if chg (t.2.2.1 i) l = true then tb_mod t i (dh (cmL (t.2.2.1 i) l)) else t) := by
        unfold come; rw [ht]; exact if_pos c
      rw [ec, decide_eq_true c, show b2i true = 1 from rfl, if_neg (by decide)]
      simp (disch := first | assumption | omega | decide | (simp only [hT_wI, hT_wL, hT_wR, hT_wLr]; assumption)) only [↓reduceIte, Nat.reduceEqDiff, Nat.reduceLT, Nat.reduceLeDiff, Nat.reduceAdd, Nat.reduceSub, Nat.reduceMul, or_self, or_true, true_or, or_false, false_or, and_self, and_true, true_and, and_false, false_and, if_true, if_false, ↓gI_ok, ↓gL_ok, ↓gR_ok, ↓pI_ok, ↓pL_ok, ↓pR_ok, ↓rcv_ok, ↓nz_ok, ↓nz_no, ↓aI_n, ↓aL_n, ↓aR_n, ↓sI_n, ↓sL_n, ↓sR_n, ↓cl_ok, ↓bz_0, ↓bz_1, hT_wI, hT_wL, hT_wR, hT_wLr, hR_wI, hR_wL, hR_wLr, hI_wL, hI_wR, hI_wLr, hL_wI, hL_wR, nI_add, nI_1, pk_mul, if_lt, if_eq, if_eqL, ie_0, ie_1, il_0, il_1, ir_0, ir_1, ie_m, il_m, bz_b, ib_0, i_10, i_01, i_0m, i_1m, i_m0, i_ml0, b2i_if, bz_i, nI_p1, nl_2, nl_3, nl_4, nl_5, nl_6, nl_7, nl_8, nl_9, nl_10, nl_11, nl_12, nl_13, nl_14, nl_15, nl_16, nl_17, nl_18, nl_19, nl_20, nl_21, nl_22, nl_23, nl_24, nl_25, nl_26, nl_27, nl_28, nl_29, nl_30, nl_31, nl_32, nl_33, nl_34, nl_35, nl_36, nl_37, nl_38, nl_39, nl_40, nl_41, nl_42, nl_43, nl_44, nl_45, nl_46, nl_47, nl_48, nl_49, nl_50, nl_51, nl_52, nl_53, nl_54, nl_55, nl_56, nl_57, nl_58, nl_59, nl_60, nl_61, nl_62, nl_63, nl_64, nl_100, nl_480, nl_1020, nl_3000, s3]
      refine ok_cl (jl_loop (sh := sh) (sk := sk) (la := la) (lc := lc) (row := i * 16) (l := t.2.2.1 i) (l' := l) (by omega) (fun z => hap la (Or.inr (Or.inr rfl)) (Or.inr (Or.inr (Or.inl z.symm)))) (fun j hj => (b3 j hj).2) s9 100000 0 h (by omega) (by omega) a1 r2 t2 s4 s8 (fun j hj => ?_)) (fun r g q => ?_)
      · have := (b3 j hj).1
        rw [Nat.mul_comm] at this
        rw [this]
        unfold cmJ
        rw [if_neg (by omega)]
      · obtain ⟨rfl, f1, q3, q4⟩ := q
        have f2 : Fr (At dp sk lc du) h g := f1.mono (fun b e => Or.inr (Or.inr (Or.inl e)))
        have hT1 : hT g = hT h := f1.1
        have hR1 : hR g = hR h := f1.2.1
        have Lo : ∀ k, hL g sk k = hL h sk k := fun k => by rw [(f1.2.2.2 sk a4.2.1).2]
        have Ld : ∀ k, hI g dp k = hI h dp k := fun k => by rw [(f1.2.2.2 dp a4.2.2.2.1).1]
        have Lu : ∀ k, hI g du k = hI h du k := fun k => by rw [(f1.2.2.2 du a4.2.2.2.2.2).1]
        cases hc : chg (t.2.2.1 i) l with
        | false =>
          rw [show b2i false = 0 from rfl, if_pos rfl]
          rw [hc] at q3
          refine ok_some ⟨rfl, ⟨by rw [hT1]; exact a1, by rw [hR1]; exact ⟨r0, r1, r2, r3⟩, by rw [hT1]; exact ⟨t0, t1, t2, t3⟩, a4, fun j hj => by rw [Ld, Lu]; exact a5 j hj, fun j e' hj he' => ?_⟩, hs _ f2, f2⟩
          obtain ⟨x1, x2, x3⟩ := a6 j e' hj he'
          refine ⟨x1, fun k hk => by rw [Lo]; exact x2 k hk, fun k hk => ?_⟩
          by_cases ej : j = i
          · subst ej
            refine ⟨?_, (x3 k hk).2⟩
            rw [Nat.mul_comm, q3 k hk, if_neg (by decide)]
            rfl
          · rw [q4 _ (by omega)]; exact x3 k hk
        | true =>
          rw [hc] at q3
          rw [show b2i true = 1 from rfl, if_neg (by decide), if_pos rfl, gR_ok (by rw [hT1]; exact a1), hR1, r3, sZ_n (by rw [hT1]; exact t3) hi (by decide) (Or.inr rfl)]
          have f3 : Fr (At dp sk lc du) h (wI g du i 1) := f2.trans (Fr.wI (Or.inr (Or.inr (Or.inr rfl))))
          refine ok_some ⟨rfl, ⟨by show hT g sh = _; rw [hT1]; exact a1, by show hR g sh 0 = _ ∧ hR g sh 1 = _ ∧ hR g sh 2 = _ ∧ hR g sh 3 = _; rw [hR1]; exact ⟨r0, r1, r2, r3⟩, by show hT g dp = _ ∧ hT g sk = _ ∧ hT g lc = _ ∧ hT g du = _; rw [hT1]; exact ⟨t0, t1, t2, t3⟩, a4, fun j hj => ?_, fun j e' hj he' => ?_⟩, hs _ f3, f3⟩
          · refine ⟨?_, ?_⟩
            · rw [hI_wI_a a4.1, Ld]; exact (a5 j hj).1
            · show _ = b2i (va_up t.2.2.2 i true j)
              unfold va_up
              by_cases ej : j = i
              · subst ej; rw [hI_wI_s, if_pos rfl]; rfl
              · rw [hI_wI_k ej, Lu, if_neg ej]; exact (a5 j hj).2
          · obtain ⟨x1, x2, x3⟩ := a6 j e' hj he'
            refine ⟨x1, fun k hk => by show hL g sk _ = _ ∧ _; rw [Lo]; exact x2 k hk, fun k hk => ?_⟩
            show hL g lc _ = lN (va_up t.2.2.1 i (dh (cmL (t.2.2.1 i) l)) j k) ∧ va_up t.2.2.1 i (dh (cmL (t.2.2.1 i) l)) j k < 8
            unfold va_up
            by_cases ej : j = i
            · subst ej
              rw [if_pos rfl]
              refine ⟨?_, dh_lt (fun k hk => ?_) hk⟩
              · rw [Nat.mul_comm, q3 k hk, if_pos rfl]
              · have := (x3 k hk).2
                unfold cmL; split <;> omega
            · rw [q4 _ (by omega), if_neg ej]; exact x3 k hk
    · have ec : come t i (d, σ, l) = (false, t) := by
        unfold come; rw [ht]; exact if_neg c
      rw [ec, decide_eq_false c, show b2i false = 0 from rfl, if_pos rfl]
      exact ok_some ⟨rfl, v, u, Fr.refl _ _⟩
