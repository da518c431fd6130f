/-! Judge: begin and examine -/
theorem aw_mono {P : Pg} {m : Nat} : ∀ {k n : Nat}, k ≤ n → p_aw P m k ≤ p_aw P m n := by
  intro k n h
  induction n with
  | zero =>
    have : k = 0 := by omega
    subst this
    exact Nat.le_refl _
  | succ n ih =>
    by_cases c : k = n + 1
    · subst c; exact Nat.le_refl _
    · have := ih (by omega)
      rw [p_aw]
      omega
theorem aw_lt {P : Pg} {m : Nat} (w : PWm P m) {k : Nat} (hk : k < p_na P m) : p_aw P m k + wd (p_ka P m k) ≤ 8 := by
  have h1 := aw_mono (P := P) (m := m) (show k + 1 ≤ p_na P m by omega)
  have h2 := w.2.2.1
  have h3 := w.2.2.2.2.2.1
  rw [h3] at h1
  rw [p_aw] at h1
  omega
def j_t0 (P : Pg) (m : Nat) (t : Tab) : Tab := tb_set (tab0 t) 0 (0, (fun _ => 0), j_arg P m (p_na P m))
def j_all (P : Pg) (m : Nat) (t : Tab) : Nat × Nat × Tab := if p_no P m = 0 then (1, 0, j_t0 P m t) else j_run P m 1020 (j_t0 P m t)
theorem PC.flag {h : Hp} {o : Nat} {ma ta : Nat → Nat} {P : Pg} (v : PC h o ma ta P) (x : Apt o ma ta P) {m f : Nat} (hm : m < p_nm P) (hf : 14 ≤ f) (y : Int32) : PC (wI h (ma m) f y) o ma ta P := by
  obtain ⟨v1, v2, v3, v4, v5⟩ := v
  have hom := x.1 m hm
  refine ⟨v1, by rw [hI_wI_a (by omega)]; exact v2, fun k hk => ?_, fun t ht => ?_, v5⟩
  · obtain ⟨x1, x2, x3⟩ := v3 k hk
    refine ⟨x1, x2, ?_⟩
    by_cases e : k = m
    · subst e
      unfold MC at x3 ⊢
      rw [hI_wI_k (by omega), hI_wI_k (by omega), hI_wI_k (by omega), hI_wI_k (by omega), hI_wI_k (by omega), hI_wI_a (by omega), hI_wI_a (by omega), hI_wI_a (by omega), hI_wI_a (by omega), hI_wI_a (by omega), hI_wI_a (by omega), hI_wI_a (by omega), hI_wI_a (by omega)]
      exact x3
    · have := x.2.2.1 k m hk hm e
      exact x3.fr (A := fun b => b = ma m) (Fr.wI rfl) (fun b h1 h2 => by omega)
  · obtain ⟨x1, x2, x3⟩ := v4 t ht
    have := x.2.2.2.2 m t hm ht
    exact ⟨x1, x2, x3.fr (A := fun b => b = ma m) (Fr.wI rfl) (fun b h1 h2 => by omega)⟩
section JE
variable {o : Nat} {ma ta : Nat → Nat} {P : Pg}
theorem bg_loop2 {m : Nat} {t : Tab} : ∀ (n k : Nat) (h : Hp), k ≤ p_na P m → p_na P m - k < n → JW h o ma ta P m → Tv h (ma m + 9) (ma m + 10) (ma m + 11) (ma m + 12) (ma m + 13) t → SvB h o 0 (fun _ => 0) (j_arg P m k) →
    Ok (BX1_begin_45 n (some (o + 5)) (some (ma m)) (nI (p_aw P m k)) (nI k) h) (fun _ g => Tv g (ma m + 9) (ma m + 10) (ma m + 11) (ma m + 12) (ma m + 13) (j_t0 P m t) ∧ SvB g o 0 (fun _ => 0) (j_arg P m (p_na P m)) ∧ Fr (fun b => b = o + 9 ∨ (ma m + 10 ≤ b ∧ b ≤ ma m + 13)) h g) := by
  intro n
  induction n with
  | zero => intro k h h1 h2; omega
  | succ n ih =>
    intro k h h1 h2 jw tv u
    obtain ⟨jt, pc, pw, ap, hm⟩ := id jw
    obtain ⟨-, mt, mc⟩ := pc.2.2.1 m hm
    have wm := pw.2.2.2.1 m hm
    obtain ⟨a0, ⟨r1, r4, r5, r6, r8, r9, r10, r11, r13⟩, t1, t2, t3, t4, t5, t6, t7, t8⟩ := id mt
    obtain ⟨⟨c0, c2, c3, c7, c12⟩, ck, cop, c4⟩ := id mc
    obtain ⟨j0, j1, j2, j3⟩ := id jt
    have oa := ap.1 m hm
    have w2 := wm.2.1
    have u1 : hT h (o + 6) = some (.inl 4) := u.1
    have q5 : hT h (ma m + 9) = some (.inl 5) := tv.1
    unfold BX1_begin_45
    by_cases c : k < p_na P m
    · have e1 := ck k c
      have e2 := wm.2.2.2.2.2.2.1 k c
      have e3 := aw_lt wm c
      simp (disch := first | assumption | omega | decide | (simp only [hT_wI, hT_wL, hT_wR, hT_wLr]; assumption)) only [↓reduceIte, Nat.reduceEqDiff, Nat.reduceLT, Nat.reduceLeDiff, Nat.reduceAdd, Nat.reduceSub, Nat.reduceMul, or_self, or_true, true_or, or_false, false_or, and_self, and_true, true_and, and_false, false_and, if_true, if_false, ↓gI_ok, ↓gL_ok, ↓gR_ok, ↓pI_ok, ↓pL_ok, ↓pR_ok, ↓rcv_ok, ↓nz_ok, ↓nz_no, ↓aI_n, ↓aL_n, ↓aR_n, ↓sI_n, ↓sL_n, ↓sR_n, ↓cl_ok, ↓bz_0, ↓bz_1, hT_wI, hT_wL, hT_wR, hT_wLr, hR_wI, hR_wL, hR_wLr, hI_wL, hI_wR, hI_wLr, hL_wI, hL_wR, nI_add, nI_1, pk_mul, if_lt, if_eq, if_eqL, ie_0, ie_1, il_0, il_1, ir_0, ir_1, ie_m, il_m, bz_b, ib_0, i_10, i_01, i_0m, i_1m, i_m0, i_ml0, b2i_if, bz_i, nI_p1, nl_2, nl_3, nl_4, nl_5, nl_6, nl_7, nl_8, nl_9, nl_10, nl_11, nl_12, nl_13, nl_14, nl_15, nl_16, nl_17, nl_18, nl_19, nl_20, nl_21, nl_22, nl_23, nl_24, nl_25, nl_26, nl_27, nl_28, nl_29, nl_30, nl_31, nl_32, nl_33, nl_34, nl_35, nl_36, nl_37, nl_38, nl_39, nl_40, nl_41, nl_42, nl_43, nl_44, nl_45, nl_46, nl_47, nl_48, nl_49, nl_50, nl_51, nl_52, nl_53, nl_54, nl_55, nl_56, nl_57, nl_58, nl_59, nl_60, nl_61, nl_62, nl_63, nl_64, nl_100, nl_480, nl_1020, nl_3000, c2, j2, r1, e1]
      rw [if_pos c]
      refine ok_cl (k_store u (by omega) (by omega)) (fun _ g q => ?_)
      obtain ⟨ug, f⟩ := q
      have g1 : hT g = hT h := f.1
      have g2 : hR g = hR h := f.2.1
      have eg : hI g (ma m + 1) k = nI (p_ka P m k) := by rw [(f.2.2.2 _ (by omega)).1]; exact e1
      have hw : p_ka P m k < 8 := by omega
      simp (disch := first | assumption | omega | decide | (simp only [hT_wI, hT_wL, hT_wR, hT_wLr, g1, g2]; assumption)) only [↓reduceIte, Nat.reduceEqDiff, Nat.reduceLT, Nat.reduceLeDiff, Nat.reduceAdd, Nat.reduceSub, Nat.reduceMul, or_self, or_true, true_or, or_false, false_or, and_self, and_true, true_and, and_false, false_and, if_true, if_false, ↓gI_ok, ↓gL_ok, ↓gR_ok, ↓pI_ok, ↓pL_ok, ↓pR_ok, ↓rcv_ok, ↓nz_ok, ↓nz_no, ↓aI_n, ↓aL_n, ↓aR_n, ↓sI_n, ↓sL_n, ↓sR_n, ↓cl_ok, ↓bz_0, ↓bz_1, hT_wI, hT_wL, hT_wR, hT_wLr, hR_wI, hR_wL, hR_wLr, hI_wL, hI_wR, hI_wLr, hL_wI, hL_wR, nI_add, nI_1, pk_mul, if_lt, if_eq, if_eqL, ie_0, ie_1, il_0, il_1, ir_0, ir_1, ie_m, il_m, bz_b, ib_0, i_10, i_01, i_0m, i_1m, i_m0, i_ml0, b2i_if, bz_i, nI_p1, nl_2, nl_3, nl_4, nl_5, nl_6, nl_7, nl_8, nl_9, nl_10, nl_11, nl_12, nl_13, nl_14, nl_15, nl_16, nl_17, nl_18, nl_19, nl_20, nl_21, nl_22, nl_23, nl_24, nl_25, nl_26, nl_27, nl_28, nl_29, nl_30, nl_31, nl_32, nl_33, nl_34, nl_35, nl_36, nl_37, nl_38, nl_39, nl_40, nl_41, nl_42, nl_43, nl_44, nl_45, nl_46, nl_47, nl_48, nl_49, nl_50, nl_51, nl_52, nl_53, nl_54, nl_55, nl_56, nl_57, nl_58, nl_59, nl_60, nl_61, nl_62, nl_63, nl_64, nl_100, nl_480, nl_1020, nl_3000, g1, g2, r1, eg, f_width hw]
      refine (ih (k + 1) g (by omega) (by omega) (jw.fr (f.mono (fun b e => Or.inl (by omega)))) (tv.fr f (by omega) (by omega) (by omega) (by omega)) ug).mono (fun _ g' q => ⟨q.1, q.2.1, (f.mono (fun b e => Or.inl e)).trans q.2.2⟩)
    · have ek : k = p_na P m := by omega
      subst ek
      simp (disch := first | assumption | omega | decide | (simp only [hT_wI, hT_wL, hT_wR, hT_wLr]; assumption)) only [↓reduceIte, Nat.reduceEqDiff, Nat.reduceLT, Nat.reduceLeDiff, Nat.reduceAdd, Nat.reduceSub, Nat.reduceMul, or_self, or_true, true_or, or_false, false_or, and_self, and_true, true_and, and_false, false_and, if_true, if_false, ↓gI_ok, ↓gL_ok, ↓gR_ok, ↓pI_ok, ↓pL_ok, ↓pR_ok, ↓rcv_ok, ↓nz_ok, ↓nz_no, ↓aI_n, ↓aL_n, ↓aR_n, ↓sI_n, ↓sL_n, ↓sR_n, ↓cl_ok, ↓bz_0, ↓bz_1, hT_wI, hT_wL, hT_wR, hT_wLr, hR_wI, hR_wL, hR_wLr, hI_wL, hI_wR, hI_wLr, hL_wI, hL_wR, nI_add, nI_1, pk_mul, if_lt, if_eq, if_eqL, ie_0, ie_1, il_0, il_1, ir_0, ir_1, ie_m, il_m, bz_b, ib_0, i_10, i_01, i_0m, i_1m, i_m0, i_ml0, b2i_if, bz_i, nI_p1, nl_2, nl_3, nl_4, nl_5, nl_6, nl_7, nl_8, nl_9, nl_10, nl_11, nl_12, nl_13, nl_14, nl_15, nl_16, nl_17, nl_18, nl_19, nl_20, nl_21, nl_22, nl_23, nl_24, nl_25, nl_26, nl_27, nl_28, nl_29, nl_30, nl_31, nl_32, nl_33, nl_34, nl_35, nl_36, nl_37, nl_38, nl_39, nl_40, nl_41, nl_42, nl_43, nl_44, nl_45, nl_46, nl_47, nl_48, nl_49, nl_50, nl_51, nl_52, nl_53, nl_54, nl_55, nl_56, nl_57, nl_58, nl_59, nl_60, nl_61, nl_62, nl_63, nl_64, nl_100, nl_480, nl_1020, nl_3000, c2, j2, r13]
      rw [if_neg c]
      refine ok_cl (k_forget tv) (fun _ g q => ?_)
      obtain ⟨tg, f⟩ := q
      have g1 : hT g = hT h := f.1
      have g2 : hR g = hR h := f.2.1
      have f1 : Fr (fun b => b = o + 9 ∨ (ma m + 10 ≤ b ∧ b ≤ ma m + 13)) h g := f.mono (fun b e => Or.inr (At_in e))
      have ug : SvB g o 0 (fun _ => 0) (j_arg P m (p_na P m)) := u.fr f (fun z => by have := At_in z; omega) (fun z => by have := At_in z; omega) (fun z => by have := At_in z; omega)
      simp (disch := first | assumption | omega | decide | (simp only [hT_wI, hT_wL, hT_wR, hT_wLr, g1, g2]; assumption)) only [↓reduceIte, Nat.reduceEqDiff, Nat.reduceLT, Nat.reduceLeDiff, Nat.reduceAdd, Nat.reduceSub, Nat.reduceMul, or_self, or_true, true_or, or_false, false_or, and_self, and_true, true_and, and_false, false_and, if_true, if_false, ↓gI_ok, ↓gL_ok, ↓gR_ok, ↓pI_ok, ↓pL_ok, ↓pR_ok, ↓rcv_ok, ↓nz_ok, ↓nz_no, ↓aI_n, ↓aL_n, ↓aR_n, ↓sI_n, ↓sL_n, ↓sR_n, ↓cl_ok, ↓bz_0, ↓bz_1, hT_wI, hT_wL, hT_wR, hT_wLr, hR_wI, hR_wL, hR_wLr, hI_wL, hI_wR, hI_wLr, hL_wI, hL_wR, nI_add, nI_1, pk_mul, if_lt, if_eq, if_eqL, ie_0, ie_1, il_0, il_1, ir_0, ir_1, ie_m, il_m, bz_b, ib_0, i_10, i_01, i_0m, i_1m, i_m0, i_ml0, b2i_if, bz_i, nI_p1, nl_2, nl_3, nl_4, nl_5, nl_6, nl_7, nl_8, nl_9, nl_10, nl_11, nl_12, nl_13, nl_14, nl_15, nl_16, nl_17, nl_18, nl_19, nl_20, nl_21, nl_22, nl_23, nl_24, nl_25, nl_26, nl_27, nl_28, nl_29, nl_30, nl_31, nl_32, nl_33, nl_34, nl_35, nl_36, nl_37, nl_38, nl_39, nl_40, nl_41, nl_42, nl_43, nl_44, nl_45, nl_46, nl_47, nl_48, nl_49, nl_50, nl_51, nl_52, nl_53, nl_54, nl_55, nl_56, nl_57, nl_58, nl_59, nl_60, nl_61, nl_62, nl_63, nl_64, nl_100, nl_480, nl_1020, nl_3000, g1, g2, j2, r13]
      rw [nI_c0]
      refine ok_cl (k_bring (i := 0) tg ug (by omega) (by omega) (jw_ap jw (s := o + 6) (by omega))) (fun r g' q => ?_)
      obtain ⟨-, x1, x2, x3⟩ := q
      exact ok_some ⟨x1, x2, f1.trans (x3.mono (fun b e => Or.inr (At_in e)))⟩
theorem bg_loop1 {m : Nat} {t : Tab} {l : Nat → Nat} : ∀ (n k : Nat) (h : Hp), k ≤ 16 → 16 - k < n → JW h o ma ta P m → Tv h (ma m + 9) (ma m + 10) (ma m + 11) (ma m + 12) (ma m + 13) t → SvB h o 0 (fun _ => 0) (fun j => if j < k then 5 else l j) →
    Ok (BX1_begin_17 n (some (o + 5)) (some (ma m)) (nI k) h) (fun _ g => Tv g (ma m + 9) (ma m + 10) (ma m + 11) (ma m + 12) (ma m + 13) (j_t0 P m t) ∧ SvB g o 0 (fun _ => 0) (j_arg P m (p_na P m)) ∧ Fr (fun b => b = o + 9 ∨ (ma m + 10 ≤ b ∧ b ≤ ma m + 13)) h g) := by
  intro n
  induction n with
  | zero => intro k h h1 h2; omega
  | succ n ih =>
    intro k h h1 h2 jw tv u
    obtain ⟨jt, pc, pw, ap, hm⟩ := id jw
    obtain ⟨j0, j1, j2, j3⟩ := id jt
    have oa := ap.1 m hm
    have u1 : hT h (o + 6) = some (.inl 4) := u.1
    have u2 : hR h (o + 6) 1 = some (o + 9) := u.2.2.1
    have u3 : hT h (o + 9) = some (.inr (.long, 16)) := u.2.2.2.1
    unfold BX1_begin_17
    by_cases c : k < 16
    · simp (disch := first | assumption | omega | decide | (simp only [hT_wI, hT_wL, hT_wR, hT_wLr]; assumption)) only [↓reduceIte, Nat.reduceEqDiff, Nat.reduceLT, Nat.reduceLeDiff, Nat.reduceAdd, Nat.reduceSub, Nat.reduceMul, or_self, or_true, true_or, or_false, false_or, and_self, and_true, true_and, and_false, false_and, if_true, if_false, ↓gI_ok, ↓gL_ok, ↓gR_ok, ↓pI_ok, ↓pL_ok, ↓pR_ok, ↓rcv_ok, ↓nz_ok, ↓nz_no, ↓aI_n, ↓aL_n, ↓aR_n, ↓sI_n, ↓sL_n, ↓sR_n, ↓cl_ok, ↓bz_0, ↓bz_1, hT_wI, hT_wL, hT_wR, hT_wLr, hR_wI, hR_wL, hR_wLr, hI_wL, hI_wR, hI_wLr, hL_wI, hL_wR, nI_add, nI_1, pk_mul, if_lt, if_eq, if_eqL, ie_0, ie_1, il_0, il_1, ir_0, ir_1, ie_m, il_m, bz_b, ib_0, i_10, i_01, i_0m, i_1m, i_m0, i_ml0, b2i_if, bz_i, nI_p1, nl_2, nl_3, nl_4, nl_5, nl_6, nl_7, nl_8, nl_9, nl_10, nl_11, nl_12, nl_13, nl_14, nl_15, nl_16, nl_17, nl_18, nl_19, nl_20, nl_21, nl_22, nl_23, nl_24, nl_25, nl_26, nl_27, nl_28, nl_29, nl_30, nl_31, nl_32, nl_33, nl_34, nl_35, nl_36, nl_37, nl_38, nl_39, nl_40, nl_41, nl_42, nl_43, nl_44, nl_45, nl_46, nl_47, nl_48, nl_49, nl_50, nl_51, nl_52, nl_53, nl_54, nl_55, nl_56, nl_57, nl_58, nl_59, nl_60, nl_61, nl_62, nl_63, nl_64, nl_100, nl_480, nl_1020, nl_3000, j2, u2]
      rw [if_pos c]
      have f : Fr (fun b => b = o + 9) h (wL h (o + 9) k 5) := Fr.wL (A := fun b => b = o + 9) rfl
      refine (ih (k + 1) _ (by omega) (by omega) (jw.fr (f.mono (fun b e => Or.inl (by omega)))) (tv.fr f (by omega) (by omega) (by omega) (by omega)) (u.loc f (fun j hj => ?_) (fun j hj => ?_))).mono (fun _ g' q => ⟨q.1, q.2.1, (f.mono (fun b e => Or.inl e)).trans q.2.2⟩)
      · by_cases e : j = k
        · subst e; rw [hL_wL_s, if_pos (by omega)]; rfl
        · rw [hL_wL_k e]
          have := u.2.2.2.2.2.2.2.1 j hj
          dsimp only at this
          rw [this]
          congr 1
          by_cases e2 : j < k
          · rw [if_pos e2, if_pos (by omega)]
          · rw [if_neg e2, if_neg (by omega)]
      · have := u.2.2.2.2.2.2.2.2.1 j hj
        dsimp only at this
        by_cases e2 : j < k + 1
        · rw [if_pos e2]; omega
        · rw [if_neg e2]; rw [if_neg (by omega)] at this; exact this
    · simp (disch := first | assumption | omega | decide | (simp only [hT_wI, hT_wL, hT_wR, hT_wLr]; assumption)) only [↓reduceIte, Nat.reduceEqDiff, Nat.reduceLT, Nat.reduceLeDiff, Nat.reduceAdd, Nat.reduceSub, Nat.reduceMul, or_self, or_true, true_or, or_false, false_or, and_self, and_true, true_and, and_false, false_and, if_true, if_false, ↓gI_ok, ↓gL_ok, ↓gR_ok, ↓pI_ok, ↓pL_ok, ↓pR_ok, ↓rcv_ok, ↓nz_ok, ↓nz_no, ↓aI_n, ↓aL_n, ↓aR_n, ↓sI_n, ↓sL_n, ↓sR_n, ↓cl_ok, ↓bz_0, ↓bz_1, hT_wI, hT_wL, hT_wR, hT_wLr, hR_wI, hR_wL, hR_wLr, hI_wL, hI_wR, hI_wLr, hL_wI, hL_wR, nI_add, nI_1, pk_mul, if_lt, if_eq, if_eqL, ie_0, ie_1, il_0, il_1, ir_0, ir_1, ie_m, il_m, bz_b, ib_0, i_10, i_01, i_0m, i_1m, i_m0, i_ml0, b2i_if, bz_i, nI_p1, nl_2, nl_3, nl_4, nl_5, nl_6, nl_7, nl_8, nl_9, nl_10, nl_11, nl_12, nl_13, nl_14, nl_15, nl_16, nl_17, nl_18, nl_19, nl_20, nl_21, nl_22, nl_23, nl_24, nl_25, nl_26, nl_27, nl_28, nl_29, nl_30, nl_31, nl_32, nl_33, nl_34, nl_35, nl_36, nl_37, nl_38, nl_39, nl_40, nl_41, nl_42, nl_43, nl_44, nl_45, nl_46, nl_47, nl_48, nl_49, nl_50, nl_51, nl_52, nl_53, nl_54, nl_55, nl_56, nl_57, nl_58, nl_59, nl_60, nl_61, nl_62, nl_63, nl_64, nl_100, nl_480, nl_1020, nl_3000]
      rw [if_neg c, nI_c0]
      have ek : k = 16 := by omega
      subst ek
      refine bg_loop2 100000 0 h (by omega) (by have := (pw.2.2.2.1 m hm).2.1; omega) jw tv ?_
      obtain ⟨a1, a2, a3, a4, a5, a6, a7, a8, a9, a10⟩ := u
      exact ⟨a1, a2, a3, a4, a5, a6, a7, fun j hj => by have := a8 j hj; dsimp only at this; rw [if_pos hj] at this; exact this, fun j hj => by show 5 < 8; omega, a10⟩
theorem f_begin {h : Hp} {m d : Nat} {σ l : Nat → Nat} {t : Tab} (jw : JW h o ma ta P m) (tv : Tv h (ma m + 9) (ma m + 10) (ma m + 11) (ma m + 12) (ma m + 13) t) (u : SvB h o d σ l) : Ok (FX1_begin (some (o + 5)) (some (ma m)) h) (fun _ g => Tv g (ma m + 9) (ma m + 10) (ma m + 11) (ma m + 12) (ma m + 13) (j_t0 P m t) ∧ SvB g o 0 (fun _ => 0) (j_arg P m (p_na P m)) ∧ hI g (o + 5) 5 = 0 ∧ hI g (o + 5) 3 = hI h (o + 5) 3 ∧ hI g (o + 5) 4 = hI h (o + 5) 4 ∧ Fr (fun b => (o + 5 ≤ b ∧ b ≤ o + 9) ∨ (ma m + 10 ≤ b ∧ b ≤ ma m + 13)) h g) := by
  obtain ⟨jt, pc, pw, ap, hm⟩ := id jw
  obtain ⟨j0, j1, j2, j3⟩ := id jt
  have oa := ap.1 m hm
  have u1 : hT h (o + 6) = some (.inl 4) := u.1
  have u2 : hR h (o + 6) 0 = some (o + 7) := u.2.1
  have u3 : hT h (o + 7) = some (.inl 9) := u.2.2.2.2.2.2.1.1
  unfold FX1_begin
  simp (disch := first | assumption | omega | decide | (simp only [hT_wI, hT_wL, hT_wR, hT_wLr]; assumption)) only [↓reduceIte, Nat.reduceEqDiff, Nat.reduceLT, Nat.reduceLeDiff, Nat.reduceAdd, Nat.reduceSub, Nat.reduceMul, or_self, or_true, true_or, or_false, false_or, and_self, and_true, true_and, and_false, false_and, if_true, if_false, ↓gI_ok, ↓gL_ok, ↓gR_ok, ↓pI_ok, ↓pL_ok, ↓pR_ok, ↓rcv_ok, ↓nz_ok, ↓nz_no, ↓aI_n, ↓aL_n, ↓aR_n, ↓sI_n, ↓sL_n, ↓sR_n, ↓cl_ok, ↓bz_0, ↓bz_1, hT_wI, hT_wL, hT_wR, hT_wLr, hR_wI, hR_wL, hR_wLr, hI_wL, hI_wR, hI_wLr, hL_wI, hL_wR, nI_add, nI_1, pk_mul, if_lt, if_eq, if_eqL, ie_0, ie_1, il_0, il_1, ir_0, ir_1, ie_m, il_m, bz_b, ib_0, i_10, i_01, i_0m, i_1m, i_m0, i_ml0, b2i_if, bz_i, nI_p1, nl_2, nl_3, nl_4, nl_5, nl_6, nl_7, nl_8, nl_9, nl_10, nl_11, nl_12, nl_13, nl_14, nl_15, nl_16, nl_17, nl_18, nl_19, nl_20, nl_21, nl_22, nl_23, nl_24, nl_25, nl_26, nl_27, nl_28, nl_29, nl_30, nl_31, nl_32, nl_33, nl_34, nl_35, nl_36, nl_37, nl_38, nl_39, nl_40, nl_41, nl_42, nl_43, nl_44, nl_45, nl_46, nl_47, nl_48, nl_49, nl_50, nl_51, nl_52, nl_53, nl_54, nl_55, nl_56, nl_57, nl_58, nl_59, nl_60, nl_61, nl_62, nl_63, nl_64, nl_100, nl_480, nl_1020, nl_3000, j2, u2]
  have f0 : Fr (fun b => b = o + 5) h (wI h (o + 5) 5 0) := Fr.wI rfl
  have u0 : SvB (wI h (o + 5) 5 0) o d σ l := u.fr f0 (by omega) (by omega) (by omega)
  refine ok_cl (k_clear u0.2.2.2.2.2.2.1) (fun _ g1 q => ?_)
  obtain ⟨wg, f1⟩ := q
  have ug1 : SvB g1 o 0 σ l := u0.stk f1 wg (fun i hi => by omega)
  have F : Fr (fun b => b = o + 5 ∨ b = o + 7 ∨ b = o + 8) h g1 := (f0.mono (fun b e => Or.inl e)).trans (f1.mono (fun b e => by unfold Aw at e; omega))
  have e5 : hI g1 (o + 5) = hI (wI h (o + 5) 5 0) (o + 5) := (f1.2.2.2 _ (by unfold Aw; omega)).1
  rw [nI_c0]
  have ug2 : SvB g1 o 0 (fun _ => 0) l := ug1.to (fun i hi => by omega)
  have := bg_loop1 (l := l) 100000 0 g1 (by omega) (by omega) (jw.fr (F.mono (fun b e => Or.inl (by omega)))) (tv.fr F (by omega) (by omega) (by omega) (by omega)) (by
    have el : (fun j => if j < 0 then 5 else l j) = l := by funext j; rw [if_neg (by omega)]
    rw [el]; exact ug2)
  refine this.mono (fun _ g q => ⟨q.1, q.2.1, ?_, ?_, ?_, (F.mono (fun b e => Or.inl (by omega))).trans (q.2.2.mono (fun b e => by omega))⟩)
  · rw [(q.2.2.2.2.2 _ (by omega)).1, e5, hI_wI_s]; rfl
  · rw [(q.2.2.2.2.2 _ (by omega)).1, e5, hI_wI_k (by omega)]
  · rw [(q.2.2.2.2.2 _ (by omega)).1, e5, hI_wI_k (by omega)]
theorem k_least {h : Hp} {sh dp sk lc du : Nat} {t : Tab} (v : Tv h sh dp sk lc du t) : FX6_leastDue (some sh) h = some (d2i (t_least t), h) := by
  rcases k_leastDue v with ⟨i, h1, h2, h3, e⟩ | ⟨h1, e⟩
  · rw [e]
    have : t_least t = some i := by
      unfold t_least
      rw [List.find?_range_eq_some]
      exact ⟨h2, List.mem_range.mpr h1, fun j hj => by rw [h3 j hj]; rfl⟩
    rw [this]; rfl
  · rw [e]
    have : t_least t = none := by
      unfold t_least
      rw [List.find?_range_eq_none]
      exact fun j hj => by rw [h1 j hj]; rfl
    rw [this]; rfl
/-- what examine leaves -/
def ExR (o : Nat) (ma ta : Nat → Nat) (P : Pg) (m : Nat) (h : Hp) (R : Nat × Nat × Tab) : Int32 → Hp → Prop := fun r g => r = (if R.1 = 0 then 0 else -10 - nI R.1) ∧ JW g o ma ta P m ∧ Tv g (ma m + 9) (ma m + 10) (ma m + 11) (ma m + 12) (ma m + 13) R.2.2 ∧ (∃ s : Sh, SvB g o s.1 s.2.1 s.2.2) ∧ (∃ s : Sh, SvC g o s.1 s.2.1 s.2.2) ∧ hI g (ma m) 14 = hI h (ma m) 14 ∧ hI g (ma m) 15 = b2i (decide (R.1 = 0)) ∧ (R.1 = 0 → hI g (o + 5) 3 = hI h (o + 5) 3 ∧ hI g (o + 5) 4 = hI h (o + 5) 4) ∧ (¬ R.1 = 0 → hI g (o + 5) 3 = nI m ∧ hI g (o + 5) 4 = nI R.2.1) ∧ Fr (fun b => AJ o (ma m) b ∨ b = ma m) h g
theorem ex_out {h : Hp} {m f p : Nat} {t : Tab} (jw : JW h o ma ta P m) (tv : Tv h (ma m + 9) (ma m + 10) (ma m + 11) (ma m + 12) (ma m + 13) t) (hB : ∃ s : Sh, SvB h o s.1 s.2.1 s.2.2) (hC : ∃ s : Sh, SvC h o s.1 s.2.1 s.2.2) (hf : f < 9) (hp : ¬ f = 0 → hI h (o + 5) 5 = nI p) : Ok (BX1_examine_114 (some (o + 5)) (nI m) (some (ma m)) (nI f) h) (ExR o ma ta P m h (f, p, t)) := by
  obtain ⟨jt, pc, pw, ap, hm⟩ := id jw
  obtain ⟨j0, j1, j2, j3⟩ := id jt
  have oa := ap.1 m hm
  obtain ⟨-, mt, mc⟩ := pc.2.2.1 m hm
  have a0 : hT h (ma m) = some (.inl 2) := mt.1
  have key : ∀ y : Int32, JW (wI h (ma m) 15 y) o ma ta P m ∧ Tv (wI h (ma m) 15 y) (ma m + 9) (ma m + 10) (ma m + 11) (ma m + 12) (ma m + 13) t ∧ (∃ s : Sh, SvB (wI h (ma m) 15 y) o s.1 s.2.1 s.2.2) ∧ ∃ s : Sh, SvC (wI h (ma m) 15 y) o s.1 s.2.1 s.2.2 := by
    intro y
    have fr : Fr (fun b => b = ma m) h (wI h (ma m) 15 y) := Fr.wI rfl
    obtain ⟨s, hB⟩ := hB
    obtain ⟨s2, hC⟩ := hC
    exact ⟨⟨jt, pc.flag ap hm (by omega) y, pw, ap, hm⟩, tv.fr fr (by omega) (by omega) (by omega) (by omega), ⟨s, hB.fr fr (by omega) (by omega) (by omega)⟩, ⟨s2, hC.fr fr (by omega) (by omega) (by omega)⟩⟩
  unfold BX1_examine_114 BX1_examine_124
  by_cases c : f = 0
  · subst c
    rw [if_pos (show nI 0 = 0 from rfl), pZ1_ok a0, gI_ok (show hT (wI h (ma m) 15 1) (ma m) = _ from a0), hI_wI_s, if_neg (by decide)]
    obtain ⟨k1, k2, k3, k4⟩ := key 1
    refine ok_some ⟨rfl, k1, k2, k3, k4, hI_wI_k (by omega), ?_, fun _ => ?_, fun z => absurd rfl z, Fr.wI (Or.inr rfl)⟩
    · rw [hI_wI_s]; rfl
    · rw [hI_wI_a (by omega)]; exact ⟨rfl, rfl⟩
  · rw [if_neg (nI_ne0 (by omega) (by omega)), pZ0_ok a0, gI_ok (show hT (wI h (ma m) 15 0) (ma m) = _ from a0), hI_wI_s, if_pos rfl]
    obtain ⟨k1, k2, k3, k4⟩ := key 0
    have e5 : hI (wI h (ma m) 15 0) (o + 5) = hI h (o + 5) := hI_wI_a (by omega)
    have hp := hp c
    simp (disch := first | assumption | omega | decide | (simp only [hT_wI, hT_wL, hT_wR, hT_wLr]; assumption)) only [↓reduceIte, Nat.reduceEqDiff, Nat.reduceLT, Nat.reduceLeDiff, Nat.reduceAdd, Nat.reduceSub, Nat.reduceMul, or_self, or_true, true_or, or_false, false_or, and_self, and_true, true_and, and_false, false_and, if_true, if_false, ↓gI_ok, ↓gL_ok, ↓gR_ok, ↓pI_ok, ↓pL_ok, ↓pR_ok, ↓rcv_ok, ↓nz_ok, ↓nz_no, ↓aI_n, ↓aL_n, ↓aR_n, ↓sI_n, ↓sL_n, ↓sR_n, ↓cl_ok, ↓bz_0, ↓bz_1, hT_wI, hT_wL, hT_wR, hT_wLr, hR_wI, hR_wL, hR_wLr, hI_wL, hI_wR, hI_wLr, hL_wI, hL_wR, nI_add, nI_1, pk_mul, if_lt, if_eq, if_eqL, ie_0, ie_1, il_0, il_1, ir_0, ir_1, ie_m, il_m, bz_b, ib_0, i_10, i_01, i_0m, i_1m, i_m0, i_ml0, b2i_if, bz_i, nI_p1, nl_2, nl_3, nl_4, nl_5, nl_6, nl_7, nl_8, nl_9, nl_10, nl_11, nl_12, nl_13, nl_14, nl_15, nl_16, nl_17, nl_18, nl_19, nl_20, nl_21, nl_22, nl_23, nl_24, nl_25, nl_26, nl_27, nl_28, nl_29, nl_30, nl_31, nl_32, nl_33, nl_34, nl_35, nl_36, nl_37, nl_38, nl_39, nl_40, nl_41, nl_42, nl_43, nl_44, nl_45, nl_46, nl_47, nl_48, nl_49, nl_50, nl_51, nl_52, nl_53, nl_54, nl_55, nl_56, nl_57, nl_58, nl_59, nl_60, nl_61, nl_62, nl_63, nl_64, nl_100, nl_480, nl_1020, nl_3000]
    have e6 : hI (wI (wI h (ma m) 15 0) (o + 5) 3 (nI m)) (o + 5) 5 = nI p := by rw [hI_wI_k (by omega), e5]; exact hp
    rw [e6]
    generalize hg : wI (wI (wI h (ma m) 15 0) (o + 5) 3 (nI m)) (o + 5) 4 (nI p) = g
    have fr : Fr (fun b => b = o + 5) (wI h (ma m) 15 0) g := by rw [← hg]; exact (Fr.wI (A := fun b => b = o + 5) rfl).trans (Fr.wI (A := fun b => b = o + 5) rfl)
    refine ok_some ⟨by rw [if_neg c]; rfl, k1.fr (fr.mono (fun b e => Or.inl (by omega))), k2.fr fr (by omega) (by omega) (by omega) (by omega), ?_, ?_, ?_, ?_, fun z => absurd z c, fun _ => ⟨?_, ?_⟩, ?_⟩
    · obtain ⟨s, k3⟩ := k3
      exact ⟨s, k3.fr fr (by omega) (by omega) (by omega)⟩
    · obtain ⟨s, k4⟩ := k4
      exact ⟨s, k4.fr fr (by omega) (by omega) (by omega)⟩
    · rw [(fr.2.2.2 _ (by omega)).1, hI_wI_k (by omega)]
    · rw [(fr.2.2.2 _ (by omega)).1, hI_wI_s, decide_eq_false c]; rfl
    · rw [← hg, hI_wI_k (by omega), hI_wI_s]
    · rw [← hg, hI_wI_s]
    · exact (Fr.wI (A := fun b => AJ o (ma m) b ∨ b = ma m) (Or.inr rfl)).trans (fr.mono (fun b e => Or.inl (Or.inl (by omega))))
theorem svE {h g : Hp} {s : Nat} {A : Nat → Prop} (hB : ∃ x : Sh, Sv h s (s + 1) (s + 2) (s + 3) x.1 x.2.1 x.2.2) (f : Fr A h g) (hA : ∀ b, s + 1 ≤ b → b ≤ s + 3 → ¬ A b) : ∃ x : Sh, Sv g s (s + 1) (s + 2) (s + 3) x.1 x.2.1 x.2.2 := by
  obtain ⟨x, hB⟩ := hB
  exact ⟨x, hB.fr f (hA _ (by omega) (by omega)) (hA _ (by omega) (by omega)) (hA _ (by omega) (by omega))⟩
theorem tv_und {h : Hp} {a : Nat} {t : Tab} (tv : Tv h (a + 9) (a + 10) (a + 11) (a + 12) (a + 13) t) (i : Nat) : Tv (wI h (a + 13) i 0) (a + 9) (a + 10) (a + 11) (a + 12) (a + 13) (t_und t i) := by
  obtain ⟨a1, r, ty, ne, a5, a6⟩ := tv
  refine ⟨a1, r, ty, ne, fun j hj => ?_, a6⟩
  unfold t_und
  dsimp only
  have := a5 j hj
  refine ⟨by rw [hI_wI_a (by omega)]; exact this.1, ?_⟩
  by_cases e : j = i
  · subst e; rw [hI_wI_s, va_s]; rfl
  · rw [hI_wI_k e, va_n _ _ e]; exact this.2
theorem j_own_lt (P : Pg) (m i : Nat) (s : Sh) : (j_own P m i s).1 < 9 := by
  unfold j_own
  split
  · show 7 < 9; omega
  · split
    · show 2 < 9; omega
    · split
      · show 3 < 9; omega
      · split
        · show 5 < 9; omega
        · split
          · show 8 < 9; omega
          · unfold j_end
            split
            · show 4 < 9; omega
            · split
              · show 1 < 9; omega
              · show 0 < 9; omega
theorem ExR.from {h g : Hp} {m : Nat} {R : Nat × Nat × Tab} {r : Int32} {k : Hp} (x : ExR o ma ta P m g R r k) (f : Fr (AJ o (ma m)) h g) (oa : o + 97 ≤ ma m) (e34 : hI g (o + 5) 3 = hI h (o + 5) 3 ∧ hI g (o + 5) 4 = hI h (o + 5) 4) : ExR o ma ta P m h R r k := by
  obtain ⟨x1, x2, x3, x4, x5, x6, x7, x8, x9, x10⟩ := x
  refine ⟨x1, x2, x3, x4, x5, ?_, x7, fun z => ?_, x9, (f.mono (fun b e => Or.inl e)).trans x10⟩
  · rw [x6, (f.2.2.2 _ (by unfold AJ; omega)).1]
  · rw [(x8 z).1, (x8 z).2]; exact e34
theorem ex_fin {h : Hp} {m n r f p : Nat} {t : Tab} (jw : JW h o ma ta P m) (tv : Tv h (ma m + 9) (ma m + 10) (ma m + 11) (ma m + 12) (ma m + 13) t) (hB : ∃ s : Sh, SvB h o s.1 s.2.1 s.2.2) (hC : ∃ s : Sh, SvC h o s.1 s.2.1 s.2.2) (hf : f < 9) (hf0 : ¬ f = 0) (hp : hI h (o + 5) 5 = nI p) : Ok (BX1_examine_99 (BX1_examine_29 (n + 1)) (some (o + 5)) (nI m) (some (ma m)) (nI f) (nI r) h) (ExR o ma ta P m h (f, p, t)) := by
  obtain ⟨jt, pc, pw, ap, hm⟩ := id jw
  obtain ⟨-, mt, mc⟩ := pc.2.2.1 m hm
  have a0 : hT h (ma m) = some (.inl 2) := mt.1
  have r13 : hR h (ma m) 13 = some (ma m + 9) := mt.2.1.2.2.2.2.2.2.2.2
  have out := ex_out (p := p) jw tv hB hC hf (fun _ => hp)
  unfold BX1_examine_99
  rw [gR_ok a0, r13, rcv_ok tv.1, k_least tv, cl_ok]
  unfold BX1_examine_29
  by_cases c1 : nI r + 1 < (1020 : Int32)
  · rw [if_pos c1]
    by_cases c2 : d2i (t_least t) = -1
    · rw [if_pos c2]; exact out
    · rw [if_neg c2, if_neg (nI_ne0 (by omega) (by omega))]; exact out
  · rw [if_neg c1]; exact out
theorem ex_loop {m : Nat} : ∀ (n r : Nat) (h : Hp) (t : Tab), t_ms t + r ≤ 1020 → 1022 - r < n → JW h o ma ta P m → Tv h (ma m + 9) (ma m + 10) (ma m + 11) (ma m + 12) (ma m + 13) t → TI P m t → (∃ s : Sh, SvB h o s.1 s.2.1 s.2.2) → (∃ s : Sh, SvC h o s.1 s.2.1 s.2.2) →
    Ok (BX1_examine_29 n (some (o + 5)) (nI m) (some (ma m)) 0 (d2i (t_least t)) (nI r) h) (ExR o ma ta P m h (j_run P m (1020 - r) t)) := by
  intro n
  induction n with
  | zero => intro r h t h1 h2; omega
  | succ n ih =>
    intro r h t h1 h2 jw tv ti hB hC
    obtain ⟨jt, pc, pw, ap, hm⟩ := id jw
    obtain ⟨j0, j1, j2, j3⟩ := id jt
    have oa := ap.1 m hm
    obtain ⟨-, mt, mc⟩ := pc.2.2.1 m hm
    obtain ⟨a0, ⟨r1, r4, r5, r6, r8, r9, r10, r11, r13⟩, t1, t2, t3, t4, t5, t6, t7, t8⟩ := id mt
    have q5 : hT h (ma m + 9) = some (.inl 5) := tv.1
    have q6 : hR h (ma m + 9) 3 = some (ma m + 13) := tv.2.1.2.2.2
    have q7 : hT h (ma m + 13) = some (.inr (.boolean, 60)) := tv.2.2.1.2.2.2
    unfold BX1_examine_29
    cases hl : t_least t with
    | none =>
      have e : j_run P m (1020 - r) t = (0, 0, t) := by
        cases hh : 1020 - r with
        | zero => rfl
        | succ k => rw [j_run, hl]
      rw [e]
      have out : Ok (BX1_examine_114 (some (o + 5)) (nI m) (some (ma m)) 0 h) (ExR o ma ta P m h (0, 0, t)) := ex_out (f := 0) jw tv hB hC (by omega) (fun z => absurd rfl z)
      rw [show d2i none = -1 from rfl, if_pos (rfl : (-1 : Int32) = -1)]
      by_cases c : nI r < (1020 : Int32)
      · rw [if_pos c]; exact out
      · rw [if_neg c]; exact out
    | some i =>
      obtain ⟨hi60, hdue⟩ := least_some hl
      have hms := ms_pos hi60 hdue
      obtain ⟨hino, d, hd⟩ := ti i hdue
      have hst := ms_step (P := P) (m := m) hl
      have er : j_run P m (1020 - r) t = if (j_step P m i t).1 = 0 then j_run P m (1020 - (r + 1)) (j_step P m i t).2.2 else j_step P m i t := by
        rw [show 1020 - r = (1020 - (r + 1)) + 1 by omega, j_run, hl]
      rw [er, show d2i (some i) = nI i from rfl, nl_1020, if_lt (by omega) (by omega), if_pos (by omega), if_neg (nI_nm1 (by omega)), if_pos rfl]
      rw [pI_ok j0]
      have f0 : Fr (fun b => b = o + 5) h (wI h (o + 5) 5 (nI i)) := Fr.wI rfl
      rw [gR_ok (show hT (wI h (o + 5) 5 (nI i)) (ma m) = _ from a0), show hR (wI h (o + 5) 5 (nI i)) (ma m) 13 = _ from r13, gR_ok (show hT (wI h (o + 5) 5 (nI i)) (ma m + 9) = _ from q5), show hR (wI h (o + 5) 5 (nI i)) (ma m + 9) 3 = _ from q6, sZ_n (show hT (wI h (o + 5) 5 (nI i)) (ma m + 13) = _ from q7) hi60 (by decide) (Or.inl rfl)]
      have tv0 : Tv (wI h (o + 5) 5 (nI i)) (ma m + 9) (ma m + 10) (ma m + 11) (ma m + 12) (ma m + 13) t := tv.fr f0 (by omega) (by omega) (by omega) (by omega)
      have tv1 := tv_und tv0 i
      have f1 : Fr (fun b => b = o + 5 ∨ b = ma m + 13) h (wI (wI h (o + 5) 5 (nI i)) (ma m + 13) i 0) := (f0.mono (fun b e => Or.inl e)).trans (Fr.wI (Or.inr rfl))
      have ep : hI (wI (wI h (o + 5) 5 (nI i)) (ma m + 13) i 0) (o + 5) 5 = nI i := by rw [hI_wI_a (by omega), hI_wI_s]
      have e34 : hI (wI (wI h (o + 5) 5 (nI i)) (ma m + 13) i 0) (o + 5) 3 = hI h (o + 5) 3 ∧ hI (wI (wI h (o + 5) 5 (nI i)) (ma m + 13) i 0) (o + 5) 4 = hI h (o + 5) 4 := ⟨by rw [hI_wI_a (by omega), hI_wI_k (by omega)], by rw [hI_wI_a (by omega), hI_wI_k (by omega)]⟩
      generalize wI (wI h (o + 5) 5 (nI i)) (ma m + 13) i 0 = g1 at tv1 f1 ep e34 ⊢
      have F1 : Fr (AJ o (ma m)) h g1 := f1.mono (fun b e => by unfold AJ; omega)
      have jw1 := jw.fr F1
      obtain ⟨jt1, pc1, -, -, -⟩ := id jw1
      have hB1 := svE (s := o + 6) hB f1 (fun b h1 h2 => by omega)
      have hC1 := svE (s := o + 10) hC f1 (fun b h1 h2 => by omega)
      obtain ⟨sB, uB⟩ := hB1
      have hwm := pw.2.2.2.1 m hm
      have hno60 := hwm.2.2.2.1
      rw [rcv_ok jt1.1]
      refine ok_cl (f_own jt1 pc1 pw hm hino tv1 uB hd (fun c hc z => ap_PA ap hm c hc (by unfold Asv at z; unfold AJ; omega)) (jw_ap jw1 (s := o + 6) (by omega))) (fun rr g2 q => ?_)
      obtain ⟨rfl, f2, s', uB2, hs'⟩ := q
      have esh : t_sh (t_und t i) i = t_sh t i := rfl
      rw [esh] at hs' ⊢
      have F2 : Fr (AJ o (ma m)) g1 g2 := f2.mono (fun b e => by unfold Asv at e; unfold AJ; omega)
      have jw2 := jw1.fr F2
      have tv2 : Tv g2 (ma m + 9) (ma m + 10) (ma m + 11) (ma m + 12) (ma m + 13) (t_und t i) := tv1.fr f2 (by unfold Asv; omega) (by unfold Asv; omega) (by unfold Asv; omega) (by unfold Asv; omega)
      have hC2 := svE (s := o + 10) hC1 f2 (fun b h1 h2 => by unfold Asv; omega)
      have e5 : hI g2 (o + 5) = hI g1 (o + 5) := (f2.2.2.2 _ (by unfold Asv; omega)).1
      have e34' : hI g2 (o + 5) 3 = hI h (o + 5) 3 ∧ hI g2 (o + 5) 4 = hI h (o + 5) 4 := by rw [e5]; exact e34
      have ep2 : hI g2 (o + 5) 5 = nI i := by rw [e5]; exact ep
      have hlt := j_own_lt P m i (t_sh t i)
      obtain ⟨n', rfl⟩ : ∃ n', n = n' + 1 := ⟨n - 1, by omega⟩
      by_cases c0 : (j_own P m i (t_sh t i)).1 = 0
      · have es := hs' c0
        subst es
        rw [if_pos (show nI (j_own P m i (t_sh t i)).1 = 0 by rw [c0]; rfl), rcv_ok jw2.1.1]
        have htg : ∀ k, k < p_nh P m → pcov P m k i = true → p_hg P m k < p_no P m := by
          obtain ⟨x1, x2, -⟩ := j_own_0 c0
          unfold j_tg at x2
          rw [Bool.and_eq_true] at x2
          exact jhb_iff.mp x2.2
        obtain ⟨sC, uC2⟩ := hC2
        refine ok_cl (f_handlers hi60 htg jw2 tv2 uC2 hd) (fun rr g3 q => ?_)
        obtain ⟨h3, f3, uC3, rfl, tv3, f3', pl1, pl2, pl3, pl4⟩ := q
        have eh : (t_und t i).2.2.1 i = t.2.2.1 i := rfl
        rw [eh] at uC3 tv3 pl1 pl2 ⊢
        have F3 : Fr (AJ o (ma m)) g2 g3 := (f3.mono (fun b e => Or.inl (by omega))).trans (f3'.mono AS_AJ)
        have F3h : Fr (AJ o (ma m)) h g3 := (F1.trans F2).trans F3
        have jw3 := jw.fr F3h
        have uB3 : SvB g3 o (j_own P m i (t_sh t i)).2.1 (j_own P m i (t_sh t i)).2.2.1 (j_own P m i (t_sh t i)).2.2.2 := (uB2.fr f3 (by omega) (by omega) (by omega)).fr f3' (by unfold AS; omega) (by unfold AS; omega) (by unfold AS; omega)
        have uC3' : SvC g3 o 1 (fun _ => 4) (t.2.2.1 i) := uC3.fr f3' (by unfold AS; omega) (by unfold AS; omega) (by unfold AS; omega)
        have e53 : hI h3 (o + 5) = hI g2 (o + 5) := (f3.2.2.2 _ (by omega)).1
        have esj : j_step P m i t = if (j_send (t_und t i) (j_hs P m i (t.2.2.1 i) ++ j_on P m i (j_own P m i (t_sh t i)).2)).1 = none then (0, i, (j_send (t_und t i) (j_hs P m i (t.2.2.1 i) ++ j_on P m i (j_own P m i (t_sh t i)).2)).2) else (6, ((j_send (t_und t i) (j_hs P m i (t.2.2.1 i) ++ j_on P m i (j_own P m i (t_sh t i)).2)).1).getD 0, (j_send (t_und t i) (j_hs P m i (t.2.2.1 i) ++ j_on P m i (j_own P m i (t_sh t i)).2)).2) := by
          unfold j_step; rw [if_pos c0]
        rw [j_send_app] at esj
        have e34g : hI g3 (o + 5) 3 = hI h (o + 5) 3 ∧ hI g3 (o + 5) 4 = hI h (o + 5) 4 := by rw [pl3, pl4, e53]; exact e34'
        unfold BX1_examine_96
        cases hX : (j_send (t_und t i) (j_hs P m i (t.2.2.1 i))).1 with
        | some k =>
          have z : b2i (decide ((some k : Option Nat) = none)) = 0 := by simp [b2i]
          have esj2 : j_step P m i t = (6, k, (j_send (t_und t i) (j_hs P m i (t.2.2.1 i))).2) := by rw [esj]; simp [hX]
          rw [z, if_pos rfl, esj2, if_neg (show ¬ 6 = 0 by decide)]
          refine (ex_fin (f := 6) (p := k) jw3 tv3 ⟨_, uB3⟩ ⟨(1, (fun _ => 4), t.2.2.1 i), uC3'⟩ (by omega) (by omega) (pl1 k hX)).mono (fun r k q => q.from F3h oa e34g)
        | none =>
          rw [hX, if_pos rfl] at esj
          rw [decide_eq_true rfl, show b2i true = 1 from rfl, if_neg (by decide), rcv_ok jw3.1.1]
          refine ok_cl (f_sendOn hino jw3 tv3 uB3 c0 rfl) (fun rr g4 q => ?_)
          obtain ⟨rfl, tv4, f4, pm1, pm2, pm3, pm4⟩ := q
          have F4h : Fr (AJ o (ma m)) h g4 := F3h.trans (f4.mono AS_AJ)
          have jw4 := jw.fr F4h
          have e34h : hI g4 (o + 5) 3 = hI h (o + 5) 3 ∧ hI g4 (o + 5) 4 = hI h (o + 5) 4 := by rw [pm3, pm4]; exact e34g
          have hB4 : ∃ s : Sh, SvB g4 o s.1 s.2.1 s.2.2 := ⟨_, SvS jw3 uB3 (by omega) (by omega) f4⟩
          have hC4 : ∃ s : Sh, SvC g4 o s.1 s.2.1 s.2.2 := ⟨(1, (fun _ => 4), t.2.2.1 i), SvS jw3 uC3' (by omega) (by omega) f4⟩
          cases hY : (j_send (j_send (t_und t i) (j_hs P m i (t.2.2.1 i))).2 (j_on P m i (j_own P m i (t_sh t i)).2)).1 with
          | some k =>
            have z : b2i (decide ((some k : Option Nat) = none)) = 0 := by simp [b2i]
            have esj2 : j_step P m i t = (6, k, (j_send (j_send (t_und t i) (j_hs P m i (t.2.2.1 i))).2 (j_on P m i (j_own P m i (t_sh t i)).2)).2) := by rw [esj]; simp [hY]
            rw [z, if_pos rfl, esj2, if_neg (show ¬ 6 = 0 by decide)]
            exact (ex_fin (f := 6) (p := k) jw4 tv4 hB4 hC4 (by omega) (by omega) (pm1 k hY)).mono (fun r k q => q.from F4h oa e34h)
          | none =>
            rw [hY, if_pos rfl] at esj
            have ti4 : TI P m (j_step P m i t).2.2 := ti_step pw hm ti i (by rw [esj])
            have ms4 : t_ms (j_step P m i t).2.2 + 1 ≤ t_ms t := hst
            rw [esj] at ti4 ms4 ⊢
            rw [if_pos rfl, decide_eq_true rfl, show b2i true = 1 from rfl, if_neg (by decide), c0]
            unfold BX1_examine_99
            have mt4 := (jw4.2.1.2.2.1 m hm).2.1
            rw [gR_ok mt4.1, mt4.2.1.2.2.2.2.2.2.2.2, rcv_ok tv4.1, k_least tv4, cl_ok, nI_1]
            exact (ih (r + 1) g4 _ (by dsimp only at ms4; omega) (by omega) jw4 tv4 ti4 hB4 hC4).mono (fun r k q => q.from F4h oa e34h)
      · have esj : j_step P m i t = ((j_own P m i (t_sh t i)).1, i, t_und t i) := by unfold j_step; rw [if_neg c0]
        rw [if_neg (nI_ne0 (by omega) (by omega)), esj, if_neg c0]
        exact (ex_fin jw2 tv2 ⟨s', uB2⟩ hC2 hlt c0 ep2).mono (fun r k q => q.from (F1.trans F2) oa e34')
end JE
