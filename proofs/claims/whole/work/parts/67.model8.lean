/-! the model: come -/
def Fzq : Nat → Prop := Fz
def A26 (q : Nat) : Nat → Prop := fun b => q + 22 ≤ b ∧ b ≤ q + 26
/-- the shapes of the other methods stay -/
def Fo (q m : Nat) (h g : Hp) : Prop := ∀ i, ¬ (60 * m ≤ i ∧ i < 60 * m + 60) → hI g (q + 22) i = hI h (q + 22) i ∧ hI g (q + 24) i = hI h (q + 24) i ∧ (∀ k, k < 12 → hI g (q + 25) (12 * i + k) = hI h (q + 25) (12 * i + k)) ∧ ∀ j, j < 16 → hI g (q + 26) (16 * i + j) = hI h (q + 26) (16 * i + j)
section MG
variable {h g : Hp} {q m : Nat}
theorem Fo.refl : Fo q m h h := fun _ _ => ⟨rfl, rfl, fun _ _ => rfl, fun _ _ => rfl⟩
theorem Fo.trans {k : Hp} (a : Fo q m h g) (b : Fo q m g k) : Fo q m h k := fun i hi => ⟨(b i hi).1.trans (a i hi).1, (b i hi).2.1.trans (a i hi).2.1, fun x hx => ((b i hi).2.2.1 x hx).trans ((a i hi).2.2.1 x hx), fun x hx => ((b i hi).2.2.2 x hx).trans ((a i hi).2.2.2 x hx)⟩
theorem Fo.fq {F A : Nat → Prop} (f : Fq q F A h g) (hA : ∀ b, 22 ≤ b → b ≤ 26 → b ≠ 23 → ¬ A (q + b)) : Fo q m h g := fun i _ => by
  rw [f.2.2.2.2.1 _ (by omega) (hA 22 (by omega) (by omega) (by omega)), f.2.2.2.2.1 _ (by omega) (hA 24 (by omega) (by omega) (by omega)), f.2.2.2.2.1 _ (by omega) (hA 25 (by omega) (by omega) (by omega)), f.2.2.2.2.1 _ (by omega) (hA 26 (by omega) (by omega) (by omega))]
  exact ⟨rfl, rfl, fun _ _ => rfl, fun _ _ => rfl⟩
theorem come73 (lm : LM (hT h) (hR h) q) {i r : Nat} (hr : r < 480) (hi : i < 60) : BX12_come_73 100000 (some q) (nI i) (nI r) 0 h = some (0, wI (wIr h (q + 26) (ic (hI h (q + 28)) (hI h (q + 26)) 0 (16 * r) 16)) (q + 23) i 1) := by
  obtain ⟨mt0, ⟨mr1, mt1⟩, ⟨mr2, mt2⟩, ⟨mr3, mt3⟩, ⟨mr4, mt4⟩, ⟨mr5, mt5⟩, ⟨mr6, mt6⟩, ⟨mr7, mt7⟩, ⟨mr8, mt8⟩, ⟨mr9, mt9⟩, ⟨mr10, mt10⟩, ⟨mr11, mt11⟩, ⟨mr12, mt12⟩, ⟨mr13, mt13⟩, ⟨mr14, mt14⟩, ⟨mr15, mt15⟩, ⟨mr16, mt16⟩, ⟨mr17, mt17⟩, ⟨mr18, mt18⟩, ⟨mr19, mt19⟩, ⟨mr20, mt20⟩, ⟨mr21, mt21⟩, ⟨mr22, mt22⟩, ⟨mr23, mt23⟩, ⟨mr24, mt24⟩, ⟨mr25, mt25⟩, ⟨mr26, mt26⟩, ⟨mr27, mt27⟩, ⟨mr28, mt28⟩, ⟨mr29, mt29⟩, ⟨mr30, mt30⟩, ⟨mr31, mt31⟩, ⟨mr32, mt32⟩, ⟨mr33, mt33⟩, ⟨mr34, mt34⟩, ⟨mr35, mt35⟩, ⟨mr36, mt36⟩, ⟨mr37, mt37⟩, ⟨mr38, mt38⟩, ⟨mr39, mt39⟩, ⟨mr40, mt40⟩, ⟨mr41, mt41⟩, ⟨mr42, mt42⟩, ⟨mr43, mt43⟩⟩ := id lm
  refine cpl (fun n k h => BX12_come_73 n (some q) (nI i) (nI r) k h) (fun g => some (0, wI g (q + 23) i 1)) 0 (16 * r) 16 (hI h (q + 28)) (by omega) (fun n k g hk e1 e2 e3 => ?_) (fun n g e1 e2 e3 => ?_)
  · show BX12_come_73 (n + 1) _ _ _ _ _ = _
    rw [BX12_come_73]
    simp (disch := first | assumption | omega | decide | (simp only [hT_wI, hT_wL, hT_wR, hT_wLr, e1, e2]; assumption)) only [↓reduceIte, Nat.reduceEqDiff, Nat.reduceLT, Nat.reduceLeDiff, Nat.reduceAdd, Nat.reduceSub, Nat.reduceMul, or_self, or_true, true_or, or_false, false_or, and_self, and_true, true_and, and_false, false_and, if_true, if_false, ↓gI_ok, ↓gL_ok, ↓gR_ok, ↓pI_ok, ↓pL_ok, ↓pR_ok, ↓rcv_ok, ↓nz_ok, ↓nz_no, ↓aI_n, ↓aL_n, ↓aR_n, ↓sI_n, ↓sL_n, ↓sR_n, ↓cl_ok, ↓bz_0, ↓bz_1, hT_wI, hT_wL, hT_wR, hT_wLr, hR_wI, hR_wL, hR_wLr, hI_wL, hI_wR, hI_wLr, hL_wI, hL_wR, nI_add, nI_1, pk_mul, if_lt, if_eq, if_eqL, ie_0, ie_1, il_0, il_1, ir_0, ir_1, ie_m, il_m, bz_b, ib_0, i_10, i_01, i_0m, i_1m, i_m0, i_ml0, b2i_if, bz_i, nI_p1, nl_2, nl_3, nl_4, nl_5, nl_6, nl_7, nl_8, nl_9, nl_10, nl_11, nl_12, nl_13, nl_14, nl_15, nl_16, nl_17, nl_18, nl_19, nl_20, nl_21, nl_22, nl_23, nl_24, nl_25, nl_26, nl_27, nl_28, nl_29, nl_30, nl_31, nl_32, nl_33, nl_34, nl_35, nl_36, nl_37, nl_38, nl_39, nl_40, nl_41, nl_42, nl_43, nl_44, nl_45, nl_46, nl_47, nl_48, nl_49, nl_50, nl_51, nl_52, nl_53, nl_54, nl_55, nl_56, nl_57, nl_58, nl_59, nl_60, nl_61, nl_62, nl_63, nl_64, nl_100, nl_480, nl_1020, nl_3000, e1, e2, mr28, mr26, hk]
    rw [e3 _ (by omega), Nat.zero_add]
  · show BX12_come_73 (n + 1) _ _ _ _ _ = _
    rw [BX12_come_73]
    have t0 : hT g q = some (.inl 11) := by rw [e1]; exact mt0
    have t23 : hT g (q + 23) = some (.inr (.boolean, 60)) := by rw [e1]; exact mt23
    rw [if_neg (by decide), gR_ok t0, e2, mr23, sZ_n t23 hi (by decide) (Or.inr rfl)]
theorem come36 (lm : LM (hT h) (hR h) q) {i r e : Nat} (hr : r < 480) (he : e ≤ 12) (h29 : hI h q 29 = nI e) : BX12_come_36 100000 (some q) (nI i) (nI r) 0 h = BX12_come_73 100000 (some q) (nI i) (nI r) 0 (wIr h (q + 25) (ic (hI h (q + 27)) (hI h (q + 25)) 0 (12 * r) e)) := by
  obtain ⟨mt0, ⟨mr1, mt1⟩, ⟨mr2, mt2⟩, ⟨mr3, mt3⟩, ⟨mr4, mt4⟩, ⟨mr5, mt5⟩, ⟨mr6, mt6⟩, ⟨mr7, mt7⟩, ⟨mr8, mt8⟩, ⟨mr9, mt9⟩, ⟨mr10, mt10⟩, ⟨mr11, mt11⟩, ⟨mr12, mt12⟩, ⟨mr13, mt13⟩, ⟨mr14, mt14⟩, ⟨mr15, mt15⟩, ⟨mr16, mt16⟩, ⟨mr17, mt17⟩, ⟨mr18, mt18⟩, ⟨mr19, mt19⟩, ⟨mr20, mt20⟩, ⟨mr21, mt21⟩, ⟨mr22, mt22⟩, ⟨mr23, mt23⟩, ⟨mr24, mt24⟩, ⟨mr25, mt25⟩, ⟨mr26, mt26⟩, ⟨mr27, mt27⟩, ⟨mr28, mt28⟩, ⟨mr29, mt29⟩, ⟨mr30, mt30⟩, ⟨mr31, mt31⟩, ⟨mr32, mt32⟩, ⟨mr33, mt33⟩, ⟨mr34, mt34⟩, ⟨mr35, mt35⟩, ⟨mr36, mt36⟩, ⟨mr37, mt37⟩, ⟨mr38, mt38⟩, ⟨mr39, mt39⟩, ⟨mr40, mt40⟩, ⟨mr41, mt41⟩, ⟨mr42, mt42⟩, ⟨mr43, mt43⟩⟩ := id lm
  refine cpl (fun n k h => BX12_come_36 n (some q) (nI i) (nI r) k h) (fun g => BX12_come_73 100000 (some q) (nI i) (nI r) 0 g) 0 (12 * r) e (hI h (q + 27)) (by omega) (fun n k g hk e1 e2 e3 => ?_) (fun n g e1 e2 e3 => ?_)
  · show BX12_come_36 (n + 1) _ _ _ _ _ = _
    rw [BX12_come_36]
    have e29 : hI g q 29 = nI e := by rw [e3 _ (by omega)]; exact h29
    simp (disch := first | assumption | omega | decide | (simp only [hT_wI, hT_wL, hT_wR, hT_wLr, e1, e2]; assumption)) only [↓reduceIte, Nat.reduceEqDiff, Nat.reduceLT, Nat.reduceLeDiff, Nat.reduceAdd, Nat.reduceSub, Nat.reduceMul, or_self, or_true, true_or, or_false, false_or, and_self, and_true, true_and, and_false, false_and, if_true, if_false, ↓gI_ok, ↓gL_ok, ↓gR_ok, ↓pI_ok, ↓pL_ok, ↓pR_ok, ↓rcv_ok, ↓nz_ok, ↓nz_no, ↓aI_n, ↓aL_n, ↓aR_n, ↓sI_n, ↓sL_n, ↓sR_n, ↓cl_ok, ↓bz_0, ↓bz_1, hT_wI, hT_wL, hT_wR, hT_wLr, hR_wI, hR_wL, hR_wLr, hI_wL, hI_wR, hI_wLr, hL_wI, hL_wR, nI_add, nI_1, pk_mul, if_lt, if_eq, if_eqL, ie_0, ie_1, il_0, il_1, ir_0, ir_1, ie_m, il_m, bz_b, ib_0, i_10, i_01, i_0m, i_1m, i_m0, i_ml0, b2i_if, bz_i, nI_p1, nl_2, nl_3, nl_4, nl_5, nl_6, nl_7, nl_8, nl_9, nl_10, nl_11, nl_12, nl_13, nl_14, nl_15, nl_16, nl_17, nl_18, nl_19, nl_20, nl_21, nl_22, nl_23, nl_24, nl_25, nl_26, nl_27, nl_28, nl_29, nl_30, nl_31, nl_32, nl_33, nl_34, nl_35, nl_36, nl_37, nl_38, nl_39, nl_40, nl_41, nl_42, nl_43, nl_44, nl_45, nl_46, nl_47, nl_48, nl_49, nl_50, nl_51, nl_52, nl_53, nl_54, nl_55, nl_56, nl_57, nl_58, nl_59, nl_60, nl_61, nl_62, nl_63, nl_64, nl_100, nl_480, nl_1020, nl_3000, e1, e2, mr25, mr27, hk, e29]
    rw [e3 _ (by omega), Nat.zero_add]
  · show BX12_come_36 (n + 1) _ _ _ _ _ = _
    rw [BX12_come_36]
    have e29 : hI g q 29 = nI e := by rw [e3 _ (by omega)]; exact h29
    have t0 : hT g q = some (.inl 11) := by rw [e1]; exact mt0
    rw [gI_ok t0, e29, if_lt (by omega) (by omega), if_neg (by omega)]
/-- what has come: the answer, the table, the frame -/
def CmR (q m : Nat) (h : Hp) (T : Bool × Tab) : Int32 → Hp → Prop := fun r g => r = (if T.1 = true then 0 else 6) ∧ Mt g q m T.2 ∧ Mw g q T.2 ∧ Fq q Fz (A26 q) h g ∧ Fo q m h g
theorem cm_nw (lm : LM (hT h) (hR h) q) {i : Nat} {t : Tab} {s : Sh} (mt : Mt h q m t) (mw : Mw h q t) (mv : Mv h q s.1 s.2.1 s.2.2) (hd : s.1 ≤ 12) (hm : m < 8) (hi : i < 60) (hn : t.1 i = none) : Ok (FX12_come (some q) (nI m) (nI i) h) (CmR q m h (true, tb_set t i s)) := by
  have t0 : hT h q = some (.inl 11) := lm.1
  have r24 : hR h q 24 = some (q + 22) := by obtain ⟨mt0, ⟨mr1, mt1⟩, ⟨mr2, mt2⟩, ⟨mr3, mt3⟩, ⟨mr4, mt4⟩, ⟨mr5, mt5⟩, ⟨mr6, mt6⟩, ⟨mr7, mt7⟩, ⟨mr8, mt8⟩, ⟨mr9, mt9⟩, ⟨mr10, mt10⟩, ⟨mr11, mt11⟩, ⟨mr12, mt12⟩, ⟨mr13, mt13⟩, ⟨mr14, mt14⟩, ⟨mr15, mt15⟩, ⟨mr16, mt16⟩, ⟨mr17, mt17⟩, ⟨mr18, mt18⟩, ⟨mr19, mt19⟩, ⟨mr20, mt20⟩, ⟨mr21, mt21⟩, ⟨mr22, mt22⟩, ⟨mr23, mt23⟩, ⟨mr24, mt24⟩, ⟨mr25, mt25⟩, ⟨mr26, mt26⟩, ⟨mr27, mt27⟩, ⟨mr28, mt28⟩, ⟨mr29, mt29⟩, ⟨mr30, mt30⟩, ⟨mr31, mt31⟩, ⟨mr32, mt32⟩, ⟨mr33, mt33⟩, ⟨mr34, mt34⟩, ⟨mr35, mt35⟩, ⟨mr36, mt36⟩, ⟨mr37, mt37⟩, ⟨mr38, mt38⟩, ⟨mr39, mt39⟩, ⟨mr40, mt40⟩, ⟨mr41, mt41⟩, ⟨mr42, mt42⟩, ⟨mr43, mt43⟩⟩ := id lm; exact mr22
  have r26 : hR h q 26 = some (q + 24) := by obtain ⟨mt0, ⟨mr1, mt1⟩, ⟨mr2, mt2⟩, ⟨mr3, mt3⟩, ⟨mr4, mt4⟩, ⟨mr5, mt5⟩, ⟨mr6, mt6⟩, ⟨mr7, mt7⟩, ⟨mr8, mt8⟩, ⟨mr9, mt9⟩, ⟨mr10, mt10⟩, ⟨mr11, mt11⟩, ⟨mr12, mt12⟩, ⟨mr13, mt13⟩, ⟨mr14, mt14⟩, ⟨mr15, mt15⟩, ⟨mr16, mt16⟩, ⟨mr17, mt17⟩, ⟨mr18, mt18⟩, ⟨mr19, mt19⟩, ⟨mr20, mt20⟩, ⟨mr21, mt21⟩, ⟨mr22, mt22⟩, ⟨mr23, mt23⟩, ⟨mr24, mt24⟩, ⟨mr25, mt25⟩, ⟨mr26, mt26⟩, ⟨mr27, mt27⟩, ⟨mr28, mt28⟩, ⟨mr29, mt29⟩, ⟨mr30, mt30⟩, ⟨mr31, mt31⟩, ⟨mr32, mt32⟩, ⟨mr33, mt33⟩, ⟨mr34, mt34⟩, ⟨mr35, mt35⟩, ⟨mr36, mt36⟩, ⟨mr37, mt37⟩, ⟨mr38, mt38⟩, ⟨mr39, mt39⟩, ⟨mr40, mt40⟩, ⟨mr41, mt41⟩, ⟨mr42, mt42⟩, ⟨mr43, mt43⟩⟩ := id lm; exact mr24
  have t22 : hT h (q + 22) = some (.inr (.boolean, 480)) := by obtain ⟨mt0, ⟨mr1, mt1⟩, ⟨mr2, mt2⟩, ⟨mr3, mt3⟩, ⟨mr4, mt4⟩, ⟨mr5, mt5⟩, ⟨mr6, mt6⟩, ⟨mr7, mt7⟩, ⟨mr8, mt8⟩, ⟨mr9, mt9⟩, ⟨mr10, mt10⟩, ⟨mr11, mt11⟩, ⟨mr12, mt12⟩, ⟨mr13, mt13⟩, ⟨mr14, mt14⟩, ⟨mr15, mt15⟩, ⟨mr16, mt16⟩, ⟨mr17, mt17⟩, ⟨mr18, mt18⟩, ⟨mr19, mt19⟩, ⟨mr20, mt20⟩, ⟨mr21, mt21⟩, ⟨mr22, mt22⟩, ⟨mr23, mt23⟩, ⟨mr24, mt24⟩, ⟨mr25, mt25⟩, ⟨mr26, mt26⟩, ⟨mr27, mt27⟩, ⟨mr28, mt28⟩, ⟨mr29, mt29⟩, ⟨mr30, mt30⟩, ⟨mr31, mt31⟩, ⟨mr32, mt32⟩, ⟨mr33, mt33⟩, ⟨mr34, mt34⟩, ⟨mr35, mt35⟩, ⟨mr36, mt36⟩, ⟨mr37, mt37⟩, ⟨mr38, mt38⟩, ⟨mr39, mt39⟩, ⟨mr40, mt40⟩, ⟨mr41, mt41⟩, ⟨mr42, mt42⟩, ⟨mr43, mt43⟩⟩ := id lm; exact mt22
  have t24 : hT h (q + 24) = some (.inr (.int, 480)) := by obtain ⟨mt0, ⟨mr1, mt1⟩, ⟨mr2, mt2⟩, ⟨mr3, mt3⟩, ⟨mr4, mt4⟩, ⟨mr5, mt5⟩, ⟨mr6, mt6⟩, ⟨mr7, mt7⟩, ⟨mr8, mt8⟩, ⟨mr9, mt9⟩, ⟨mr10, mt10⟩, ⟨mr11, mt11⟩, ⟨mr12, mt12⟩, ⟨mr13, mt13⟩, ⟨mr14, mt14⟩, ⟨mr15, mt15⟩, ⟨mr16, mt16⟩, ⟨mr17, mt17⟩, ⟨mr18, mt18⟩, ⟨mr19, mt19⟩, ⟨mr20, mt20⟩, ⟨mr21, mt21⟩, ⟨mr22, mt22⟩, ⟨mr23, mt23⟩, ⟨mr24, mt24⟩, ⟨mr25, mt25⟩, ⟨mr26, mt26⟩, ⟨mr27, mt27⟩, ⟨mr28, mt28⟩, ⟨mr29, mt29⟩, ⟨mr30, mt30⟩, ⟨mr31, mt31⟩, ⟨mr32, mt32⟩, ⟨mr33, mt33⟩, ⟨mr34, mt34⟩, ⟨mr35, mt35⟩, ⟨mr36, mt36⟩, ⟨mr37, mt37⟩, ⟨mr38, mt38⟩, ⟨mr39, mt39⟩, ⟨mr40, mt40⟩, ⟨mr41, mt41⟩, ⟨mr42, mt42⟩, ⟨mr43, mt43⟩⟩ := id lm; exact mt24
  obtain ⟨⟨v1, v2⟩, v3, v4⟩ := id mv
  have x1 := (mt i hi).1
  rw [hn] at x1
  have hr : 60 * m + i < 480 := by omega
  unfold FX12_come
  rw [gR_ok t0, r24, nl_60, pk_mul, nI_add, aI_n t22 hr (by decide), x1, if_pos (by decide), gR_ok t0, r24, sZ_n t22 hr (by decide) (Or.inr rfl), gR_ok (show hT (wI h (q + 22) (60 * m + i) 1) q = _ from t0), show hR (wI h (q + 22) (60 * m + i) 1) q 26 = _ from r26, gI_ok (show hT (wI h (q + 22) (60 * m + i) 1) q = _ from t0), hI_wI_a (show q ≠ q + 22 by omega), v1, sI_n (show hT (wI h (q + 22) (60 * m + i) 1) (q + 24) = _ from t24) hr (by decide)]
  have e29 : hI (wI (wI h (q + 22) (60 * m + i) 1) (q + 24) (60 * m + i) (nI s.1)) q 29 = nI s.1 := by rw [hI_wI_a (by omega), hI_wI_a (by omega)]; exact v1
  rw [come36 (h := wI (wI h (q + 22) (60 * m + i) 1) (q + 24) (60 * m + i) (nI s.1)) lm hr hd e29]
  rw [come73 (h := wIr (wI (wI h (q + 22) (60 * m + i) 1) (q + 24) (60 * m + i) (nI s.1)) (q + 25) _) lm hr hi]
  have f : ∀ (G : Hp) (b : Nat) (k : Nat) (y : Int32), 22 ≤ b → b ≤ 26 → Fq q Fz (A26 q) G (wI G (q + b) k y) := fun G b k y h1 h2 => Fq.wA (A := A26 q) ⟨by omega, by omega⟩ (by omega)
  have f2 : ∀ (G : Hp) (b : Nat) (y : Nat → Int32), 22 ≤ b → b ≤ 26 → Fq q Fz (A26 q) G (wIr G (q + b) y) := fun G b y h1 h2 => Fq.wIr (A := A26 q) ⟨by omega, by omega⟩ (by omega)
  refine ok_some ⟨rfl, ?_, ?_, ((((f _ 22 _ _ (by omega) (by omega)).trans (f _ 24 _ _ (by omega) (by omega))).trans (f2 _ 25 _ (by omega) (by omega))).trans (f2 _ 26 _ (by omega) (by omega))).trans (f _ 23 _ _ (by omega) (by omega)), ?_⟩
  · intro j hj
    have y := mt j hj
    simp only [tb_set]
    rw [hI_wI_a (show q + 22 ≠ q + 23 by omega), hI_wIr_a (show q + 22 ≠ q + 26 by omega), hI_wIr_a (show q + 22 ≠ q + 25 by omega), hI_wI_a (show q + 22 ≠ q + 24 by omega), hI_wI_a (show q + 24 ≠ q + 23 by omega), hI_wIr_a (show q + 24 ≠ q + 26 by omega), hI_wIr_a (show q + 24 ≠ q + 25 by omega), hI_wI_a (show q + 25 ≠ q + 23 by omega), hI_wIr_a (show q + 25 ≠ q + 26 by omega), hI_wIr_s, hI_wI_a (show q + 26 ≠ q + 23 by omega), hI_wIr_s, hI_wIr_a (show q + 28 ≠ q + 25 by omega), hI_wI_a (show q + 28 ≠ q + 24 by omega), hI_wI_a (show q + 28 ≠ q + 22 by omega), hI_wI_a (show q + 27 ≠ q + 24 by omega), hI_wI_a (show q + 27 ≠ q + 22 by omega), hI_wI_a (show q + 25 ≠ q + 24 by omega), hI_wI_a (show q + 25 ≠ q + 22 by omega), hI_wIr_a (show q + 26 ≠ q + 25 by omega), hI_wI_a (show q + 26 ≠ q + 24 by omega), hI_wI_a (show q + 26 ≠ q + 22 by omega)]
    by_cases c : j = i
    · subst c
      rw [va_s, va_s, va_s, hI_wI_s, hI_wI_s]
      refine ⟨rfl, fun e he => ?_⟩
      injection he with he
      subst he
      refine ⟨hd, rfl, fun k hk => ?_, fun k hk => ?_⟩
      · rw [ic_in hk, Nat.zero_add]; exact v3 k hk
      · rw [ic_in hk, Nat.zero_add]; exact v4 k hk
    · rw [va_n _ _ c, va_n _ _ c, va_n _ _ c, hI_wI_k (by omega), hI_wI_k (by omega), hI_wI_a (show q + 24 ≠ q + 22 by omega)]
      refine ⟨y.1, fun e he => ?_⟩
      obtain ⟨z1, z2, z3, z4⟩ := y.2 e he
      refine ⟨z1, z2, fun k hk => ?_, fun k hk => ?_⟩
      · rw [ic_out (by omega)]; exact z3 k hk
      · rw [ic_out (by omega)]; exact z4 k hk
  · intro j hj
    simp only [tb_set]
    by_cases c : j = i
    · subst c; rw [hI_wI_s, va_s]; rfl
    · rw [hI_wI_k c, va_n _ _ c, hI_wIr_a (by omega), hI_wIr_a (by omega), hI_wI_a (by omega), hI_wI_a (by omega)]; exact mw j hj
  · intro x hx
    rw [hI_wI_a (show q + 22 ≠ q + 23 by omega), hI_wIr_a (show q + 22 ≠ q + 26 by omega), hI_wIr_a (show q + 22 ≠ q + 25 by omega), hI_wI_a (show q + 22 ≠ q + 24 by omega), hI_wI_a (show q + 24 ≠ q + 23 by omega), hI_wIr_a (show q + 24 ≠ q + 26 by omega), hI_wIr_a (show q + 24 ≠ q + 25 by omega), hI_wI_a (show q + 25 ≠ q + 23 by omega), hI_wIr_a (show q + 25 ≠ q + 26 by omega), hI_wIr_s, hI_wI_a (show q + 26 ≠ q + 23 by omega), hI_wIr_s, hI_wI_a (show q + 25 ≠ q + 24 by omega), hI_wI_a (show q + 25 ≠ q + 22 by omega), hI_wIr_a (show q + 26 ≠ q + 25 by omega), hI_wI_a (show q + 26 ≠ q + 24 by omega), hI_wI_a (show q + 26 ≠ q + 22 by omega)]
    rw [hI_wI_k (by omega), hI_wI_k (by omega), hI_wI_a (show q + 24 ≠ q + 22 by omega)]
    refine ⟨rfl, rfl, fun k hk => ?_, fun k hk => ?_⟩
    · rw [ic_out (by omega)]
    · rw [ic_out (by omega)]
/-- halves that lack the other -/
theorem cm_body {k264 : Option Nat → Int32 → Int32 → Int32 → Int32 → Hp → Option (Int32 × Hp)} {x0 : Option Nat} {x2 x3 x5 x6 : Int32} {a b c : Nat} (ha : a < 8) (hb : b < 8) (hc : c < 8) :
    BX12_come_335 k264 x0 x2 x3 x5 x6 (nI a) (nI b) (nI c) h = if lk a b c = true then gR h x0 11 28 (fun v2 => sI h v2 (16 * x3 + x6) 5 (fun h6 => k264 x0 x2 x3 1 (x6 + 1) h6)) else k264 x0 x2 x3 x5 (x6 + 1) h := by
  have e : ∀ (z : Nat) (α : Type) (u v : α), z < 8 → ((if nI z = (1 : Int32) then u else v) = if z = 1 then u else v) ∧ ((if nI z = (3 : Int32) then u else v) = if z = 3 then u else v) ∧ ((if nI z = (6 : Int32) then u else v) = if z = 6 then u else v) ∧ ((if nI z = (7 : Int32) then u else v) = if z = 7 then u else v) := fun z α u v hz => ⟨if_eq (b := 1) (by omega) (by omega), if_eq (b := 3) (by omega) (by omega), if_eq (b := 6) (by omega) (by omega), if_eq (b := 7) (by omega) (by omega)⟩
  unfold BX12_come_335 BX12_come_350 BX12_come_363 BX12_come_376 BX12_come_389 BX12_come_393 BX12_come_394 BX12_come_417
  rw [(e a _ _ _ ha).1]
  simp only [(e a _ _ _ ha).2.1, (e a _ _ _ ha).2.2.1, (e a _ _ _ ha).2.2.2, (e b _ _ _ hb).2.2.1, (e b _ _ _ hb).2.2.2, (e c _ _ _ hc).1, (e c _ _ _ hc).2.1]
  have z0 : ¬ ((1 : Int32) = 0) := by decide
  rcases (show a = 0 ∨ a = 1 ∨ a = 2 ∨ a = 3 ∨ a = 4 ∨ a = 5 ∨ a = 6 ∨ a = 7 by omega) with rfl | rfl | rfl | rfl | rfl | rfl | rfl | rfl
  · simp [lk, z0]
  · by_cases c6 : b = 6
    · subst c6; simp [lk, z0]
    · simp [lk, z0, c6]
  · simp [lk, z0]
  · by_cases c6 : b = 7
    · subst c6; simp [lk, z0]
    · simp [lk, z0, c6]
  · simp [lk, z0]
  · simp [lk, z0]
  · by_cases c6 : c = 1
    · subst c6; simp [lk, z0]
    · simp [lk, z0, c6]
  · by_cases c6 : c = 3
    · subst c6; simp [lk, z0]
    · simp [lk, z0, c6]
/-- what merging leaves: row r of the locals is L, i waits if c -/
def Mg (q i r : Nat) (h : Hp) (L : Nat → Nat) (c : Bool) : Int32 → Hp → Prop := fun v g => v = 0 ∧ (∀ j, j < 16 → hI g (q + 26) (16 * r + j) = nI (L j)) ∧ (∀ x, x < 16 * r ∨ 16 * r + 16 ≤ x → hI g (q + 26) x = hI h (q + 26) x) ∧ hI g (q + 23) i = b2i c ∧ (∀ x, x ≠ i → hI g (q + 23) x = hI h (q + 23) x) ∧ Fq q Fz (fun b => b = q + 23 ∨ b = q + 26) h g
theorem cm_264 {i r : Nat} {L : Nat → Nat} {c w : Bool} (hr : r < 480) (hi : i < 60) (hL : ∀ j, j < 16 → L j < 8) (hc : c = false → ∀ j, j < 16 → lk (L j) (nx L j) (bf L j) = false) : ∀ (n k : Nat) (h : Hp), k ≤ 16 → 16 - k < n → LM (hT h) (hR h) q → hI h (q + 23) i = b2i w → (∀ j, j < k → hI h (q + 26) (16 * r + j) = nI (dh L j)) → (∀ j, k ≤ j → j < 16 → hI h (q + 26) (16 * r + j) = nI (L j)) →
    Ok (BX12_come_264 n (some q) (nI i) (nI r) (b2i c) (nI k) h) (Mg q i r h (dh L) (w || c)) := by
  intro n
  induction n with
  | zero => intro k h h1 h2; omega
  | succ n ih =>
    intro k h h1 h2 lm hw a1 a2
    have t0 : hT h q = some (.inl 11) := lm.1
    have r28 : hR h q 28 = some (q + 26) := by obtain ⟨mt0, ⟨mr1, mt1⟩, ⟨mr2, mt2⟩, ⟨mr3, mt3⟩, ⟨mr4, mt4⟩, ⟨mr5, mt5⟩, ⟨mr6, mt6⟩, ⟨mr7, mt7⟩, ⟨mr8, mt8⟩, ⟨mr9, mt9⟩, ⟨mr10, mt10⟩, ⟨mr11, mt11⟩, ⟨mr12, mt12⟩, ⟨mr13, mt13⟩, ⟨mr14, mt14⟩, ⟨mr15, mt15⟩, ⟨mr16, mt16⟩, ⟨mr17, mt17⟩, ⟨mr18, mt18⟩, ⟨mr19, mt19⟩, ⟨mr20, mt20⟩, ⟨mr21, mt21⟩, ⟨mr22, mt22⟩, ⟨mr23, mt23⟩, ⟨mr24, mt24⟩, ⟨mr25, mt25⟩, ⟨mr26, mt26⟩, ⟨mr27, mt27⟩, ⟨mr28, mt28⟩, ⟨mr29, mt29⟩, ⟨mr30, mt30⟩, ⟨mr31, mt31⟩, ⟨mr32, mt32⟩, ⟨mr33, mt33⟩, ⟨mr34, mt34⟩, ⟨mr35, mt35⟩, ⟨mr36, mt36⟩, ⟨mr37, mt37⟩, ⟨mr38, mt38⟩, ⟨mr39, mt39⟩, ⟨mr40, mt40⟩, ⟨mr41, mt41⟩, ⟨mr42, mt42⟩, ⟨mr43, mt43⟩⟩ := id lm; exact mr26
    have t26 : hT h (q + 26) = some (.inr (.int, 7680)) := by obtain ⟨mt0, ⟨mr1, mt1⟩, ⟨mr2, mt2⟩, ⟨mr3, mt3⟩, ⟨mr4, mt4⟩, ⟨mr5, mt5⟩, ⟨mr6, mt6⟩, ⟨mr7, mt7⟩, ⟨mr8, mt8⟩, ⟨mr9, mt9⟩, ⟨mr10, mt10⟩, ⟨mr11, mt11⟩, ⟨mr12, mt12⟩, ⟨mr13, mt13⟩, ⟨mr14, mt14⟩, ⟨mr15, mt15⟩, ⟨mr16, mt16⟩, ⟨mr17, mt17⟩, ⟨mr18, mt18⟩, ⟨mr19, mt19⟩, ⟨mr20, mt20⟩, ⟨mr21, mt21⟩, ⟨mr22, mt22⟩, ⟨mr23, mt23⟩, ⟨mr24, mt24⟩, ⟨mr25, mt25⟩, ⟨mr26, mt26⟩, ⟨mr27, mt27⟩, ⟨mr28, mt28⟩, ⟨mr29, mt29⟩, ⟨mr30, mt30⟩, ⟨mr31, mt31⟩, ⟨mr32, mt32⟩, ⟨mr33, mt33⟩, ⟨mr34, mt34⟩, ⟨mr35, mt35⟩, ⟨mr36, mt36⟩, ⟨mr37, mt37⟩, ⟨mr38, mt38⟩, ⟨mr39, mt39⟩, ⟨mr40, mt40⟩, ⟨mr41, mt41⟩, ⟨mr42, mt42⟩, ⟨mr43, mt43⟩⟩ := id lm; exact mt26
    have r25 : hR h q 25 = some (q + 23) := by obtain ⟨mt0, ⟨mr1, mt1⟩, ⟨mr2, mt2⟩, ⟨mr3, mt3⟩, ⟨mr4, mt4⟩, ⟨mr5, mt5⟩, ⟨mr6, mt6⟩, ⟨mr7, mt7⟩, ⟨mr8, mt8⟩, ⟨mr9, mt9⟩, ⟨mr10, mt10⟩, ⟨mr11, mt11⟩, ⟨mr12, mt12⟩, ⟨mr13, mt13⟩, ⟨mr14, mt14⟩, ⟨mr15, mt15⟩, ⟨mr16, mt16⟩, ⟨mr17, mt17⟩, ⟨mr18, mt18⟩, ⟨mr19, mt19⟩, ⟨mr20, mt20⟩, ⟨mr21, mt21⟩, ⟨mr22, mt22⟩, ⟨mr23, mt23⟩, ⟨mr24, mt24⟩, ⟨mr25, mt25⟩, ⟨mr26, mt26⟩, ⟨mr27, mt27⟩, ⟨mr28, mt28⟩, ⟨mr29, mt29⟩, ⟨mr30, mt30⟩, ⟨mr31, mt31⟩, ⟨mr32, mt32⟩, ⟨mr33, mt33⟩, ⟨mr34, mt34⟩, ⟨mr35, mt35⟩, ⟨mr36, mt36⟩, ⟨mr37, mt37⟩, ⟨mr38, mt38⟩, ⟨mr39, mt39⟩, ⟨mr40, mt40⟩, ⟨mr41, mt41⟩, ⟨mr42, mt42⟩, ⟨mr43, mt43⟩⟩ := id lm; exact mr23
    have t23 : hT h (q + 23) = some (.inr (.boolean, 60)) := by obtain ⟨mt0, ⟨mr1, mt1⟩, ⟨mr2, mt2⟩, ⟨mr3, mt3⟩, ⟨mr4, mt4⟩, ⟨mr5, mt5⟩, ⟨mr6, mt6⟩, ⟨mr7, mt7⟩, ⟨mr8, mt8⟩, ⟨mr9, mt9⟩, ⟨mr10, mt10⟩, ⟨mr11, mt11⟩, ⟨mr12, mt12⟩, ⟨mr13, mt13⟩, ⟨mr14, mt14⟩, ⟨mr15, mt15⟩, ⟨mr16, mt16⟩, ⟨mr17, mt17⟩, ⟨mr18, mt18⟩, ⟨mr19, mt19⟩, ⟨mr20, mt20⟩, ⟨mr21, mt21⟩, ⟨mr22, mt22⟩, ⟨mr23, mt23⟩, ⟨mr24, mt24⟩, ⟨mr25, mt25⟩, ⟨mr26, mt26⟩, ⟨mr27, mt27⟩, ⟨mr28, mt28⟩, ⟨mr29, mt29⟩, ⟨mr30, mt30⟩, ⟨mr31, mt31⟩, ⟨mr32, mt32⟩, ⟨mr33, mt33⟩, ⟨mr34, mt34⟩, ⟨mr35, mt35⟩, ⟨mr36, mt36⟩, ⟨mr37, mt37⟩, ⟨mr38, mt38⟩, ⟨mr39, mt39⟩, ⟨mr40, mt40⟩, ⟨mr41, mt41⟩, ⟨mr42, mt42⟩, ⟨mr43, mt43⟩⟩ := id lm; exact mt23
    unfold BX12_come_264
    rw [nl_16, if_lt (by omega) (by omega)]
    by_cases d : k < 16
    · rw [if_pos d, gR_ok t0, r28, pk_mul, nI_add, aI_n t26 (by omega) (by decide), a2 k (by omega) d, nl_15, if_lt (by omega) (by omega)]
      have step : ∀ b, b < 8 → b = nx L k → Ok (BX12_come_310 (BX12_come_264 n) (some q) (nI i) (nI r) (b2i c) (nI k) (nI (L k)) (nI b) h) (Mg q i r h (dh L) (w || c)) := by
        intro b hb eb
        have fin : ∀ cc, cc < 8 → lk (L k) b cc = lk (L k) (nx L k) (bf L k) → Ok (BX12_come_335 (BX12_come_264 n) (some q) (nI i) (nI r) (b2i c) (nI k) (nI (L k)) (nI b) (nI cc) h) (Mg q i r h (dh L) (w || c)) := by
          intro cc hcc ecc
          rw [cm_body (hL k d) hb hcc, ecc]
          have ed := dh_e L k
          by_cases x : lk (L k) (nx L k) (bf L k) = true
          · have ct : c = true := by
              cases hh : c with
              | true => rfl
              | false => have := hc hh k d; rw [this] at x; cases x
            rw [if_pos x] at ed ⊢
            rw [gR_ok t0, r28, nl_16, pk_mul, nI_add, sI_n t26 (by omega) (by decide), nI_1]
            have e1 : (1 : Int32) = b2i c := by rw [ct]; rfl
            have e5 : (5 : Int32) = nI 5 := rfl
            rw [e1]
            refine (ih (k + 1) (wI h (q + 26) (16 * r + k) 5) (by omega) (by omega) lm (by rw [hI_wI_a (by omega)]; exact hw) (fun j hj => ?_) (fun j h1 h2 => ?_)).mono (fun v g x => ?_)
            · by_cases e : j = k
              · subst e; rw [hI_wI_s, ed]; rfl
              · rw [hI_wI_k (by omega)]; exact a1 j (by omega)
            · rw [hI_wI_k (by omega)]; exact a2 j (by omega) h2
            · obtain ⟨y1, y2, y3, y4, y5, y6⟩ := x
              exact ⟨y1, y2, fun z hz => by rw [y3 z hz, hI_wI_k (by omega)], y4, fun z hz => by rw [y5 z hz, hI_wI_a (by omega)], (Fq.wA (A := fun b => b = q + 23 ∨ b = q + 26) (Or.inr rfl) (by omega)).trans y6⟩
          · rw [if_neg x] at ed ⊢
            rw [nI_1]
            refine ih (k + 1) h (by omega) (by omega) lm hw (fun j hj => ?_) (fun j h1 h2 => a2 j (by omega) h2)
            by_cases e : j = k
            · subst e; rw [ed]; exact a2 j (by omega) d
            · exact a1 j (by omega)
        unfold BX12_come_310
        rw [ir_0 (by omega)]
        by_cases c0 : 0 < k
        · have e2 := a1 (k - 1) (by omega)
          rw [if_pos c0, gR_ok t0, r28, nl_16, pk_mul, nI_add, nI_p1 (by omega), aI_n t26 (by omega) (by decide), show 16 * r + k - 1 = 16 * r + (k - 1) by omega, e2]
          refine fin _ (dh_lt hL (by omega)) ?_
          rw [eb]
          unfold bf
          rw [if_pos c0]
          exact lk_left c0 d _
        · rw [if_neg c0]
          exact fin 5 (by omega) (by rw [eb]; unfold bf; rw [if_neg c0])
      by_cases c3 : k < 15
      · rw [if_pos c3, gR_ok t0, r28, nI_1, aI_n t26 (by omega) (by decide), show 16 * r + k + 1 = 16 * r + (k + 1) by omega, a2 (k + 1) (by omega) (by omega)]
        exact step _ (hL (k + 1) (by omega)) (by unfold nx; rw [if_pos (by omega)])
      · rw [if_neg c3]
        exact step 5 (by omega) (by unfold nx; rw [if_neg (by omega)])
    · have fin : ∀ y : Bool, Ok (some ((0 : Int32), wI h (q + 23) i (b2i y))) (Mg q i r h (dh L) y) := fun y =>
        ok_some ⟨rfl, fun j hj => by rw [hI_wI_a (by omega)]; exact a1 j (by omega), fun x _ => by rw [hI_wI_a (by omega)], hI_wI_s, fun x hx => hI_wI_k hx, Fq.wA (A := fun b => b = q + 23 ∨ b = q + 26) (Or.inl rfl) (by omega)⟩
      rw [if_neg d, gR_ok t0, r25, gR_ok t0, r25, aI_n t23 hi (by decide), hw, b2i_if]
      cases w with
      | true =>
        rw [if_pos rfl, sZ_n t23 hi (by decide) (Or.inr rfl)]
        exact fin true
      | false =>
        rw [if_neg (by decide), b2i_if]
        cases c with
        | true => rw [if_pos rfl, sZ_n t23 hi (by decide) (Or.inr rfl)]; exact fin true
        | false => rw [if_neg (by decide), sZ_n t23 hi (by decide) (Or.inl rfl)]; exact fin false
def ChK (l l' : Nat → Nat) (k : Nat) (c : Bool) : Prop := c = true ↔ ∃ j, j < k ∧ l j ≠ 5 ∧ l j ≠ l' j
theorem ChK.same {l l' : Nat → Nat} {k : Nat} {c : Bool} (a : ChK l l' k c) (z : l k = 5 ∨ l k = l' k) : ChK l l' (k + 1) c := by
  refine Iff.trans a ⟨fun ⟨j, y1, y2⟩ => ⟨j, Nat.lt_succ_of_lt y1, y2⟩, fun ⟨j, y1, y2⟩ => ⟨j, ?_, y2⟩⟩
  clear a
  rcases Nat.lt_or_ge j k with y | y
  · exact y
  · have e : j = k := Nat.le_antisymm (Nat.le_of_lt_succ y1) y
    subst e
    rcases z with z | z
    · exact absurd z y2.1
    · exact absurd z y2.2
theorem ChK.diff {l l' : Nat → Nat} {k : Nat} (h5 : l k ≠ 5) (he : l k ≠ l' k) : ChK l l' (k + 1) true := ⟨fun _ => ⟨k, Nat.lt_succ_self k, h5, he⟩, fun _ => rfl⟩
theorem ChK.zero {l l' : Nat → Nat} : ChK l l' 0 false := ⟨fun z => (by cases z), fun ⟨j, z, _⟩ => absurd z (Nat.not_lt_zero j)⟩
theorem ChK.all {l l' : Nat → Nat} {c : Bool} (a : ChK l l' 16 c) : c = chg l l' := by
  cases hh : chg l l' with
  | true => exact a.mpr (chg_iff.mp hh)
  | false =>
    cases hc : c with
    | false => rfl
    | true => rw [chg_iff.mpr (a.mp hc)] at hh; cases hh
theorem cm_same {l l' : Nat → Nat} (hc : chg l l' = false) : ∀ x, x < 16 → cmL l l' x = l x := by
  intro x hx
  unfold cmL
  by_cases y : l x = l' x
  · rw [if_pos y]
  · rw [if_neg y]
    by_cases y5 : l x = 5
    · exact y5.symm
    · rw [chg_iff.mpr ⟨x, hx, y5, y⟩] at hc; cases hc
theorem cm_lk {l l' : Nat → Nat} (hc : chg l l' = false) (wl : wfS 16 l) {j : Nat} (hj : j < 16) : lk (cmL l l' j) (nx (cmL l l') j) (bf (cmL l l') j) = false := by
  have same := cm_same hc
  have e1 : nx (cmL l l') j = nx l j := by
    unfold nx
    by_cases z : j + 1 < 16
    · rw [if_pos z, if_pos z, same _ z]
    · rw [if_neg z, if_neg z]
  have e2 : bf (cmL l l') j = bf l j := by
    unfold bf
    by_cases z : 0 < j
    · rw [if_pos z, if_pos z, same _ (by omega)]
    · rw [if_neg z, if_neg z]
  rw [same j hj, e1, e2]
  exact wf_lk wl hj
theorem cm_200 {i r : Nat} {l l' : Nat → Nat} {w : Bool} (hr : r < 480) (hi : i < 60) (hl : ∀ j, j < 16 → l j < 8) (hl' : ∀ j, j < 16 → l' j < 8) (wl : wfS 16 l) : ∀ (n k : Nat) (h : Hp) (c : Bool), k ≤ 16 → 16 - k < n → LM (hT h) (hR h) q → hI h (q + 23) i = b2i w → (∀ j, j < 16 → hI h (q + 28) j = nI (l' j)) → (∀ j, j < k → hI h (q + 26) (16 * r + j) = nI (cmL l l' j)) → (∀ j, k ≤ j → j < 16 → hI h (q + 26) (16 * r + j) = nI (l j)) → ChK l l' k c →
    Ok (BX12_come_200 n (some q) (nI i) (nI r) (b2i c) (nI k) h) (Mg q i r h (dh (cmL l l')) (w || chg l l')) := by
  intro n
  induction n with
  | zero => intro k h c h1 h2; omega
  | succ n ih =>
    intro k h c h1 h2 lm hw a0 a1 a2 a3
    have t0 : hT h q = some (.inl 11) := lm.1
    have r28 : hR h q 28 = some (q + 26) := by obtain ⟨mt0, ⟨mr1, mt1⟩, ⟨mr2, mt2⟩, ⟨mr3, mt3⟩, ⟨mr4, mt4⟩, ⟨mr5, mt5⟩, ⟨mr6, mt6⟩, ⟨mr7, mt7⟩, ⟨mr8, mt8⟩, ⟨mr9, mt9⟩, ⟨mr10, mt10⟩, ⟨mr11, mt11⟩, ⟨mr12, mt12⟩, ⟨mr13, mt13⟩, ⟨mr14, mt14⟩, ⟨mr15, mt15⟩, ⟨mr16, mt16⟩, ⟨mr17, mt17⟩, ⟨mr18, mt18⟩, ⟨mr19, mt19⟩, ⟨mr20, mt20⟩, ⟨mr21, mt21⟩, ⟨mr22, mt22⟩, ⟨mr23, mt23⟩, ⟨mr24, mt24⟩, ⟨mr25, mt25⟩, ⟨mr26, mt26⟩, ⟨mr27, mt27⟩, ⟨mr28, mt28⟩, ⟨mr29, mt29⟩, ⟨mr30, mt30⟩, ⟨mr31, mt31⟩, ⟨mr32, mt32⟩, ⟨mr33, mt33⟩, ⟨mr34, mt34⟩, ⟨mr35, mt35⟩, ⟨mr36, mt36⟩, ⟨mr37, mt37⟩, ⟨mr38, mt38⟩, ⟨mr39, mt39⟩, ⟨mr40, mt40⟩, ⟨mr41, mt41⟩, ⟨mr42, mt42⟩, ⟨mr43, mt43⟩⟩ := id lm; exact mr26
    have t26 : hT h (q + 26) = some (.inr (.int, 7680)) := by obtain ⟨mt0, ⟨mr1, mt1⟩, ⟨mr2, mt2⟩, ⟨mr3, mt3⟩, ⟨mr4, mt4⟩, ⟨mr5, mt5⟩, ⟨mr6, mt6⟩, ⟨mr7, mt7⟩, ⟨mr8, mt8⟩, ⟨mr9, mt9⟩, ⟨mr10, mt10⟩, ⟨mr11, mt11⟩, ⟨mr12, mt12⟩, ⟨mr13, mt13⟩, ⟨mr14, mt14⟩, ⟨mr15, mt15⟩, ⟨mr16, mt16⟩, ⟨mr17, mt17⟩, ⟨mr18, mt18⟩, ⟨mr19, mt19⟩, ⟨mr20, mt20⟩, ⟨mr21, mt21⟩, ⟨mr22, mt22⟩, ⟨mr23, mt23⟩, ⟨mr24, mt24⟩, ⟨mr25, mt25⟩, ⟨mr26, mt26⟩, ⟨mr27, mt27⟩, ⟨mr28, mt28⟩, ⟨mr29, mt29⟩, ⟨mr30, mt30⟩, ⟨mr31, mt31⟩, ⟨mr32, mt32⟩, ⟨mr33, mt33⟩, ⟨mr34, mt34⟩, ⟨mr35, mt35⟩, ⟨mr36, mt36⟩, ⟨mr37, mt37⟩, ⟨mr38, mt38⟩, ⟨mr39, mt39⟩, ⟨mr40, mt40⟩, ⟨mr41, mt41⟩, ⟨mr42, mt42⟩, ⟨mr43, mt43⟩⟩ := id lm; exact mt26
    have r31 : hR h q 31 = some (q + 28) := by obtain ⟨mt0, ⟨mr1, mt1⟩, ⟨mr2, mt2⟩, ⟨mr3, mt3⟩, ⟨mr4, mt4⟩, ⟨mr5, mt5⟩, ⟨mr6, mt6⟩, ⟨mr7, mt7⟩, ⟨mr8, mt8⟩, ⟨mr9, mt9⟩, ⟨mr10, mt10⟩, ⟨mr11, mt11⟩, ⟨mr12, mt12⟩, ⟨mr13, mt13⟩, ⟨mr14, mt14⟩, ⟨mr15, mt15⟩, ⟨mr16, mt16⟩, ⟨mr17, mt17⟩, ⟨mr18, mt18⟩, ⟨mr19, mt19⟩, ⟨mr20, mt20⟩, ⟨mr21, mt21⟩, ⟨mr22, mt22⟩, ⟨mr23, mt23⟩, ⟨mr24, mt24⟩, ⟨mr25, mt25⟩, ⟨mr26, mt26⟩, ⟨mr27, mt27⟩, ⟨mr28, mt28⟩, ⟨mr29, mt29⟩, ⟨mr30, mt30⟩, ⟨mr31, mt31⟩, ⟨mr32, mt32⟩, ⟨mr33, mt33⟩, ⟨mr34, mt34⟩, ⟨mr35, mt35⟩, ⟨mr36, mt36⟩, ⟨mr37, mt37⟩, ⟨mr38, mt38⟩, ⟨mr39, mt39⟩, ⟨mr40, mt40⟩, ⟨mr41, mt41⟩, ⟨mr42, mt42⟩, ⟨mr43, mt43⟩⟩ := id lm; exact mr28
    have t28 : hT h (q + 28) = some (.inr (.int, 18)) := by obtain ⟨mt0, ⟨mr1, mt1⟩, ⟨mr2, mt2⟩, ⟨mr3, mt3⟩, ⟨mr4, mt4⟩, ⟨mr5, mt5⟩, ⟨mr6, mt6⟩, ⟨mr7, mt7⟩, ⟨mr8, mt8⟩, ⟨mr9, mt9⟩, ⟨mr10, mt10⟩, ⟨mr11, mt11⟩, ⟨mr12, mt12⟩, ⟨mr13, mt13⟩, ⟨mr14, mt14⟩, ⟨mr15, mt15⟩, ⟨mr16, mt16⟩, ⟨mr17, mt17⟩, ⟨mr18, mt18⟩, ⟨mr19, mt19⟩, ⟨mr20, mt20⟩, ⟨mr21, mt21⟩, ⟨mr22, mt22⟩, ⟨mr23, mt23⟩, ⟨mr24, mt24⟩, ⟨mr25, mt25⟩, ⟨mr26, mt26⟩, ⟨mr27, mt27⟩, ⟨mr28, mt28⟩, ⟨mr29, mt29⟩, ⟨mr30, mt30⟩, ⟨mr31, mt31⟩, ⟨mr32, mt32⟩, ⟨mr33, mt33⟩, ⟨mr34, mt34⟩, ⟨mr35, mt35⟩, ⟨mr36, mt36⟩, ⟨mr37, mt37⟩, ⟨mr38, mt38⟩, ⟨mr39, mt39⟩, ⟨mr40, mt40⟩, ⟨mr41, mt41⟩, ⟨mr42, mt42⟩, ⟨mr43, mt43⟩⟩ := id lm; exact mt28
    unfold BX12_come_200 BX12_come_255
    rw [nl_16, if_lt (by omega) (by omega)]
    by_cases d : k < 16
    · have h8 := hl k d
      have h8' := hl' k d
      rw [if_pos d, gR_ok t0, r28, pk_mul, nI_add, aI_n t26 (by omega) (by decide), a2 k (by omega) d, nl_5, if_eq (by omega) (by decide), nI_1]
      have same : l k = 5 ∨ l k = l' k → Ok (BX12_come_200 n (some q) (nI i) (nI r) (b2i c) (nI (k + 1)) h) (Mg q i r h (dh (cmL l l')) (w || chg l l')) := by
        intro z
        refine ih (k + 1) h c (by omega) (by omega) lm hw a0 (fun j hj => ?_) (fun j h1 h2 => a2 j (by omega) h2) (a3.same z)
        by_cases e : j = k
        · subst e
          rw [a2 j (by omega) d]
          congr 1
          unfold cmL
          by_cases y : l j = l' j
          · rw [if_pos y]
          · rw [if_neg y]; omega
        · exact a1 j (by omega)
      by_cases c5 : l k = 5
      · rw [if_pos c5]; exact same (Or.inl c5)
      · rw [if_neg c5, gR_ok t0, r31, aI_n t28 (by omega) (by decide), a0 k d, if_eq (by omega) (by omega)]
        by_cases ce : l k = l' k
        · rw [if_pos ce]; exact same (Or.inr ce)
        · rw [if_neg ce, gR_ok t0, r28, sI_n t26 (by omega) (by decide)]
          have := ih (k + 1) (wI h (q + 26) (16 * r + k) (nI 5)) true (by omega) (by omega) lm (by rw [hI_wI_a (by omega)]; exact hw) (fun j hj => by rw [hI_wI_a (by omega)]; exact a0 j hj) (fun j hj => ?_) (fun j h1 h2 => by rw [hI_wI_k (by omega)]; exact a2 j (by omega) h2) (ChK.diff c5 ce)
          · refine this.mono (fun v g x => ?_)
            obtain ⟨y1, y2, y3, y4, y5, y6⟩ := x
            exact ⟨y1, y2, fun z hz => by rw [y3 z hz, hI_wI_k (by omega)], y4, fun z hz => by rw [y5 z hz, hI_wI_a (by omega)], (Fq.wA (A := fun b => b = q + 23 ∨ b = q + 26) (Or.inr rfl) (by omega)).trans y6⟩
          · by_cases e : j = k
            · subst e
              rw [hI_wI_s]
              unfold cmL
              rw [if_neg ce]
            · rw [hI_wI_k (by omega)]; exact a1 j (by omega)
    · have ek : k = 16 := by omega
      subst ek
      have ec := a3.all
      rw [if_neg d, nI_c0]
      have := cm_264 (L := cmL l l') (c := c) (w := w) hr hi (fun j hj => by unfold cmL; have := hl j hj; split <;> omega) (fun hf j hj => cm_lk (by rw [← ec]; exact hf) wl hj) 100000 0 h (by omega) (by omega) lm hw (fun j hj => by omega) (fun j _ hj => a1 j hj)
      rw [ec] at this ⊢; exact this
theorem cm_137y (lm : LM (hT h) (hR h) q) {i r d : Nat} {σ σ' : Nat → Nat} (hr : r < 480) (hd : d ≤ 12) (v1 : hI h q 29 = nI d) (v3 : ∀ p, p < d → hI h (q + 27) p = nI (σ' p)) (v5 : ∀ p, p < d → hI h (q + 25) (12 * r + p) = nI (σ p)) : ∀ n k, k ≤ d → d - k < n → (∀ p, k ≤ p → p < d → σ p = σ' p) → BX12_come_137 n (some q) (nI i) (nI r) 1 (nI k) h = BX12_come_200 100000 (some q) (nI i) (nI r) 0 0 h := by
  have t0 : hT h q = some (.inl 11) := lm.1
  have r27 : hR h q 27 = some (q + 25) := by obtain ⟨mt0, ⟨mr1, mt1⟩, ⟨mr2, mt2⟩, ⟨mr3, mt3⟩, ⟨mr4, mt4⟩, ⟨mr5, mt5⟩, ⟨mr6, mt6⟩, ⟨mr7, mt7⟩, ⟨mr8, mt8⟩, ⟨mr9, mt9⟩, ⟨mr10, mt10⟩, ⟨mr11, mt11⟩, ⟨mr12, mt12⟩, ⟨mr13, mt13⟩, ⟨mr14, mt14⟩, ⟨mr15, mt15⟩, ⟨mr16, mt16⟩, ⟨mr17, mt17⟩, ⟨mr18, mt18⟩, ⟨mr19, mt19⟩, ⟨mr20, mt20⟩, ⟨mr21, mt21⟩, ⟨mr22, mt22⟩, ⟨mr23, mt23⟩, ⟨mr24, mt24⟩, ⟨mr25, mt25⟩, ⟨mr26, mt26⟩, ⟨mr27, mt27⟩, ⟨mr28, mt28⟩, ⟨mr29, mt29⟩, ⟨mr30, mt30⟩, ⟨mr31, mt31⟩, ⟨mr32, mt32⟩, ⟨mr33, mt33⟩, ⟨mr34, mt34⟩, ⟨mr35, mt35⟩, ⟨mr36, mt36⟩, ⟨mr37, mt37⟩, ⟨mr38, mt38⟩, ⟨mr39, mt39⟩, ⟨mr40, mt40⟩, ⟨mr41, mt41⟩, ⟨mr42, mt42⟩, ⟨mr43, mt43⟩⟩ := id lm; exact mr25
  have t25 : hT h (q + 25) = some (.inr (.int, 5760)) := by obtain ⟨mt0, ⟨mr1, mt1⟩, ⟨mr2, mt2⟩, ⟨mr3, mt3⟩, ⟨mr4, mt4⟩, ⟨mr5, mt5⟩, ⟨mr6, mt6⟩, ⟨mr7, mt7⟩, ⟨mr8, mt8⟩, ⟨mr9, mt9⟩, ⟨mr10, mt10⟩, ⟨mr11, mt11⟩, ⟨mr12, mt12⟩, ⟨mr13, mt13⟩, ⟨mr14, mt14⟩, ⟨mr15, mt15⟩, ⟨mr16, mt16⟩, ⟨mr17, mt17⟩, ⟨mr18, mt18⟩, ⟨mr19, mt19⟩, ⟨mr20, mt20⟩, ⟨mr21, mt21⟩, ⟨mr22, mt22⟩, ⟨mr23, mt23⟩, ⟨mr24, mt24⟩, ⟨mr25, mt25⟩, ⟨mr26, mt26⟩, ⟨mr27, mt27⟩, ⟨mr28, mt28⟩, ⟨mr29, mt29⟩, ⟨mr30, mt30⟩, ⟨mr31, mt31⟩, ⟨mr32, mt32⟩, ⟨mr33, mt33⟩, ⟨mr34, mt34⟩, ⟨mr35, mt35⟩, ⟨mr36, mt36⟩, ⟨mr37, mt37⟩, ⟨mr38, mt38⟩, ⟨mr39, mt39⟩, ⟨mr40, mt40⟩, ⟨mr41, mt41⟩, ⟨mr42, mt42⟩, ⟨mr43, mt43⟩⟩ := id lm; exact mt25
  have r30 : hR h q 30 = some (q + 27) := by obtain ⟨mt0, ⟨mr1, mt1⟩, ⟨mr2, mt2⟩, ⟨mr3, mt3⟩, ⟨mr4, mt4⟩, ⟨mr5, mt5⟩, ⟨mr6, mt6⟩, ⟨mr7, mt7⟩, ⟨mr8, mt8⟩, ⟨mr9, mt9⟩, ⟨mr10, mt10⟩, ⟨mr11, mt11⟩, ⟨mr12, mt12⟩, ⟨mr13, mt13⟩, ⟨mr14, mt14⟩, ⟨mr15, mt15⟩, ⟨mr16, mt16⟩, ⟨mr17, mt17⟩, ⟨mr18, mt18⟩, ⟨mr19, mt19⟩, ⟨mr20, mt20⟩, ⟨mr21, mt21⟩, ⟨mr22, mt22⟩, ⟨mr23, mt23⟩, ⟨mr24, mt24⟩, ⟨mr25, mt25⟩, ⟨mr26, mt26⟩, ⟨mr27, mt27⟩, ⟨mr28, mt28⟩, ⟨mr29, mt29⟩, ⟨mr30, mt30⟩, ⟨mr31, mt31⟩, ⟨mr32, mt32⟩, ⟨mr33, mt33⟩, ⟨mr34, mt34⟩, ⟨mr35, mt35⟩, ⟨mr36, mt36⟩, ⟨mr37, mt37⟩, ⟨mr38, mt38⟩, ⟨mr39, mt39⟩, ⟨mr40, mt40⟩, ⟨mr41, mt41⟩, ⟨mr42, mt42⟩, ⟨mr43, mt43⟩⟩ := id lm; exact mr27
  have t27 : hT h (q + 27) = some (.inr (.int, 64)) := by obtain ⟨mt0, ⟨mr1, mt1⟩, ⟨mr2, mt2⟩, ⟨mr3, mt3⟩, ⟨mr4, mt4⟩, ⟨mr5, mt5⟩, ⟨mr6, mt6⟩, ⟨mr7, mt7⟩, ⟨mr8, mt8⟩, ⟨mr9, mt9⟩, ⟨mr10, mt10⟩, ⟨mr11, mt11⟩, ⟨mr12, mt12⟩, ⟨mr13, mt13⟩, ⟨mr14, mt14⟩, ⟨mr15, mt15⟩, ⟨mr16, mt16⟩, ⟨mr17, mt17⟩, ⟨mr18, mt18⟩, ⟨mr19, mt19⟩, ⟨mr20, mt20⟩, ⟨mr21, mt21⟩, ⟨mr22, mt22⟩, ⟨mr23, mt23⟩, ⟨mr24, mt24⟩, ⟨mr25, mt25⟩, ⟨mr26, mt26⟩, ⟨mr27, mt27⟩, ⟨mr28, mt28⟩, ⟨mr29, mt29⟩, ⟨mr30, mt30⟩, ⟨mr31, mt31⟩, ⟨mr32, mt32⟩, ⟨mr33, mt33⟩, ⟨mr34, mt34⟩, ⟨mr35, mt35⟩, ⟨mr36, mt36⟩, ⟨mr37, mt37⟩, ⟨mr38, mt38⟩, ⟨mr39, mt39⟩, ⟨mr40, mt40⟩, ⟨mr41, mt41⟩, ⟨mr42, mt42⟩, ⟨mr43, mt43⟩⟩ := id lm; exact mt27
  intro n
  induction n with
  | zero => intro k h1 h2; omega
  | succ n ih =>
    intro k h1 h2 he
    unfold BX12_come_137 BX12_come_186 BX12_come_178
    rw [gI_ok t0, v1, if_lt (by omega) (by omega)]
    by_cases c : k < d
    · rw [if_pos c, if_neg (by decide), gR_ok t0, r27, nl_12, pk_mul, nI_add, aI_n t25 (by omega) (by decide), v5 k c, gR_ok t0, r30, aI_n t27 (by omega) (by decide), v3 k c, he k (by omega) c, if_pos rfl, nI_1]
      exact ih (k + 1) (by omega) (by omega) (fun p h1 h2 => he p (by omega) h2)
    · rw [if_neg c, if_neg (by decide)]
theorem cm_137n (lm : LM (hT h) (hR h) q) {i r d : Nat} {σ σ' : Nat → Nat} (hr : r < 480) (hd : d ≤ 12) (v1 : hI h q 29 = nI d) (v3 : ∀ p, p < d → hI h (q + 27) p = nI (σ' p) ∧ σ' p < 8) {E : Prop} (v5 : E → ∀ p, p < d → hI h (q + 25) (12 * r + p) = nI (σ p) ∧ σ p < 8) : ∀ n k (b : Bool), k ≤ d → d - k < n → (b = true → E) → (b = false ∨ ∃ p, k ≤ p ∧ p < d ∧ σ p ≠ σ' p) → BX12_come_137 n (some q) (nI i) (nI r) (b2i b) (nI k) h = some (6, h) := by
  have t0 : hT h q = some (.inl 11) := lm.1
  have r27 : hR h q 27 = some (q + 25) := by obtain ⟨mt0, ⟨mr1, mt1⟩, ⟨mr2, mt2⟩, ⟨mr3, mt3⟩, ⟨mr4, mt4⟩, ⟨mr5, mt5⟩, ⟨mr6, mt6⟩, ⟨mr7, mt7⟩, ⟨mr8, mt8⟩, ⟨mr9, mt9⟩, ⟨mr10, mt10⟩, ⟨mr11, mt11⟩, ⟨mr12, mt12⟩, ⟨mr13, mt13⟩, ⟨mr14, mt14⟩, ⟨mr15, mt15⟩, ⟨mr16, mt16⟩, ⟨mr17, mt17⟩, ⟨mr18, mt18⟩, ⟨mr19, mt19⟩, ⟨mr20, mt20⟩, ⟨mr21, mt21⟩, ⟨mr22, mt22⟩, ⟨mr23, mt23⟩, ⟨mr24, mt24⟩, ⟨mr25, mt25⟩, ⟨mr26, mt26⟩, ⟨mr27, mt27⟩, ⟨mr28, mt28⟩, ⟨mr29, mt29⟩, ⟨mr30, mt30⟩, ⟨mr31, mt31⟩, ⟨mr32, mt32⟩, ⟨mr33, mt33⟩, ⟨mr34, mt34⟩, ⟨mr35, mt35⟩, ⟨mr36, mt36⟩, ⟨mr37, mt37⟩, ⟨mr38, mt38⟩, ⟨mr39, mt39⟩, ⟨mr40, mt40⟩, ⟨mr41, mt41⟩, ⟨mr42, mt42⟩, ⟨mr43, mt43⟩⟩ := id lm; exact mr25
  have t25 : hT h (q + 25) = some (.inr (.int, 5760)) := by obtain ⟨mt0, ⟨mr1, mt1⟩, ⟨mr2, mt2⟩, ⟨mr3, mt3⟩, ⟨mr4, mt4⟩, ⟨mr5, mt5⟩, ⟨mr6, mt6⟩, ⟨mr7, mt7⟩, ⟨mr8, mt8⟩, ⟨mr9, mt9⟩, ⟨mr10, mt10⟩, ⟨mr11, mt11⟩, ⟨mr12, mt12⟩, ⟨mr13, mt13⟩, ⟨mr14, mt14⟩, ⟨mr15, mt15⟩, ⟨mr16, mt16⟩, ⟨mr17, mt17⟩, ⟨mr18, mt18⟩, ⟨mr19, mt19⟩, ⟨mr20, mt20⟩, ⟨mr21, mt21⟩, ⟨mr22, mt22⟩, ⟨mr23, mt23⟩, ⟨mr24, mt24⟩, ⟨mr25, mt25⟩, ⟨mr26, mt26⟩, ⟨mr27, mt27⟩, ⟨mr28, mt28⟩, ⟨mr29, mt29⟩, ⟨mr30, mt30⟩, ⟨mr31, mt31⟩, ⟨mr32, mt32⟩, ⟨mr33, mt33⟩, ⟨mr34, mt34⟩, ⟨mr35, mt35⟩, ⟨mr36, mt36⟩, ⟨mr37, mt37⟩, ⟨mr38, mt38⟩, ⟨mr39, mt39⟩, ⟨mr40, mt40⟩, ⟨mr41, mt41⟩, ⟨mr42, mt42⟩, ⟨mr43, mt43⟩⟩ := id lm; exact mt25
  have r30 : hR h q 30 = some (q + 27) := by obtain ⟨mt0, ⟨mr1, mt1⟩, ⟨mr2, mt2⟩, ⟨mr3, mt3⟩, ⟨mr4, mt4⟩, ⟨mr5, mt5⟩, ⟨mr6, mt6⟩, ⟨mr7, mt7⟩, ⟨mr8, mt8⟩, ⟨mr9, mt9⟩, ⟨mr10, mt10⟩, ⟨mr11, mt11⟩, ⟨mr12, mt12⟩, ⟨mr13, mt13⟩, ⟨mr14, mt14⟩, ⟨mr15, mt15⟩, ⟨mr16, mt16⟩, ⟨mr17, mt17⟩, ⟨mr18, mt18⟩, ⟨mr19, mt19⟩, ⟨mr20, mt20⟩, ⟨mr21, mt21⟩, ⟨mr22, mt22⟩, ⟨mr23, mt23⟩, ⟨mr24, mt24⟩, ⟨mr25, mt25⟩, ⟨mr26, mt26⟩, ⟨mr27, mt27⟩, ⟨mr28, mt28⟩, ⟨mr29, mt29⟩, ⟨mr30, mt30⟩, ⟨mr31, mt31⟩, ⟨mr32, mt32⟩, ⟨mr33, mt33⟩, ⟨mr34, mt34⟩, ⟨mr35, mt35⟩, ⟨mr36, mt36⟩, ⟨mr37, mt37⟩, ⟨mr38, mt38⟩, ⟨mr39, mt39⟩, ⟨mr40, mt40⟩, ⟨mr41, mt41⟩, ⟨mr42, mt42⟩, ⟨mr43, mt43⟩⟩ := id lm; exact mr27
  have t27 : hT h (q + 27) = some (.inr (.int, 64)) := by obtain ⟨mt0, ⟨mr1, mt1⟩, ⟨mr2, mt2⟩, ⟨mr3, mt3⟩, ⟨mr4, mt4⟩, ⟨mr5, mt5⟩, ⟨mr6, mt6⟩, ⟨mr7, mt7⟩, ⟨mr8, mt8⟩, ⟨mr9, mt9⟩, ⟨mr10, mt10⟩, ⟨mr11, mt11⟩, ⟨mr12, mt12⟩, ⟨mr13, mt13⟩, ⟨mr14, mt14⟩, ⟨mr15, mt15⟩, ⟨mr16, mt16⟩, ⟨mr17, mt17⟩, ⟨mr18, mt18⟩, ⟨mr19, mt19⟩, ⟨mr20, mt20⟩, ⟨mr21, mt21⟩, ⟨mr22, mt22⟩, ⟨mr23, mt23⟩, ⟨mr24, mt24⟩, ⟨mr25, mt25⟩, ⟨mr26, mt26⟩, ⟨mr27, mt27⟩, ⟨mr28, mt28⟩, ⟨mr29, mt29⟩, ⟨mr30, mt30⟩, ⟨mr31, mt31⟩, ⟨mr32, mt32⟩, ⟨mr33, mt33⟩, ⟨mr34, mt34⟩, ⟨mr35, mt35⟩, ⟨mr36, mt36⟩, ⟨mr37, mt37⟩, ⟨mr38, mt38⟩, ⟨mr39, mt39⟩, ⟨mr40, mt40⟩, ⟨mr41, mt41⟩, ⟨mr42, mt42⟩, ⟨mr43, mt43⟩⟩ := id lm; exact mt27
  intro n
  induction n with
  | zero => intro k b h1 h2; omega
  | succ n ih =>
    intro k b h1 h2 hE he
    unfold BX12_come_137 BX12_come_186 BX12_come_178
    rw [gI_ok t0, v1, if_lt (by omega) (by omega)]
    cases b with
    | false =>
      by_cases c : k < d
      · rw [if_pos c, if_pos (by decide), if_pos (by decide)]
      · rw [if_neg c, if_pos (by decide)]
    | true =>
      obtain ⟨p, h3, h4, h5⟩ : ∃ p, k ≤ p ∧ p < d ∧ σ p ≠ σ' p := by
        rcases he with z | z
        · cases z
        · exact z
      have c : k < d := by omega
      have x5 := v5 (hE rfl) k c
      have x3 := v3 k c
      rw [if_pos c, if_neg (by decide), gR_ok t0, r27, nl_12, pk_mul, nI_add, aI_n t25 (by omega) (by decide), x5.1, gR_ok t0, r30, aI_n t27 (by omega) (by decide), x3.1, if_eq (by omega) (by omega), nI_1]
      by_cases e : σ k = σ' k
      · rw [if_pos e]
        exact ih (k + 1) true (by omega) (by omega) hE (Or.inr ⟨p, by
          by_cases z : p = k
          · subst z; exact absurd e h5
          · omega, h4, h5⟩)
      · rw [if_neg e]
        exact ih (k + 1) false (by omega) (by omega) (fun z => by cases z) (Or.inl rfl)
theorem m_come (lm : LM (hT h) (hR h) q) {i : Nat} {t : Tab} {s : Sh} (mt : Mt h q m t) (mw : Mw h q t) (tw : TW t) (mv : Mv h q s.1 s.2.1 s.2.2) (hd : s.1 ≤ 12) (hm : m < 8) (hi : i < 60) : Ok (FX12_come (some q) (nI m) (nI i) h) (CmR q m h (come t i s)) := by
  have hr : 60 * m + i < 480 := by omega
  cases ht : t.1 i with
  | none =>
    have := cm_nw lm mt mw mv hd hm hi ht
    unfold come
    rw [ht]
    exact this
  | some e =>
    obtain ⟨⟨v1, v2⟩, v3, v4⟩ := id mv
    obtain ⟨x1, x2⟩ := mt i hi
    obtain ⟨y1, y2, y3, y4⟩ := x2 e ht
    rw [ht] at x1
    have x1 : hI h (q + 22) (60 * m + i) = 1 := x1
    have t0 : hT h q = some (.inl 11) := lm.1
    have r24 : hR h q 24 = some (q + 22) := by obtain ⟨mt0, ⟨mr1, mt1⟩, ⟨mr2, mt2⟩, ⟨mr3, mt3⟩, ⟨mr4, mt4⟩, ⟨mr5, mt5⟩, ⟨mr6, mt6⟩, ⟨mr7, mt7⟩, ⟨mr8, mt8⟩, ⟨mr9, mt9⟩, ⟨mr10, mt10⟩, ⟨mr11, mt11⟩, ⟨mr12, mt12⟩, ⟨mr13, mt13⟩, ⟨mr14, mt14⟩, ⟨mr15, mt15⟩, ⟨mr16, mt16⟩, ⟨mr17, mt17⟩, ⟨mr18, mt18⟩, ⟨mr19, mt19⟩, ⟨mr20, mt20⟩, ⟨mr21, mt21⟩, ⟨mr22, mt22⟩, ⟨mr23, mt23⟩, ⟨mr24, mt24⟩, ⟨mr25, mt25⟩, ⟨mr26, mt26⟩, ⟨mr27, mt27⟩, ⟨mr28, mt28⟩, ⟨mr29, mt29⟩, ⟨mr30, mt30⟩, ⟨mr31, mt31⟩, ⟨mr32, mt32⟩, ⟨mr33, mt33⟩, ⟨mr34, mt34⟩, ⟨mr35, mt35⟩, ⟨mr36, mt36⟩, ⟨mr37, mt37⟩, ⟨mr38, mt38⟩, ⟨mr39, mt39⟩, ⟨mr40, mt40⟩, ⟨mr41, mt41⟩, ⟨mr42, mt42⟩, ⟨mr43, mt43⟩⟩ := id lm; exact mr22
    have t22 : hT h (q + 22) = some (.inr (.boolean, 480)) := by obtain ⟨mt0, ⟨mr1, mt1⟩, ⟨mr2, mt2⟩, ⟨mr3, mt3⟩, ⟨mr4, mt4⟩, ⟨mr5, mt5⟩, ⟨mr6, mt6⟩, ⟨mr7, mt7⟩, ⟨mr8, mt8⟩, ⟨mr9, mt9⟩, ⟨mr10, mt10⟩, ⟨mr11, mt11⟩, ⟨mr12, mt12⟩, ⟨mr13, mt13⟩, ⟨mr14, mt14⟩, ⟨mr15, mt15⟩, ⟨mr16, mt16⟩, ⟨mr17, mt17⟩, ⟨mr18, mt18⟩, ⟨mr19, mt19⟩, ⟨mr20, mt20⟩, ⟨mr21, mt21⟩, ⟨mr22, mt22⟩, ⟨mr23, mt23⟩, ⟨mr24, mt24⟩, ⟨mr25, mt25⟩, ⟨mr26, mt26⟩, ⟨mr27, mt27⟩, ⟨mr28, mt28⟩, ⟨mr29, mt29⟩, ⟨mr30, mt30⟩, ⟨mr31, mt31⟩, ⟨mr32, mt32⟩, ⟨mr33, mt33⟩, ⟨mr34, mt34⟩, ⟨mr35, mt35⟩, ⟨mr36, mt36⟩, ⟨mr37, mt37⟩, ⟨mr38, mt38⟩, ⟨mr39, mt39⟩, ⟨mr40, mt40⟩, ⟨mr41, mt41⟩, ⟨mr42, mt42⟩, ⟨mr43, mt43⟩⟩ := id lm; exact mt22
    have r26 : hR h q 26 = some (q + 24) := by obtain ⟨mt0, ⟨mr1, mt1⟩, ⟨mr2, mt2⟩, ⟨mr3, mt3⟩, ⟨mr4, mt4⟩, ⟨mr5, mt5⟩, ⟨mr6, mt6⟩, ⟨mr7, mt7⟩, ⟨mr8, mt8⟩, ⟨mr9, mt9⟩, ⟨mr10, mt10⟩, ⟨mr11, mt11⟩, ⟨mr12, mt12⟩, ⟨mr13, mt13⟩, ⟨mr14, mt14⟩, ⟨mr15, mt15⟩, ⟨mr16, mt16⟩, ⟨mr17, mt17⟩, ⟨mr18, mt18⟩, ⟨mr19, mt19⟩, ⟨mr20, mt20⟩, ⟨mr21, mt21⟩, ⟨mr22, mt22⟩, ⟨mr23, mt23⟩, ⟨mr24, mt24⟩, ⟨mr25, mt25⟩, ⟨mr26, mt26⟩, ⟨mr27, mt27⟩, ⟨mr28, mt28⟩, ⟨mr29, mt29⟩, ⟨mr30, mt30⟩, ⟨mr31, mt31⟩, ⟨mr32, mt32⟩, ⟨mr33, mt33⟩, ⟨mr34, mt34⟩, ⟨mr35, mt35⟩, ⟨mr36, mt36⟩, ⟨mr37, mt37⟩, ⟨mr38, mt38⟩, ⟨mr39, mt39⟩, ⟨mr40, mt40⟩, ⟨mr41, mt41⟩, ⟨mr42, mt42⟩, ⟨mr43, mt43⟩⟩ := id lm; exact mr24
    have t24 : hT h (q + 24) = some (.inr (.int, 480)) := by obtain ⟨mt0, ⟨mr1, mt1⟩, ⟨mr2, mt2⟩, ⟨mr3, mt3⟩, ⟨mr4, mt4⟩, ⟨mr5, mt5⟩, ⟨mr6, mt6⟩, ⟨mr7, mt7⟩, ⟨mr8, mt8⟩, ⟨mr9, mt9⟩, ⟨mr10, mt10⟩, ⟨mr11, mt11⟩, ⟨mr12, mt12⟩, ⟨mr13, mt13⟩, ⟨mr14, mt14⟩, ⟨mr15, mt15⟩, ⟨mr16, mt16⟩, ⟨mr17, mt17⟩, ⟨mr18, mt18⟩, ⟨mr19, mt19⟩, ⟨mr20, mt20⟩, ⟨mr21, mt21⟩, ⟨mr22, mt22⟩, ⟨mr23, mt23⟩, ⟨mr24, mt24⟩, ⟨mr25, mt25⟩, ⟨mr26, mt26⟩, ⟨mr27, mt27⟩, ⟨mr28, mt28⟩, ⟨mr29, mt29⟩, ⟨mr30, mt30⟩, ⟨mr31, mt31⟩, ⟨mr32, mt32⟩, ⟨mr33, mt33⟩, ⟨mr34, mt34⟩, ⟨mr35, mt35⟩, ⟨mr36, mt36⟩, ⟨mr37, mt37⟩, ⟨mr38, mt38⟩, ⟨mr39, mt39⟩, ⟨mr40, mt40⟩, ⟨mr41, mt41⟩, ⟨mr42, mt42⟩, ⟨mr43, mt43⟩⟩ := id lm; exact mt24
    have no : ∀ b : Bool, (b = true → e = s.1) → (b = false ∨ ∃ p, 0 ≤ p ∧ p < s.1 ∧ t.2.1 i p ≠ s.2.1 p) → BX12_come_132 (some q) (nI i) (nI (60 * m + i)) (b2i b) h = some (6, h) := by
      intro b h1 h2
      unfold BX12_come_132
      rw [nI_c0]
      exact cm_137n (σ := t.2.1 i) (σ' := s.2.1) lm hr hd v1 v3 (E := e = s.1) (fun z p hp => y3 p (by omega)) 100000 0 b (by omega) (by omega) h1 h2
    have stay : Ok (some ((6 : Int32), h)) (CmR q m h (false, t)) := ok_some ⟨rfl, mt, mw, Fq.refl, Fo.refl⟩
    unfold FX12_come
    rw [gR_ok t0, r24, nl_60, pk_mul, nI_add, aI_n t22 hr (by decide), x1, if_neg (by decide), gR_ok t0, r26, aI_n t24 hr (by decide), y2, gI_ok t0, v1, if_eq (by omega) (by omega)]
    unfold come
    rw [ht]
    dsimp only
    by_cases ce : e = s.1
    · rw [if_pos ce]
      cases hk : likeS e (t.2.1 i) s.2.1 with
      | false =>
        rw [if_neg (fun z => by cases z.2)]
        have := no true (fun _ => ce) (Or.inr (by
          have hk2 : ¬ ∀ k, k < e → t.2.1 i k = s.2.1 k := fun z => by rw [likeS_iff.mpr z] at hk; cases hk
          by_cases c : ∃ p, 0 ≤ p ∧ p < s.1 ∧ t.2.1 i p ≠ s.2.1 p
          · exact c
          · exact absurd (fun k hk => by
              by_cases c2 : t.2.1 i k = s.2.1 k
              · exact c2
              · exact absurd ⟨k, by omega, by omega, c2⟩ c) hk2))
        rw [show b2i true = 1 from rfl] at this
        rw [this]
        exact stay
      | true =>
        rw [if_pos ⟨ce, rfl⟩]
        have lk := likeS_iff.mp hk
        unfold BX12_come_132
        rw [nI_c0, cm_137y (σ := t.2.1 i) (σ' := s.2.1) lm hr hd v1 (fun p hp => (v3 p hp).1) (fun p hp => (y3 p (by omega)).1) 100000 0 (by omega) (by omega) (fun p _ hp => lk p (by omega))]
        have := cm_200 (q := q) (i := i) (r := 60 * m + i) (l := t.2.2.1 i) (l' := s.2.2) (w := t.2.2.2 i) hr hi (fun j hj => (y4 j hj).2) (fun j hj => (v4 j hj).2) (tw i e ht).2 100000 0 h false (by omega) (by omega) lm (mw i hi) (fun j hj => (v4 j hj).1) (fun j hj => by omega) (fun j _ hj => (y4 j hj).1) ChK.zero
        refine this.mono (fun v g x => ?_)
        obtain ⟨z1, z2, z3, z4, z5, z6⟩ := x
        have n22 : hI g (q + 22) = hI h (q + 22) := z6.2.2.2.2.1 _ (by omega) (by omega)
        have n24 : hI g (q + 24) = hI h (q + 24) := z6.2.2.2.2.1 _ (by omega) (by omega)
        have n25 : hI g (q + 25) = hI h (q + 25) := z6.2.2.2.2.1 _ (by omega) (by omega)
        refine ⟨z1, ?_, ?_, z6.mono (fun _ z => z) (fun b z => by unfold A26; omega), ?_⟩
        · intro j hj
          have y := mt j hj
          cases hc : chg (t.2.2.1 i) s.2.2 with
          | true =>
            rw [if_pos rfl]
            unfold tb_mod
            dsimp only
            rw [n22, n24, n25]
            refine ⟨y.1, fun e' he' => ?_⟩
            obtain ⟨u1, u2, u3, u4⟩ := y.2 e' he'
            refine ⟨u1, u2, u3, fun k hk16 => ?_⟩
            by_cases c : j = i
            · subst c
              rw [va_s]
              exact ⟨z2 k hk16, dh_lt (fun x hx => by unfold cmL; have := (y4 x hx).2; split <;> omega) hk16⟩
            · rw [va_n _ _ c, z3 _ (by omega)]; exact u4 k hk16
          | false =>
            rw [if_neg (by decide), n22, n24, n25]
            refine ⟨y.1, fun e' he' => ?_⟩
            obtain ⟨u1, u2, u3, u4⟩ := y.2 e' he'
            refine ⟨u1, u2, u3, fun k hk16 => ?_⟩
            by_cases c : j = i
            · subst c
              rw [z2 k hk16]
              refine ⟨?_, (y4 k hk16).2⟩
              rw [dh_n (cm_lk hc (tw j e ht).2 hk16), cm_same hc k hk16]
            · rw [z3 _ (by omega)]; exact u4 k hk16
        · intro j hj
          cases hc : chg (t.2.2.1 i) s.2.2 with
          | true =>
            rw [if_pos rfl]
            unfold tb_mod
            dsimp only
            rw [hc, Bool.or_true] at z4
            by_cases c : j = i
            · subst c; rw [va_s, z4]
            · rw [va_n _ _ c, z5 j c]; exact mw j hj
          | false =>
            rw [if_neg (by decide)]
            rw [hc, Bool.or_false] at z4
            by_cases c : j = i
            · subst c; exact z4
            · rw [z5 j c]; exact mw j hj
        · intro x hx
          rw [n22, n24, n25]
          exact ⟨rfl, rfl, fun _ _ => rfl, fun k hk => z3 _ (by omega)⟩
    · rw [if_neg ce, if_neg (fun z => ce z.1)]
      have := no false (fun z => by cases z) (Or.inl rfl)
      rw [show b2i false = 0 from rfl] at this
      rw [this]
      exact stay
end MG
