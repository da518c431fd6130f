/-! the model: keep, goOn, sendOn -/
def FJ : Nat → Prop := fun k => k = 29 ∨ k = 32 ∨ k = 33 ∨ k = 37
def AJm (q : Nat) : Nat → Prop := fun b => (q + 22 ≤ b ∧ b ≤ q + 28) ∨ (q + 30 ≤ b ∧ b ≤ q + 32)
def F33 : Nat → Prop := fun k => k = 32 ∨ k = 33
def F37 : Nat → Prop := fun k => k = 37
def A32 (q : Nat) : Nat → Prop := fun b => b = q + 31 ∨ b = q + 32
def Fj (q m : Nat) (h g : Hp) : Prop := Fq q FJ (AJm q) h g ∧ Fo q m h g
def Mb (h : Hp) (q : Nat) (s : Sh) : Prop := (hI h q 37 = nI s.1 ∧ s.1 ≤ 12) ∧ (∀ p, p < s.1 → hI h (q + 31) p = nI (s.2.1 p) ∧ s.2.1 p < 8) ∧ ∀ j, j < 16 → hI h (q + 32) j = nI (s.2.2 j) ∧ s.2.2 j < 8
def JS (h : Hp) (q : Nat) (P : Pg) (m : Nat) (t : Tab) : Prop := LM (hT h) (hR h) q ∧ PM h q P ∧ Mt h q m t ∧ Mw h q t ∧ TW t
section MH
variable {h g : Hp} {q m : Nat} {P : Pg} {t : Tab} {s : Sh}
theorem Fj.refl : Fj q m h h := ⟨Fq.refl, Fo.refl⟩
theorem Fj.trans {k : Hp} (a : Fj q m h g) (b : Fj q m g k) : Fj q m h k := ⟨a.1.trans b.1, a.2.trans b.2⟩
theorem Fj.of {F A : Nat → Prop} (f : Fq q F A h g) (hF : ∀ k, F k → FJ k) (hA : ∀ b, A b → b = q + 23 ∨ b = q + 27 ∨ b = q + 28 ∨ (q + 30 ≤ b ∧ b ≤ q + 32)) : Fj q m h g := ⟨f.mono hF (fun b z => by have := hA b z; unfold AJm; omega), Fo.fq f (fun b h1 h2 h3 z => by have := hA _ z; omega)⟩
theorem Mb.fq {F A : Nat → Prop} (v : Mb h q s) (f : Fq q F A h g) (hF : ¬ F 37) (h1 : ¬ A (q + 31)) (h2 : ¬ A (q + 32)) : Mb g q s := by
  unfold Mb at v ⊢
  rw [f.2.2.2.2.2 37 hF, f.2.2.2.2.1 _ (by omega) h1, f.2.2.2.2.1 _ (by omega) h2]
  exact v
theorem nFJ : ¬ FJ 0 ∧ ¬ FJ 15 ∧ ¬ FJ 17 := ⟨by unfold FJ; omega, by unfold FJ; omega, by unfold FJ; omega⟩
theorem nAJ : ∀ b, b ≤ 21 → b ≠ 14 → ¬ AJm q (q + b) := fun b h1 h2 => by unfold AJm; omega
/-- what touches neither table nor waits -/
theorem JS.fq {F A : Nat → Prop} (js : JS h q P m t) (f : Fq q F A h g) (hF : ¬ F 0 ∧ ¬ F 15 ∧ ¬ F 17) (hA : ∀ b, b ≤ 26 → b ≠ 14 → ¬ A (q + b)) : JS g q P m t := ⟨js.1.fq f, js.2.1.fq f (fun b h1 h2 => hA b (by omega) h2) hF, js.2.2.1.fq f (fun b h1 h2 h3 => hA b h2 (by omega)), js.2.2.2.1.fq f (hA 23 (by omega) (by omega)), js.2.2.2.2⟩
theorem f_wrong (t0 : hT h q = some (.inl 11)) (x y z : Int32) : FX12_wrong (some q) x y z h = some (-10 - z, wI (wI h q 32 x) q 33 y) := by
  unfold FX12_wrong
  rw [pI_ok t0, pI_ok (show hT (wI h q 32 x) q = _ from t0)]
theorem q3233 {x y : Int32} : Fq q F33 (fun _ => False) h (wI (wI h q 32 x) q 33 y) := (Fq.wF (F := F33) (Or.inl rfl)).trans (Fq.wF (F := F33) (Or.inr rfl))
theorem n33a : ¬ F33 0 ∧ ¬ F33 15 ∧ ¬ F33 17 := ⟨by unfold F33; omega, by unfold F33; omega, by unfold F33; omega⟩
theorem JS.wr (js : JS h q P m t) {x y : Int32} : JS (wI (wI h q 32 x) q 33 y) q P m t ∧ Fj q m h (wI (wI h q 32 x) q 33 y) ∧ hI (wI (wI h q 32 x) q 33 y) q 32 = x ∧ hI (wI (wI h q 32 x) q 33 y) q 33 = y :=
  ⟨js.fq q3233 n33a (fun _ _ _ z => z), Fj.of q3233 (fun k z => by unfold F33 at z; unfold FJ; omega) (fun _ z => z.elim), by rw [hI_wI_k (by omega), hI_wI_s], hI_wI_s⟩
theorem js_come (js : JS h q P m t) {i : Nat} (mv : Mv h q s.1 s.2.1 s.2.2) (hd : s.1 ≤ 12) (w1 : wfS s.1 s.2.1) (w2 : wfS 16 s.2.2) (hm : m < 8) (hi : i < 60) : Ok (FX12_come (some q) (nI m) (nI i) h) (fun r g => r = (if (come t i s).1 = true then 0 else 6) ∧ JS g q P m (come t i s).2 ∧ Fq q Fz (A26 q) h g ∧ Fo q m h g) := by
  obtain ⟨lm, pm, mt, mw, tw⟩ := js
  refine (m_come lm mt mw tw mv hd hm hi).mono (fun r g x => ?_)
  obtain ⟨x1, x2, x3, x4, x5⟩ := x
  exact ⟨x1, ⟨lm.fq x4, pm.fq x4 (fun b h1 h2 => by unfold A26; omega) ⟨fun z => z, fun z => z, fun z => z⟩, x2, x3, tw_come tw w1 w2⟩, x4, x5⟩
theorem keep38 (lm : LM (hT h) (hR h) q) : BX12_keep_38 100000 (some q) 0 h = some ((), wIr h (q + 32) (ic (hI h (q + 28)) (hI h (q + 32)) 0 0 16)) := by
  obtain ⟨mt0, ⟨mr1, mt1⟩, ⟨mr2, mt2⟩, ⟨mr3, mt3⟩, ⟨mr4, mt4⟩, ⟨mr5, mt5⟩, ⟨mr6, mt6⟩, ⟨mr7, mt7⟩, ⟨mr8, mt8⟩, ⟨mr9, mt9⟩, ⟨mr10, mt10⟩, ⟨mr11, mt11⟩, ⟨mr12, mt12⟩, ⟨mr13, mt13⟩, ⟨mr14, mt14⟩, ⟨mr15, mt15⟩, ⟨mr16, mt16⟩, ⟨mr17, mt17⟩, ⟨mr18, mt18⟩, ⟨mr19, mt19⟩, ⟨mr20, mt20⟩, ⟨mr21, mt21⟩, ⟨mr22, mt22⟩, ⟨mr23, mt23⟩, ⟨mr24, mt24⟩, ⟨mr25, mt25⟩, ⟨mr26, mt26⟩, ⟨mr27, mt27⟩, ⟨mr28, mt28⟩, ⟨mr29, mt29⟩, ⟨mr30, mt30⟩, ⟨mr31, mt31⟩, ⟨mr32, mt32⟩, ⟨mr33, mt33⟩, ⟨mr34, mt34⟩, ⟨mr35, mt35⟩, ⟨mr36, mt36⟩, ⟨mr37, mt37⟩, ⟨mr38, mt38⟩, ⟨mr39, mt39⟩, ⟨mr40, mt40⟩, ⟨mr41, mt41⟩, ⟨mr42, mt42⟩, ⟨mr43, mt43⟩⟩ := id lm
  refine cpl (fun n k h => BX12_keep_38 n (some q) k h) (fun g => some ((), g)) 0 0 16 (hI h (q + 28)) (by omega) (fun n k g hk e1 e2 e3 => ?_) (fun n g e1 e2 e3 => ?_)
  · show BX12_keep_38 (n + 1) _ _ _ = _
    rw [BX12_keep_38]
    simp (disch := first | assumption | omega | decide | (simp only [hT_wI, hT_wL, hT_wR, hT_wLr, e1, e2]; assumption)) only [↓reduceIte, Nat.reduceEqDiff, Nat.reduceLT, Nat.reduceLeDiff, Nat.reduceAdd, Nat.reduceSub, Nat.reduceMul, or_self, or_true, true_or, or_false, false_or, and_self, and_true, true_and, and_false, false_and, if_true, if_false, ↓gI_ok, ↓gL_ok, ↓gR_ok, ↓pI_ok, ↓pL_ok, ↓pR_ok, ↓rcv_ok, ↓nz_ok, ↓nz_no, ↓aI_n, ↓aL_n, ↓aR_n, ↓sI_n, ↓sL_n, ↓sR_n, ↓cl_ok, ↓bz_0, ↓bz_1, hT_wI, hT_wL, hT_wR, hT_wLr, hR_wI, hR_wL, hR_wLr, hI_wL, hI_wR, hI_wLr, hL_wI, hL_wR, nI_add, nI_1, pk_mul, if_lt, if_eq, if_eqL, ie_0, ie_1, il_0, il_1, ir_0, ir_1, ie_m, il_m, bz_b, ib_0, i_10, i_01, i_0m, i_1m, i_m0, i_ml0, b2i_if, bz_i, nI_p1, nl_2, nl_3, nl_4, nl_5, nl_6, nl_7, nl_8, nl_9, nl_10, nl_11, nl_12, nl_13, nl_14, nl_15, nl_16, nl_17, nl_18, nl_19, nl_20, nl_21, nl_22, nl_23, nl_24, nl_25, nl_26, nl_27, nl_28, nl_29, nl_30, nl_31, nl_32, nl_33, nl_34, nl_35, nl_36, nl_37, nl_38, nl_39, nl_40, nl_41, nl_42, nl_43, nl_44, nl_45, nl_46, nl_47, nl_48, nl_49, nl_50, nl_51, nl_52, nl_53, nl_54, nl_55, nl_56, nl_57, nl_58, nl_59, nl_60, nl_61, nl_62, nl_63, nl_64, nl_100, nl_480, nl_1020, nl_3000, e1, e2, mr28, mr32, hk]
    rw [e3 _ (by omega), Nat.zero_add]
  · show BX12_keep_38 (n + 1) _ _ _ = _
    rw [BX12_keep_38]
    rw [if_neg (by decide)]
theorem keep10 (lm : LM (hT h) (hR h) q) {e : Nat} (he : e ≤ 12) (h29 : hI h q 29 = nI e) : BX12_keep_10 100000 (some q) 0 h = BX12_keep_38 100000 (some q) 0 (wIr h (q + 31) (ic (hI h (q + 27)) (hI h (q + 31)) 0 0 e)) := by
  obtain ⟨mt0, ⟨mr1, mt1⟩, ⟨mr2, mt2⟩, ⟨mr3, mt3⟩, ⟨mr4, mt4⟩, ⟨mr5, mt5⟩, ⟨mr6, mt6⟩, ⟨mr7, mt7⟩, ⟨mr8, mt8⟩, ⟨mr9, mt9⟩, ⟨mr10, mt10⟩, ⟨mr11, mt11⟩, ⟨mr12, mt12⟩, ⟨mr13, mt13⟩, ⟨mr14, mt14⟩, ⟨mr15, mt15⟩, ⟨mr16, mt16⟩, ⟨mr17, mt17⟩, ⟨mr18, mt18⟩, ⟨mr19, mt19⟩, ⟨mr20, mt20⟩, ⟨mr21, mt21⟩, ⟨mr22, mt22⟩, ⟨mr23, mt23⟩, ⟨mr24, mt24⟩, ⟨mr25, mt25⟩, ⟨mr26, mt26⟩, ⟨mr27, mt27⟩, ⟨mr28, mt28⟩, ⟨mr29, mt29⟩, ⟨mr30, mt30⟩, ⟨mr31, mt31⟩, ⟨mr32, mt32⟩, ⟨mr33, mt33⟩, ⟨mr34, mt34⟩, ⟨mr35, mt35⟩, ⟨mr36, mt36⟩, ⟨mr37, mt37⟩, ⟨mr38, mt38⟩, ⟨mr39, mt39⟩, ⟨mr40, mt40⟩, ⟨mr41, mt41⟩, ⟨mr42, mt42⟩, ⟨mr43, mt43⟩⟩ := id lm
  refine cpl (fun n k h => BX12_keep_10 n (some q) k h) (fun g => BX12_keep_38 100000 (some q) 0 g) 0 0 e (hI h (q + 27)) (by omega) (fun n k g hk e1 e2 e3 => ?_) (fun n g e1 e2 e3 => ?_)
  · show BX12_keep_10 (n + 1) _ _ _ = _
    rw [BX12_keep_10]
    have e29 : hI g q 29 = nI e := by rw [e3 _ (by omega)]; exact h29
    simp (disch := first | assumption | omega | decide | (simp only [hT_wI, hT_wL, hT_wR, hT_wLr, e1, e2]; assumption)) only [↓reduceIte, Nat.reduceEqDiff, Nat.reduceLT, Nat.reduceLeDiff, Nat.reduceAdd, Nat.reduceSub, Nat.reduceMul, or_self, or_true, true_or, or_false, false_or, and_self, and_true, true_and, and_false, false_and, if_true, if_false, ↓gI_ok, ↓gL_ok, ↓gR_ok, ↓pI_ok, ↓pL_ok, ↓pR_ok, ↓rcv_ok, ↓nz_ok, ↓nz_no, ↓aI_n, ↓aL_n, ↓aR_n, ↓sI_n, ↓sL_n, ↓sR_n, ↓cl_ok, ↓bz_0, ↓bz_1, hT_wI, hT_wL, hT_wR, hT_wLr, hR_wI, hR_wL, hR_wLr, hI_wL, hI_wR, hI_wLr, hL_wI, hL_wR, nI_add, nI_1, pk_mul, if_lt, if_eq, if_eqL, ie_0, ie_1, il_0, il_1, ir_0, ir_1, ie_m, il_m, bz_b, ib_0, i_10, i_01, i_0m, i_1m, i_m0, i_ml0, b2i_if, bz_i, nI_p1, nl_2, nl_3, nl_4, nl_5, nl_6, nl_7, nl_8, nl_9, nl_10, nl_11, nl_12, nl_13, nl_14, nl_15, nl_16, nl_17, nl_18, nl_19, nl_20, nl_21, nl_22, nl_23, nl_24, nl_25, nl_26, nl_27, nl_28, nl_29, nl_30, nl_31, nl_32, nl_33, nl_34, nl_35, nl_36, nl_37, nl_38, nl_39, nl_40, nl_41, nl_42, nl_43, nl_44, nl_45, nl_46, nl_47, nl_48, nl_49, nl_50, nl_51, nl_52, nl_53, nl_54, nl_55, nl_56, nl_57, nl_58, nl_59, nl_60, nl_61, nl_62, nl_63, nl_64, nl_100, nl_480, nl_1020, nl_3000, e1, e2, mr31, mr27, hk, e29]
    rw [e3 _ (by omega), Nat.zero_add]
  · show BX12_keep_10 (n + 1) _ _ _ = _
    rw [BX12_keep_10]
    have e29 : hI g q 29 = nI e := by rw [e3 _ (by omega)]; exact h29
    have t0 : hT g q = some (.inl 11) := by rw [e1]; exact mt0
    rw [gI_ok t0, e29, if_lt (by omega) (by omega), if_neg (by omega)]
theorem ic_in0 {s d : Nat → Int32} {n i : Nat} (hi : i < n) : ic s d 0 0 n i = s i := by
  have := ic_in (s := s) (d := d) (sp := 0) (dp := 0) hi
  rw [Nat.zero_add] at this
  exact this
theorem m_keep (lm : LM (hT h) (hR h) q) (mv : Mv h q s.1 s.2.1 s.2.2) (hd : s.1 ≤ 12) : Ok (FX12_keep (some q) h) (fun _ g => Mb g q s ∧ Fq q F37 (A32 q) h g) := by
  obtain ⟨⟨v1, v2⟩, v3, v4⟩ := mv
  have t0 : hT h q = some (.inl 11) := lm.1
  unfold FX12_keep
  have e29 : hI (wI h q 37 (nI s.1)) q 29 = nI s.1 := by rw [hI_wI_k (by omega)]; exact v1
  rw [gI_ok t0, v1, pI_ok t0, keep10 (h := wI h q 37 (nI s.1)) lm hd e29, keep38 (h := wIr (wI h q 37 (nI s.1)) (q + 31) _) lm]
  refine ok_some ⟨⟨⟨?_, hd⟩, fun p hp => ?_, fun j hj => ?_⟩, ((Fq.wF (F := F37) rfl).trans (Fq.wIr (A := A32 q) (Or.inl rfl) (by omega))).trans (Fq.wIr (A := A32 q) (Or.inr rfl) (by omega))⟩
  · rw [hI_wIr_a (by omega), hI_wIr_a (by omega), hI_wI_s]
  · rw [hI_wIr_a (by omega), hI_wIr_s, ic_in0 hp, hI_wI_a (by omega)]
    exact v3 p hp
  · rw [hI_wIr_s, ic_in0 hj, hI_wIr_a (by omega), hI_wI_a (by omega)]
    exact v4 j hj
theorem goOn38 (lm : LM (hT h) (hR h) q) (x y : Int32) : BX12_goOn_38 100000 (some q) x y 0 h = (fun g => rcv g (some q) 11 <| cl (FX12_come (some q) x y g) fun v23 h24 => if v23 = 0 then some (0, h24) else rcv h24 (some q) 11 <| cl (FX12_wrong (some q) x y 6 h24) fun v30 h31 => some (v30, h31)) (wIr h (q + 28) (ic (hI h (q + 32)) (hI h (q + 28)) 0 0 16)) := by
  obtain ⟨mt0, ⟨mr1, mt1⟩, ⟨mr2, mt2⟩, ⟨mr3, mt3⟩, ⟨mr4, mt4⟩, ⟨mr5, mt5⟩, ⟨mr6, mt6⟩, ⟨mr7, mt7⟩, ⟨mr8, mt8⟩, ⟨mr9, mt9⟩, ⟨mr10, mt10⟩, ⟨mr11, mt11⟩, ⟨mr12, mt12⟩, ⟨mr13, mt13⟩, ⟨mr14, mt14⟩, ⟨mr15, mt15⟩, ⟨mr16, mt16⟩, ⟨mr17, mt17⟩, ⟨mr18, mt18⟩, ⟨mr19, mt19⟩, ⟨mr20, mt20⟩, ⟨mr21, mt21⟩, ⟨mr22, mt22⟩, ⟨mr23, mt23⟩, ⟨mr24, mt24⟩, ⟨mr25, mt25⟩, ⟨mr26, mt26⟩, ⟨mr27, mt27⟩, ⟨mr28, mt28⟩, ⟨mr29, mt29⟩, ⟨mr30, mt30⟩, ⟨mr31, mt31⟩, ⟨mr32, mt32⟩, ⟨mr33, mt33⟩, ⟨mr34, mt34⟩, ⟨mr35, mt35⟩, ⟨mr36, mt36⟩, ⟨mr37, mt37⟩, ⟨mr38, mt38⟩, ⟨mr39, mt39⟩, ⟨mr40, mt40⟩, ⟨mr41, mt41⟩, ⟨mr42, mt42⟩, ⟨mr43, mt43⟩⟩ := id lm
  refine cpl (fun n k h => BX12_goOn_38 n (some q) x y k h) (fun g => rcv g (some q) 11 <| cl (FX12_come (some q) x y g) fun v23 h24 => if v23 = 0 then some (0, h24) else rcv h24 (some q) 11 <| cl (FX12_wrong (some q) x y 6 h24) fun v30 h31 => some (v30, h31)) 0 0 16 (hI h (q + 32)) (by omega) (fun n k g hk e1 e2 e3 => ?_) (fun n g e1 e2 e3 => ?_)
  · show BX12_goOn_38 (n + 1) _ _ _ _ _ = _
    rw [BX12_goOn_38]
    simp (disch := first | assumption | omega | decide | (simp only [hT_wI, hT_wL, hT_wR, hT_wLr, e1, e2]; assumption)) only [↓reduceIte, Nat.reduceEqDiff, Nat.reduceLT, Nat.reduceLeDiff, Nat.reduceAdd, Nat.reduceSub, Nat.reduceMul, or_self, or_true, true_or, or_false, false_or, and_self, and_true, true_and, and_false, false_and, if_true, if_false, ↓gI_ok, ↓gL_ok, ↓gR_ok, ↓pI_ok, ↓pL_ok, ↓pR_ok, ↓rcv_ok, ↓nz_ok, ↓nz_no, ↓aI_n, ↓aL_n, ↓aR_n, ↓sI_n, ↓sL_n, ↓sR_n, ↓cl_ok, ↓bz_0, ↓bz_1, hT_wI, hT_wL, hT_wR, hT_wLr, hR_wI, hR_wL, hR_wLr, hI_wL, hI_wR, hI_wLr, hL_wI, hL_wR, nI_add, nI_1, pk_mul, if_lt, if_eq, if_eqL, ie_0, ie_1, il_0, il_1, ir_0, ir_1, ie_m, il_m, bz_b, ib_0, i_10, i_01, i_0m, i_1m, i_m0, i_ml0, b2i_if, bz_i, nI_p1, nl_2, nl_3, nl_4, nl_5, nl_6, nl_7, nl_8, nl_9, nl_10, nl_11, nl_12, nl_13, nl_14, nl_15, nl_16, nl_17, nl_18, nl_19, nl_20, nl_21, nl_22, nl_23, nl_24, nl_25, nl_26, nl_27, nl_28, nl_29, nl_30, nl_31, nl_32, nl_33, nl_34, nl_35, nl_36, nl_37, nl_38, nl_39, nl_40, nl_41, nl_42, nl_43, nl_44, nl_45, nl_46, nl_47, nl_48, nl_49, nl_50, nl_51, nl_52, nl_53, nl_54, nl_55, nl_56, nl_57, nl_58, nl_59, nl_60, nl_61, nl_62, nl_63, nl_64, nl_100, nl_480, nl_1020, nl_3000, e1, e2, mr28, mr32, hk]
    rw [e3 _ (by omega), Nat.zero_add]
  · show BX12_goOn_38 (n + 1) _ _ _ _ _ = _
    rw [BX12_goOn_38]
    rw [if_neg (by decide)]
theorem goOn10 (lm : LM (hT h) (hR h) q) {e : Nat} (he : e ≤ 12) (h29 : hI h q 29 = nI e) (x y : Int32) : BX12_goOn_10 100000 (some q) x y 0 h = BX12_goOn_38 100000 (some q) x y 0 (wIr h (q + 27) (ic (hI h (q + 31)) (hI h (q + 27)) 0 0 e)) := by
  obtain ⟨mt0, ⟨mr1, mt1⟩, ⟨mr2, mt2⟩, ⟨mr3, mt3⟩, ⟨mr4, mt4⟩, ⟨mr5, mt5⟩, ⟨mr6, mt6⟩, ⟨mr7, mt7⟩, ⟨mr8, mt8⟩, ⟨mr9, mt9⟩, ⟨mr10, mt10⟩, ⟨mr11, mt11⟩, ⟨mr12, mt12⟩, ⟨mr13, mt13⟩, ⟨mr14, mt14⟩, ⟨mr15, mt15⟩, ⟨mr16, mt16⟩, ⟨mr17, mt17⟩, ⟨mr18, mt18⟩, ⟨mr19, mt19⟩, ⟨mr20, mt20⟩, ⟨mr21, mt21⟩, ⟨mr22, mt22⟩, ⟨mr23, mt23⟩, ⟨mr24, mt24⟩, ⟨mr25, mt25⟩, ⟨mr26, mt26⟩, ⟨mr27, mt27⟩, ⟨mr28, mt28⟩, ⟨mr29, mt29⟩, ⟨mr30, mt30⟩, ⟨mr31, mt31⟩, ⟨mr32, mt32⟩, ⟨mr33, mt33⟩, ⟨mr34, mt34⟩, ⟨mr35, mt35⟩, ⟨mr36, mt36⟩, ⟨mr37, mt37⟩, ⟨mr38, mt38⟩, ⟨mr39, mt39⟩, ⟨mr40, mt40⟩, ⟨mr41, mt41⟩, ⟨mr42, mt42⟩, ⟨mr43, mt43⟩⟩ := id lm
  refine cpl (fun n k h => BX12_goOn_10 n (some q) x y k h) (fun g => BX12_goOn_38 100000 (some q) x y 0 g) 0 0 e (hI h (q + 31)) (by omega) (fun n k g hk e1 e2 e3 => ?_) (fun n g e1 e2 e3 => ?_)
  · show BX12_goOn_10 (n + 1) _ _ _ _ _ = _
    rw [BX12_goOn_10]
    have e29 : hI g q 29 = nI e := by rw [e3 _ (by omega)]; exact h29
    simp (disch := first | assumption | omega | decide | (simp only [hT_wI, hT_wL, hT_wR, hT_wLr, e1, e2]; assumption)) only [↓reduceIte, Nat.reduceEqDiff, Nat.reduceLT, Nat.reduceLeDiff, Nat.reduceAdd, Nat.reduceSub, Nat.reduceMul, or_self, or_true, true_or, or_false, false_or, and_self, and_true, true_and, and_false, false_and, if_true, if_false, ↓gI_ok, ↓gL_ok, ↓gR_ok, ↓pI_ok, ↓pL_ok, ↓pR_ok, ↓rcv_ok, ↓nz_ok, ↓nz_no, ↓aI_n, ↓aL_n, ↓aR_n, ↓sI_n, ↓sL_n, ↓sR_n, ↓cl_ok, ↓bz_0, ↓bz_1, hT_wI, hT_wL, hT_wR, hT_wLr, hR_wI, hR_wL, hR_wLr, hI_wL, hI_wR, hI_wLr, hL_wI, hL_wR, nI_add, nI_1, pk_mul, if_lt, if_eq, if_eqL, ie_0, ie_1, il_0, il_1, ir_0, ir_1, ie_m, il_m, bz_b, ib_0, i_10, i_01, i_0m, i_1m, i_m0, i_ml0, b2i_if, bz_i, nI_p1, nl_2, nl_3, nl_4, nl_5, nl_6, nl_7, nl_8, nl_9, nl_10, nl_11, nl_12, nl_13, nl_14, nl_15, nl_16, nl_17, nl_18, nl_19, nl_20, nl_21, nl_22, nl_23, nl_24, nl_25, nl_26, nl_27, nl_28, nl_29, nl_30, nl_31, nl_32, nl_33, nl_34, nl_35, nl_36, nl_37, nl_38, nl_39, nl_40, nl_41, nl_42, nl_43, nl_44, nl_45, nl_46, nl_47, nl_48, nl_49, nl_50, nl_51, nl_52, nl_53, nl_54, nl_55, nl_56, nl_57, nl_58, nl_59, nl_60, nl_61, nl_62, nl_63, nl_64, nl_100, nl_480, nl_1020, nl_3000, e1, e2, mr31, mr27, hk, e29]
    rw [e3 _ (by omega), Nat.zero_add]
  · show BX12_goOn_10 (n + 1) _ _ _ _ _ = _
    rw [BX12_goOn_10]
    have e29 : hI g q 29 = nI e := by rw [e3 _ (by omega)]; exact h29
    have t0 : hT g q = some (.inl 11) := by rw [e1]; exact mt0
    rw [gI_ok t0, e29, if_lt (by omega) (by omega), if_neg (by omega)]
/-- what sending leaves -/
def SnQ (q : Nat) (P : Pg) (m : Nat) (s : Sh) (h : Hp) (R : Option Nat × Tab) : Int32 → Hp → Prop := fun r g => JS g q P m R.2 ∧ Mb g q s ∧ Fj q m h g ∧ (R.1 = none ∧ r = 0 ∧ hI g q 32 = hI h q 32 ∧ hI g q 33 = hI h q 33 ∨ ∃ p, R.1 = some p ∧ r = -16 ∧ hI g q 32 = nI m ∧ hI g q 33 = nI p)
theorem sq_nil (js : JS h q P m t) (mb : Mb h q s) : Ok (some ((0 : Int32), h)) (SnQ q P m s h (j_send t [])) := ok_some ⟨js, mb, Fj.refl, Or.inl ⟨rfl, rfl, rfl, rfl⟩⟩
theorem sq_go (js : JS h q P m t) (mb : Mb h q s) (w1 : wfS s.1 s.2.1) (w2 : wfS 16 s.2.2) (hm : m < 8) {i : Nat} (hi : i < 60) {xs : List (Nat × Sh)} {c : Int32 → Hp → Option (Int32 × Hp)} (h1 : ∀ g t', JS g q P m t' → Mb g q s → Ok (c 0 g) (SnQ q P m s g (j_send t' xs))) (h2 : ∀ g t', JS g q P m t' → c (-16) g = some (-16, g)) : Ok (cl (FX12_goOn (some q) (nI m) (nI i) h) c) (SnQ q P m s h (j_send t ((i, s) :: xs))) := by
  obtain ⟨⟨b1, b2⟩, b3, b4⟩ := id mb
  have lm := js.1
  have t0 : hT h q = some (.inl 11) := lm.1
  unfold FX12_goOn
  rw [gI_ok t0, b1, pI_ok t0, goOn10 (h := wI h q 29 (nI s.1)) lm b2 hI_wI_s, goOn38 (h := wIr (wI h q 29 (nI s.1)) (q + 27) _) lm]
  have f1 : Fq q F29 (A28 q) h (wIr (wIr (wI h q 29 (nI s.1)) (q + 27) (ic (hI (wI h q 29 (nI s.1)) (q + 31)) (hI (wI h q 29 (nI s.1)) (q + 27)) 0 0 s.1)) (q + 28) (ic (hI (wIr (wI h q 29 (nI s.1)) (q + 27) (ic (hI (wI h q 29 (nI s.1)) (q + 31)) (hI (wI h q 29 (nI s.1)) (q + 27)) 0 0 s.1)) (q + 32)) (hI (wIr (wI h q 29 (nI s.1)) (q + 27) (ic (hI (wI h q 29 (nI s.1)) (q + 31)) (hI (wI h q 29 (nI s.1)) (q + 27)) 0 0 s.1)) (q + 28)) 0 0 16)) := (q29w.trans (Fq.wIr (A := A28 q) (Or.inl rfl) (by omega))).trans (Fq.wIr (A := A28 q) (Or.inr rfl) (by omega))
  have mv1 : Mv (wIr (wIr (wI h q 29 (nI s.1)) (q + 27) (ic (hI (wI h q 29 (nI s.1)) (q + 31)) (hI (wI h q 29 (nI s.1)) (q + 27)) 0 0 s.1)) (q + 28) (ic (hI (wIr (wI h q 29 (nI s.1)) (q + 27) (ic (hI (wI h q 29 (nI s.1)) (q + 31)) (hI (wI h q 29 (nI s.1)) (q + 27)) 0 0 s.1)) (q + 32)) (hI (wIr (wI h q 29 (nI s.1)) (q + 27) (ic (hI (wI h q 29 (nI s.1)) (q + 31)) (hI (wI h q 29 (nI s.1)) (q + 27)) 0 0 s.1)) (q + 28)) 0 0 16)) q s.1 s.2.1 s.2.2 := by
    refine ⟨⟨?_, by omega⟩, fun p hp => ?_, fun j hj => ?_⟩
    · rw [hI_wIr_a (by omega), hI_wIr_a (by omega), hI_wI_s]
    · rw [hI_wIr_a (by omega), hI_wIr_s, ic_in0 hp, hI_wI_a (by omega)]; exact b3 p hp
    · rw [hI_wIr_s, ic_in0 hj, hI_wIr_a (by omega), hI_wI_a (by omega)]; exact b4 j hj
  generalize (wIr (wIr (wI h q 29 (nI s.1)) (q + 27) (ic (hI (wI h q 29 (nI s.1)) (q + 31)) (hI (wI h q 29 (nI s.1)) (q + 27)) 0 0 s.1)) (q + 28) (ic (hI (wIr (wI h q 29 (nI s.1)) (q + 27) (ic (hI (wI h q 29 (nI s.1)) (q + 31)) (hI (wI h q 29 (nI s.1)) (q + 27)) 0 0 s.1)) (q + 32)) (hI (wIr (wI h q 29 (nI s.1)) (q + 27) (ic (hI (wI h q 29 (nI s.1)) (q + 31)) (hI (wI h q 29 (nI s.1)) (q + 27)) 0 0 s.1)) (q + 28)) 0 0 16)) = g1 at f1 mv1 ⊢
  have js1 : JS g1 q P m t := js.fq f1 n29a (fun b h1 h2 => by unfold A28; omega)
  have mb1 : Mb g1 q s := mb.fq f1 (by unfold F29; omega) (by unfold A28; omega) (by unfold A28; omega)
  have k1 : Fj q m h g1 := Fj.of f1 (fun k z => Or.inl z) (fun b z => by unfold A28 at z; omega)
  have e32 : hI g1 q 32 = hI h q 32 := f1.2.2.2.2.2 32 (by unfold F29; omega)
  have e33 : hI g1 q 33 = hI h q 33 := f1.2.2.2.2.2 33 (by unfold F29; omega)
  dsimp only
  rw [rcv_ok js1.1.1]
  unfold j_send
  have key : Ok (cl (FX12_come (some q) (nI m) (nI i) g1) fun v23 h24 => if v23 = 0 then some (0, h24) else rcv h24 (some q) 11 <| cl (FX12_wrong (some q) (nI m) (nI i) 6 h24) fun v30 h31 => some (v30, h31)) (fun r g => JS g q P m (come t i s).2 ∧ Mb g q s ∧ Fj q m h g ∧ ((come t i s).1 = true ∧ r = 0 ∧ hI g q 32 = hI h q 32 ∧ hI g q 33 = hI h q 33 ∨ (come t i s).1 = false ∧ r = -16 ∧ hI g q 32 = nI m ∧ hI g q 33 = nI i)) := by
    refine ok_cl (js_come js1 mv1 b2 w1 w2 hm hi) (fun r g2 x => ?_)
    obtain ⟨x1, x2, x3, x4⟩ := x
    have mb2 : Mb g2 q s := mb1.fq x3 (fun z => z) (by unfold A26; omega) (by unfold A26; omega)
    have k2 : Fj q m h g2 := k1.trans ⟨x3.mono (fun _ z => z.elim) (fun b z => by unfold A26 at z; unfold AJm; omega), x4⟩
    cases hc : (come t i s).1 with
    | true =>
      rw [hc, if_pos rfl] at x1
      rw [x1, if_pos rfl]
      exact ok_some ⟨x2, mb2, k2, Or.inl ⟨rfl, rfl, by rw [x3.2.2.2.2.2 32 (fun z => z)]; exact e32, by rw [x3.2.2.2.2.2 33 (fun z => z)]; exact e33⟩⟩
    | false =>
      rw [hc, if_neg (by decide)] at x1
      rw [x1, if_neg (by decide), rcv_ok x2.1.1, f_wrong x2.1.1, cl_ok]
      obtain ⟨y1, y2, y3, y4⟩ := x2.wr (x := nI m) (y := nI i)
      exact ok_some ⟨y1, mb2.fq q3233 (by unfold F33; omega) (fun z => z) (fun z => z), k2.trans y2, Or.inr ⟨rfl, rfl, y3, y4⟩⟩
  refine ok_cl key (fun r g2 x => ?_)
  obtain ⟨x1, x2, x3, x4 | x4⟩ := x
  · obtain ⟨z1, rfl, z3, z4⟩ := x4
    dsimp only
    rw [if_pos z1]
    refine (h1 g2 _ x1 x2).mono (fun r g3 y => ?_)
    obtain ⟨y1, y2, y3, y4⟩ := y
    refine ⟨y1, y2, x3.trans y3, ?_⟩
    rcases y4 with ⟨u1, u2, u3, u4⟩ | u
    · exact Or.inl ⟨u1, u2, u3.trans z3, u4.trans z4⟩
    · exact Or.inr u
  · obtain ⟨z1, rfl, z3, z4⟩ := x4
    dsimp only
    rw [if_neg (by rw [z1]; decide), h2 g2 _ x1]
    exact ok_some ⟨x1, x2, x3, Or.inr ⟨i, rfl, rfl, z3, z4⟩⟩
end MH
