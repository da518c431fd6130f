/-! THE MODEL at q: its rows, what it leaves as it was, its program -/
def LM (T : xT) (R : Nat → Nat → Option Nat) (q : Nat) : Prop := T q = some (.inl 11) ∧ (R q 1 = some (q + 1) ∧ T (q + 1) = some (.inr (.int, 8))) ∧ (R q 2 = some (q + 2) ∧ T (q + 2) = some (.inr (.int, 8))) ∧ (R q 3 = some (q + 3) ∧ T (q + 3) = some (.inr (.int, 8))) ∧ (R q 4 = some (q + 4) ∧ T (q + 4) = some (.inr (.int, 64))) ∧ (R q 5 = some (q + 5) ∧ T (q + 5) = some (.inr (.int, 8))) ∧ (R q 6 = some (q + 6) ∧ T (q + 6) = some (.inr (.int, 480))) ∧ (R q 7 = some (q + 7) ∧ T (q + 7) = some (.inr (.int, 480))) ∧ (R q 8 = some (q + 8) ∧ T (q + 8) = some (.inr (.int, 480))) ∧ (R q 9 = some (q + 9) ∧ T (q + 9) = some (.inr (.int, 8))) ∧ (R q 10 = some (q + 10) ∧ T (q + 10) = some (.inr (.int, 48))) ∧ (R q 11 = some (q + 11) ∧ T (q + 11) = some (.inr (.int, 48))) ∧ (R q 12 = some (q + 12) ∧ T (q + 12) = some (.inr (.int, 48))) ∧ (R q 13 = some (q + 13) ∧ T (q + 13) = some (.inr (.int, 48))) ∧ (R q 14 = some (q + 14) ∧ T (q + 14) = some (.inr (.boolean, 8))) ∧ (R q 16 = some (q + 15) ∧ T (q + 15) = some (.inr (.long, 40))) ∧ (R q 18 = some (q + 16) ∧ T (q + 16) = some (.inr (.boolean, 8))) ∧ (R q 19 = some (q + 17) ∧ T (q + 17) = some (.inr (.int, 8))) ∧ (R q 20 = some (q + 18) ∧ T (q + 18) = some (.inr (.int, 8))) ∧ (R q 21 = some (q + 19) ∧ T (q + 19) = some (.inr (.int, 8))) ∧ (R q 22 = some (q + 20) ∧ T (q + 20) = some (.inr (.int, 64))) ∧ (R q 23 = some (q + 21) ∧ T (q + 21) = some (.inr (.int, 64))) ∧ (R q 24 = some (q + 22) ∧ T (q + 22) = some (.inr (.boolean, 480))) ∧ (R q 25 = some (q + 23) ∧ T (q + 23) = some (.inr (.boolean, 60))) ∧ (R q 26 = some (q + 24) ∧ T (q + 24) = some (.inr (.int, 480))) ∧ (R q 27 = some (q + 25) ∧ T (q + 25) = some (.inr (.int, 5760))) ∧ (R q 28 = some (q + 26) ∧ T (q + 26) = some (.inr (.int, 7680))) ∧ (R q 30 = some (q + 27) ∧ T (q + 27) = some (.inr (.int, 64))) ∧ (R q 31 = some (q + 28) ∧ T (q + 28) = some (.inr (.int, 18))) ∧ (R q 35 = some (q + 29) ∧ T (q + 29) = some (.inr (.long, 8))) ∧ (R q 36 = some (q + 30) ∧ T (q + 30) = some (.inr (.int, 16))) ∧ (R q 38 = some (q + 31) ∧ T (q + 31) = some (.inr (.int, 12))) ∧ (R q 39 = some (q + 32) ∧ T (q + 32) = some (.inr (.int, 16))) ∧ (R q 41 = some (q + 33) ∧ T (q + 33) = some (.inr (.int, 60))) ∧ (R q 42 = some (q + 34) ∧ T (q + 34) = some (.inr (.int, 60))) ∧ (R q 43 = some (q + 35) ∧ T (q + 35) = some (.inr (.int, 60))) ∧ (R q 44 = some (q + 36) ∧ T (q + 36) = some (.inr (.int, 60))) ∧ (R q 45 = some (q + 37) ∧ T (q + 37) = some (.inr (.long, 6000))) ∧ (R q 48 = some (q + 38) ∧ T (q + 38) = some (.inr (.int, 6))) ∧ (R q 49 = some (q + 39) ∧ T (q + 39) = some (.inr (.int, 6))) ∧ (R q 50 = some (q + 40) ∧ T (q + 40) = some (.inr (.int, 6))) ∧ (R q 51 = some (q + 41) ∧ T (q + 41) = some (.inr (.long, 192))) ∧ (R q 52 = some (q + 42) ∧ T (q + 42) = some (.inr (.long, 108))) ∧ (R q 53 = some (q + 43) ∧ T (q + 43) = some (.inr (.int, 360)))
def Fq (q : Nat) (F A : Nat → Prop) (h g : Hp) : Prop := hT g = hT h ∧ hR g = hR h ∧ hz g = hz h ∧ hL g = hL h ∧ (∀ b, b ≠ q → ¬ A b → hI g b = hI h b) ∧ ∀ k, ¬ F k → hI g q k = hI h q k
section FQ
variable {q : Nat} {F A F' A' : Nat → Prop} {h g k : Hp}
theorem Fq.refl : Fq q F A h h := ⟨rfl, rfl, rfl, rfl, fun _ _ _ => rfl, fun _ _ => rfl⟩
theorem Fq.trans (a : Fq q F A h g) (b : Fq q F A g k) : Fq q F A h k := ⟨b.1.trans a.1, b.2.1.trans a.2.1, b.2.2.1.trans a.2.2.1, b.2.2.2.1.trans a.2.2.2.1, fun x h1 h2 => (b.2.2.2.2.1 x h1 h2).trans (a.2.2.2.2.1 x h1 h2), fun x h1 => (b.2.2.2.2.2 x h1).trans (a.2.2.2.2.2 x h1)⟩
theorem Fq.mono (a : Fq q F A h g) (hF : ∀ k, F k → F' k) (hA : ∀ b, A b → A' b) : Fq q F' A' h g := ⟨a.1, a.2.1, a.2.2.1, a.2.2.2.1, fun x h1 h2 => a.2.2.2.2.1 x h1 (fun z => h2 (hA x z)), fun x h1 => a.2.2.2.2.2 x (fun z => h1 (hF x z))⟩
theorem Fq.wA {a i : Nat} {v : Int32} (ha : A a) (hq : a ≠ q) : Fq q F A h (wI h a i v) := ⟨rfl, rfl, rfl, rfl, fun b _ hb => hI_wI_a (fun e => hb (by rw [e]; exact ha)), fun k _ => by rw [hI_wI_a (Ne.symm hq)]⟩
theorem Fq.wF {i : Nat} {v : Int32} (hi : F i) : Fq q F A h (wI h q i v) := ⟨rfl, rfl, rfl, rfl, fun b hb _ => hI_wI_a hb, fun k hk => hI_wI_k (fun e => hk (by rw [e]; exact hi))⟩
end FQ
theorem LM.fq {q : Nat} {F A : Nat → Prop} {h g : Hp} (v : LM (hT h) (hR h) q) (f : Fq q F A h g) : LM (hT g) (hR g) q := by rw [f.1, f.2.1]; exact v
/-- the model's program -/
def PMm (h : Hp) (q : Nat) (P : Pg) (m : Nat) : Prop := (hI h (q + 1) m = nI (p_re P m) ∧ hI h (q + 2) m = nI (p_na P m) ∧ hI h (q + 3) m = nI (p_nw P m) ∧ hI h (q + 5) m = nI (p_no P m) ∧ hI h (q + 9) m = nI (p_nh P m)) ∧ (∀ k, k < p_na P m → hI h (q + 4) (8 * m + k) = nI (p_ka P m k)) ∧ (∀ i, i < p_no P m → hI h (q + 6) (60 * m + i) = nI (p_op P m i) ∧ hI h (q + 7) (60 * m + i) = p_A P m i ∧ hI h (q + 8) (60 * m + i) = p_B P m i) ∧ ∀ k, k < p_nh P m → hI h (q + 10) (6 * m + k) = nI (p_hf P m k) ∧ hI h (q + 11) (6 * m + k) = nI (p_hu P m k) ∧ hI h (q + 12) (6 * m + k) = nI (p_hg P m k) ∧ hI h (q + 13) (6 * m + k) = p_hn P m k
def PMt (h : Hp) (q : Nat) (P : Pg) (t : Nat) : Prop := (hI h (q + 16) t = nI (p_sp P t) ∧ hI h (q + 17) t = p_lo P t ∧ hI h (q + 18) t = nI (p_ot P t) ∧ hI h (q + 19) t = nI (p_ne P t)) ∧ ∀ e, e < p_ne P t → hI h (q + 20) (8 * t + e) = p_ky P t e ∧ hI h (q + 21) (8 * t + e) = nI (p_tt P t e)
def PM (h : Hp) (q : Nat) (P : Pg) : Prop := (hI h q 0 = nI (p_nm P) ∧ hI h q 15 = nI (p_nc P) ∧ hI h q 17 = nI (p_nt P)) ∧ (∀ m, m < p_nm P → PMm h q P m) ∧ (∀ t, t < p_nt P → PMt h q P t) ∧ (∀ c, c < p_nc P → hL h (q + 15) c = p_c P c) ∧ (∀ m, p_nm P ≤ m → m < 8 → hI h (q + 2) m = 0 ∧ hI h (q + 3) m = 0 ∧ hI h (q + 5) m = 0 ∧ hI h (q + 9) m = 0) ∧ ∀ t, p_nt P ≤ t → t < 8 → hI h (q + 19) t = 0
theorem PM.fq {q : Nat} {P : Pg} {F A : Nat → Prop} {h g : Hp} (v : PM h q P) (f : Fq q F A h g) (hA : ∀ b, b ≤ 21 → b ≠ 14 → ¬ A (q + b)) (hF : ¬ F 0 ∧ ¬ F 15 ∧ ¬ F 17) : PM g q P := by
  have e : ∀ b, 1 ≤ b → b ≤ 21 → b ≠ 14 → hI g (q + b) = hI h (q + b) := fun b h0 h1 h2 => f.2.2.2.2.1 _ (by omega) (hA b h1 h2)
  unfold PM PMm PMt at v ⊢
  rw [f.2.2.2.2.2 0 hF.1, f.2.2.2.2.2 15 hF.2.1, f.2.2.2.2.2 17 hF.2.2, f.2.2.2.1, e 1 (by omega) (by omega) (by omega), e 2 (by omega) (by omega) (by omega), e 3 (by omega) (by omega) (by omega), e 4 (by omega) (by omega) (by omega), e 5 (by omega) (by omega) (by omega), e 6 (by omega) (by omega) (by omega), e 7 (by omega) (by omega) (by omega), e 8 (by omega) (by omega) (by omega), e 9 (by omega) (by omega) (by omega), e 10 (by omega) (by omega) (by omega), e 11 (by omega) (by omega) (by omega), e 12 (by omega) (by omega) (by omega), e 13 (by omega) (by omega) (by omega), e 16 (by omega) (by omega) (by omega), e 17 (by omega) (by omega) (by omega), e 18 (by omega) (by omega) (by omega), e 19 (by omega) (by omega) (by omega), e 20 (by omega) (by omega) (by omega), e 21 (by omega) (by omega) (by omega)]
  exact v
theorem in_n (x : Int32) {n : Nat} (hn : n < 2 ^ 31) (h : Hp) : FX12_in (Int32.toInt64 x) 0 (Int32.toInt64 (nI n - 1)) h = some (b2i (wi x n), h) := by
  have e : (nI n - 1).toInt = (n : Int) - 1 := by
    cases n with
    | zero => rfl
    | succ n =>
      rw [nI_pred, nI_tI (by omega)]
      omega
  rw [f_in, i64_of32, i64_of32, e, i64_0]
  unfold wi
  by_cases c : 0 ≤ x.toInt ∧ x.toInt < n
  · rw [if_pos (by omega), decide_eq_true c]; rfl
  · rw [if_neg (by omega), decide_eq_false c]; rfl
theorem in_m (x : Int32) {n : Nat} (hn : n < 2 ^ 31) (h : Hp) : FX12_in (Int32.toInt64 x) 0 (Int32.toInt64 (nI n)) h = some (b2i (wi x (n + 1)), h) := by
  rw [f_in, i64_of32, i64_of32, nI_tI hn, i64_0]
  unfold wi
  by_cases c : 0 ≤ x.toInt ∧ x.toInt < (n + 1 : Nat)
  · rw [if_pos (by omega), decide_eq_true c]; rfl
  · rw [if_neg (by omega), decide_eq_false c]; rfl
theorem in_k (x : Int32) (n : Nat) (K : Int64) (hK : K.toInt = n) (h : Hp) : FX12_in (Int32.toInt64 x) 0 K h = some (b2i (wi x (n + 1)), h) := by
  rw [f_in, i64_of32, hK, i64_0]
  unfold wi
  by_cases c : 0 ≤ x.toInt ∧ x.toInt < (n + 1 : Nat)
  · rw [if_pos (by omega), decide_eq_true c]; rfl
  · rw [if_neg (by omega), decide_eq_false c]; rfl
theorem in_1 (x : Int32) (h : Hp) : FX12_in (Int32.toInt64 x) 0 1 h = some (b2i (wi x 2), h) := in_k x 1 1 rfl h
theorem in_2 (x : Int32) (h : Hp) : FX12_in (Int32.toInt64 x) 0 2 h = some (b2i (wi x 3), h) := in_k x 2 2 rfl h
theorem in_4 (x : Int32) (h : Hp) : FX12_in (Int32.toInt64 x) 0 4 h = some (b2i (wi x 5), h) := in_k x 4 4 rfl h
theorem in_5 (x : Int32) (h : Hp) : FX12_in (Int32.toInt64 x) 0 5 h = some (b2i (wi x 6), h) := in_k x 5 5 rfl h
theorem in_7 (x : Int32) (h : Hp) : FX12_in (Int32.toInt64 x) 0 7 h = some (b2i (wi x 8), h) := in_k x 7 7 rfl h
theorem in_8 (x : Int32) (h : Hp) : FX12_in (Int32.toInt64 x) 0 8 h = some (b2i (wi x 9), h) := in_k x 8 8 rfl h
theorem in_11 (x : Int32) (h : Hp) : FX12_in (Int32.toInt64 x) 0 11 h = some (b2i (wi x 12), h) := in_k x 11 11 rfl h
theorem in_15 (x : Int32) (h : Hp) : FX12_in (Int32.toInt64 x) 0 15 h = some (b2i (wi x 16), h) := in_k x 15 15 rfl h
theorem in_35 (x : Int32) (h : Hp) : FX12_in (Int32.toInt64 x) 0 35 h = some (b2i (wi x 36), h) := in_k x 35 35 rfl h
theorem in_59 (x : Int32) (h : Hp) : FX12_in (Int32.toInt64 x) 0 59 h = some (b2i (wi x 60), h) := in_k x 59 59 rfl h
theorem in_60 (x : Int32) (h : Hp) : FX12_in (Int32.toInt64 x) 0 60 h = some (b2i (wi x 61), h) := in_k x 60 60 rfl h
theorem in_3000 (x : Int32) (h : Hp) : FX12_in (Int32.toInt64 x) 0 3000 h = some (b2i (wi x 3001), h) := in_k x 3000 3000 rfl h
theorem b2i_not {b : Bool} {h : Hp} : (if b = true then some ((0 : Int32), h) else some (1, h)) = some (b2i (!b), h) := by cases b <;> rfl
section MA
variable {h : Hp} {q : Nat} {P : Pg}
theorem f_isM (lm : LM (hT h) (hR h) q) (v : PM h q P) (w : PW P) (x : Int32) : FX12_isMethod (some q) x h = some (b2i (wi x (p_nm P)), h) := by
  have t0 : hT h q = some (.inl 11) := lm.1
  have e0 := v.1.1
  have hb := w.1
  unfold FX12_isMethod
  simp (disch := first | assumption | omega | decide | (simp only [hT_wI, hT_wL, hT_wR, hT_wLr]; assumption)) only [↓reduceIte, Nat.reduceEqDiff, Nat.reduceLT, Nat.reduceLeDiff, Nat.reduceAdd, Nat.reduceSub, Nat.reduceMul, or_self, or_true, true_or, or_false, false_or, and_self, and_true, true_and, and_false, false_and, if_true, if_false, ↓gI_ok, ↓gL_ok, ↓gR_ok, ↓pI_ok, ↓pL_ok, ↓pR_ok, ↓rcv_ok, ↓nz_ok, ↓nz_no, ↓aI_n, ↓aL_n, ↓aR_n, ↓sI_n, ↓sL_n, ↓sR_n, ↓cl_ok, ↓bz_0, ↓bz_1, hT_wI, hT_wL, hT_wR, hT_wLr, hR_wI, hR_wL, hR_wLr, hI_wL, hI_wR, hI_wLr, hL_wI, hL_wR, nI_add, nI_1, pk_mul, if_lt, if_eq, if_eqL, ie_0, ie_1, il_0, il_1, ir_0, ir_1, ie_m, il_m, bz_b, ib_0, i_10, i_01, i_0m, i_1m, i_m0, i_ml0, b2i_if, bz_i, nI_p1, nl_2, nl_3, nl_4, nl_5, nl_6, nl_7, nl_8, nl_9, nl_10, nl_11, nl_12, nl_13, nl_14, nl_15, nl_16, nl_17, nl_18, nl_19, nl_20, nl_21, nl_22, nl_23, nl_24, nl_25, nl_26, nl_27, nl_28, nl_29, nl_30, nl_31, nl_32, nl_33, nl_34, nl_35, nl_36, nl_37, nl_38, nl_39, nl_40, nl_41, nl_42, nl_43, nl_44, nl_45, nl_46, nl_47, nl_48, nl_49, nl_50, nl_51, nl_52, nl_53, nl_54, nl_55, nl_56, nl_57, nl_58, nl_59, nl_60, nl_61, nl_62, nl_63, nl_64, nl_100, nl_480, nl_1020, nl_3000, e0, in_n]
theorem g_covers (lm : LM (hT h) (hR h) q) {m k i : Nat} (v : PMm h q P m) (w : PWm P m) (hm : m < 8) (hk : k < p_nh P m) (hi : i < 60) : FX12_covers (some q) (nI (6 * m + k)) (nI i) h = some (b2i (pcov P m k i), h) := by
  obtain ⟨mt0, ⟨mr1, mt1⟩, ⟨mr2, mt2⟩, ⟨mr3, mt3⟩, ⟨mr4, mt4⟩, ⟨mr5, mt5⟩, ⟨mr6, mt6⟩, ⟨mr7, mt7⟩, ⟨mr8, mt8⟩, ⟨mr9, mt9⟩, ⟨mr10, mt10⟩, ⟨mr11, mt11⟩, ⟨mr12, mt12⟩, ⟨mr13, mt13⟩, ⟨mr14, mt14⟩, ⟨mr15, mt15⟩, ⟨mr16, mt16⟩, ⟨mr17, mt17⟩, ⟨mr18, mt18⟩, ⟨mr19, mt19⟩, ⟨mr20, mt20⟩, ⟨mr21, mt21⟩, ⟨mr22, mt22⟩, ⟨mr23, mt23⟩, ⟨mr24, mt24⟩, ⟨mr25, mt25⟩, ⟨mr26, mt26⟩, ⟨mr27, mt27⟩, ⟨mr28, mt28⟩, ⟨mr29, mt29⟩, ⟨mr30, mt30⟩, ⟨mr31, mt31⟩, ⟨mr32, mt32⟩, ⟨mr33, mt33⟩, ⟨mr34, mt34⟩, ⟨mr35, mt35⟩, ⟨mr36, mt36⟩, ⟨mr37, mt37⟩, ⟨mr38, mt38⟩, ⟨mr39, mt39⟩, ⟨mr40, mt40⟩, ⟨mr41, mt41⟩, ⟨mr42, mt42⟩, ⟨mr43, mt43⟩⟩ := id lm
  obtain ⟨e1, e2, -, -⟩ := v.2.2.2 k hk
  obtain ⟨b1, b2, -, -⟩ := w.2.2.2.2.2.2.2.2 k hk
  have b5 := w.2.2.2.2.1
  unfold FX12_covers
  simp (disch := first | assumption | omega | decide | (simp only [hT_wI, hT_wL, hT_wR, hT_wLr]; assumption)) only [↓reduceIte, Nat.reduceEqDiff, Nat.reduceLT, Nat.reduceLeDiff, Nat.reduceAdd, Nat.reduceSub, Nat.reduceMul, or_self, or_true, true_or, or_false, false_or, and_self, and_true, true_and, and_false, false_and, if_true, if_false, ↓gI_ok, ↓gL_ok, ↓gR_ok, ↓pI_ok, ↓pL_ok, ↓pR_ok, ↓rcv_ok, ↓nz_ok, ↓nz_no, ↓aI_n, ↓aL_n, ↓aR_n, ↓sI_n, ↓sL_n, ↓sR_n, ↓cl_ok, ↓bz_0, ↓bz_1, hT_wI, hT_wL, hT_wR, hT_wLr, hR_wI, hR_wL, hR_wLr, hI_wL, hI_wR, hI_wLr, hL_wI, hL_wR, nI_add, nI_1, pk_mul, if_lt, if_eq, if_eqL, ie_0, ie_1, il_0, il_1, ir_0, ir_1, ie_m, il_m, bz_b, ib_0, i_10, i_01, i_0m, i_1m, i_m0, i_ml0, b2i_if, bz_i, nI_p1, nl_2, nl_3, nl_4, nl_5, nl_6, nl_7, nl_8, nl_9, nl_10, nl_11, nl_12, nl_13, nl_14, nl_15, nl_16, nl_17, nl_18, nl_19, nl_20, nl_21, nl_22, nl_23, nl_24, nl_25, nl_26, nl_27, nl_28, nl_29, nl_30, nl_31, nl_32, nl_33, nl_34, nl_35, nl_36, nl_37, nl_38, nl_39, nl_40, nl_41, nl_42, nl_43, nl_44, nl_45, nl_46, nl_47, nl_48, nl_49, nl_50, nl_51, nl_52, nl_53, nl_54, nl_55, nl_56, nl_57, nl_58, nl_59, nl_60, nl_61, nl_62, nl_63, nl_64, nl_100, nl_480, nl_1020, nl_3000, mr10, mr11, e1, e2]
  rw [f_in, i64_of32, i64_of32, i64_of32, nI_tI (by omega), nI_tI (by omega)]
  have e : (nI (p_hu P m k) - 1).toInt = (p_hu P m k : Int) - 1 := by
    cases hh : p_hu P m k with
    | zero => rfl
    | succ n =>
      rw [nI_pred, nI_tI (by omega)]
      omega
  rw [e, cl_ok]
  unfold pcov
  by_cases c : p_hf P m k ≤ i ∧ i < p_hu P m k
  · rw [if_pos (by omega), decide_eq_true c]; rfl
  · rw [if_neg (by omega), decide_eq_false c]; rfl
theorem g_od5 (a b : Int32) : (if wi b 5 = true then cl (FX12_wordsOf b h) fun v6 h7 => cl (FX12_in a.toInt64 0 (nI 16 - v6).toInt64 h7) fun v9 h10 => if v9 = 0 then some (1, h10) else some (0, h10) else some (1, h)) = some (b2i !(wi b 5 && wi a (17 - wd (cN b))), h) := by
  cases hb : wi b 5 with
  | false => rfl
  | true =>
    obtain ⟨k, hk, rfl, e⟩ := wi_ex (by decide) hb
    have hw := wd_le k
    have e17 : 17 - wd k = 16 - wd k + 1 := by omega
    rw [if_pos rfl, f_wordsOf (by omega), cl_ok, pk_sub (by omega), in_m _ (by omega), cl_ok, e, Bool.true_and, e17, b2i_if]
    cases wi a (16 - wd k + 1) <;> rfl
theorem g_od24 (a b : Int32) : (if ity a = true then cl (FX12_in b.toInt64 1 (a / nI 8).toInt64 h) fun v58 h59 => if v58 = 0 then some (1, h59) else some (0, h59) else some (1, h)) = some (b2i !(ity a && decide (1 ≤ b.toInt ∧ b.toInt ≤ a.toInt / 8)), h) := by
  cases ha : ity a with
  | false => rfl
  | true =>
    unfold ity at ha
    have ha := of_decide_eq_true ha
    obtain ⟨j, hj, rfl⟩ := nI_lt_of (x := a) (n := 32) (by decide) (by omega) (by exact ha.2.1)
    have l1 : (1 : Int64).toInt = 1 := rfl
    rw [if_pos rfl, pk_div (by omega) (by decide) (by decide), f_in, cl_ok, i64_of32, i64_of32, nI_tI (by omega), nI_tI (by omega), l1, Bool.true_and]
    by_cases c : 1 ≤ b.toInt ∧ b.toInt ≤ (j / 8 : Nat)
    · rw [if_pos c, if_neg (by decide), decide_eq_true (by omega)]; rfl
    · rw [if_neg c, if_pos rfl, decide_eq_false (by omega)]; rfl
theorem g_od (lm : LM (hT h) (hR h) q) (v : PM h q P) (w : PW P) {op : Nat} (hop : op < 36) (a b : Int32) : FX12_isOdd (some q) (nI op) a b h = some (b2i (!j_od P op a b), h) := by
  have t0 : hT h q = some (.inl 11) := lm.1
  obtain ⟨⟨e0, e15, e17⟩, -⟩ := id v
  obtain ⟨w1, w2, w3, -⟩ := id w
  unfold FX12_isOdd BX12_isOdd_156 BX12_isOdd_178 BX12_isOdd_259 BX12_isOdd_360 BX12_isOdd_378
  rcases op36 hop with rfl | rfl | rfl | rfl | rfl | rfl | rfl | rfl | rfl | rfl | rfl | rfl | rfl | rfl | rfl | rfl | rfl | rfl | rfl | rfl | rfl | rfl | rfl | rfl | rfl | rfl | rfl | rfl | rfl | rfl | rfl | rfl | rfl | rfl | rfl | rfl <;> simp (disch := first | assumption | omega | decide | (simp only [hT_wI, hT_wL, hT_wR, hT_wLr]; assumption)) only [↓reduceIte, Nat.reduceEqDiff, Nat.reduceLT, Nat.reduceLeDiff, Nat.reduceAdd, Nat.reduceSub, Nat.reduceMul, or_self, or_true, true_or, or_false, false_or, and_self, and_true, true_and, and_false, false_and, if_true, if_false, ↓gI_ok, ↓gL_ok, ↓gR_ok, ↓pI_ok, ↓pL_ok, ↓pR_ok, ↓rcv_ok, ↓nz_ok, ↓nz_no, ↓aI_n, ↓aL_n, ↓aR_n, ↓sI_n, ↓sL_n, ↓sR_n, ↓cl_ok, ↓bz_0, ↓bz_1, hT_wI, hT_wL, hT_wR, hT_wLr, hR_wI, hR_wL, hR_wLr, hI_wL, hI_wR, hI_wLr, hL_wI, hL_wR, nI_add, nI_1, pk_mul, if_lt, if_eq, if_eqL, ie_0, ie_1, il_0, il_1, ir_0, ir_1, ie_m, il_m, bz_b, ib_0, i_10, i_01, i_0m, i_1m, i_m0, i_ml0, b2i_if, bz_i, nI_p1, nl_2, nl_3, nl_4, nl_5, nl_6, nl_7, nl_8, nl_9, nl_10, nl_11, nl_12, nl_13, nl_14, nl_15, nl_16, nl_17, nl_18, nl_19, nl_20, nl_21, nl_22, nl_23, nl_24, nl_25, nl_26, nl_27, nl_28, nl_29, nl_30, nl_31, nl_32, nl_33, nl_34, nl_35, nl_36, nl_37, nl_38, nl_39, nl_40, nl_41, nl_42, nl_43, nl_44, nl_45, nl_46, nl_47, nl_48, nl_49, nl_50, nl_51, nl_52, nl_53, nl_54, nl_55, nl_56, nl_57, nl_58, nl_59, nl_60, nl_61, nl_62, nl_63, nl_64, nl_100, nl_480, nl_1020, nl_3000, j_od, e0, e15, e17, in_n, in_1, in_4, in_5, in_7, in_11, in_15, f_isM lm v w, b2i_not, ← f_isTypeC, f_ity] <;> try rfl
  · exact g_od5 a b
  · exact g_od5 a b
  · cases wi a 12 <;> rfl
  · exact g_od24 a b
def hbF (P : Pg) (m i k : Nat) : Bool := (List.range' k (p_nh P m - k)).all (fun x => !pcov P m x i || decide (p_hg P m x < p_no P m))
theorem hbF_s {m i k : Nat} (h : k < p_nh P m) : hbF P m i k = ((!pcov P m k i || decide (p_hg P m k < p_no P m)) && hbF P m i (k + 1)) := by
  unfold hbF
  rw [show p_nh P m - k = (p_nh P m - (k + 1)) + 1 by omega, List.range'_succ, List.all_cons]
theorem hbF_0 {m i : Nat} : hbF P m i 0 = j_hb P m i := by
  unfold hbF j_hb
  rw [List.range_eq_range', Nat.sub_zero]
theorem gl_loop2 (lm : LM (hT h) (hR h) q) {m i : Nat} (v : PMm h q P m) (w : PWm P m) (hm : m < 8) (hi : i < 60) : ∀ (n k : Nat) (b : Bool), k ≤ p_nh P m → p_nh P m - k < n → BX12_isLost_126 n (some q) (nI m) (nI i) (nI (p_no P m)) (b2i b) (nI (6 * m + k)) h = some (b2i (b || !hbF P m i k), h) := by
  obtain ⟨mt0, ⟨mr1, mt1⟩, ⟨mr2, mt2⟩, ⟨mr3, mt3⟩, ⟨mr4, mt4⟩, ⟨mr5, mt5⟩, ⟨mr6, mt6⟩, ⟨mr7, mt7⟩, ⟨mr8, mt8⟩, ⟨mr9, mt9⟩, ⟨mr10, mt10⟩, ⟨mr11, mt11⟩, ⟨mr12, mt12⟩, ⟨mr13, mt13⟩, ⟨mr14, mt14⟩, ⟨mr15, mt15⟩, ⟨mr16, mt16⟩, ⟨mr17, mt17⟩, ⟨mr18, mt18⟩, ⟨mr19, mt19⟩, ⟨mr20, mt20⟩, ⟨mr21, mt21⟩, ⟨mr22, mt22⟩, ⟨mr23, mt23⟩, ⟨mr24, mt24⟩, ⟨mr25, mt25⟩, ⟨mr26, mt26⟩, ⟨mr27, mt27⟩, ⟨mr28, mt28⟩, ⟨mr29, mt29⟩, ⟨mr30, mt30⟩, ⟨mr31, mt31⟩, ⟨mr32, mt32⟩, ⟨mr33, mt33⟩, ⟨mr34, mt34⟩, ⟨mr35, mt35⟩, ⟨mr36, mt36⟩, ⟨mr37, mt37⟩, ⟨mr38, mt38⟩, ⟨mr39, mt39⟩, ⟨mr40, mt40⟩, ⟨mr41, mt41⟩, ⟨mr42, mt42⟩, ⟨mr43, mt43⟩⟩ := id lm
  have e9 := v.1.2.2.2.2
  have b5 := w.2.2.2.2.1
  have b4 := w.2.2.2.1
  intro n
  induction n with
  | zero => intro k b h1 h2; omega
  | succ n ih =>
    intro k b h1 h2
    unfold BX12_isLost_126
    unfold BX12_isLost_173 BX12_isLost_169 BX12_isLost_174
    by_cases d : k < p_nh P m
    · obtain ⟨e1, e2, e3, e4⟩ := v.2.2.2 k d
      have b3 := (w.2.2.2.2.2.2.2.2 k d).2.2.1
      have d' : 6 * m + k < 6 * m + p_nh P m := by omega
      simp (disch := first | assumption | omega | decide | (simp only [hT_wI, hT_wL, hT_wR, hT_wLr]; assumption)) only [↓reduceIte, Nat.reduceEqDiff, Nat.reduceLT, Nat.reduceLeDiff, Nat.reduceAdd, Nat.reduceSub, Nat.reduceMul, or_self, or_true, true_or, or_false, false_or, and_self, and_true, true_and, and_false, false_and, if_true, if_false, ↓gI_ok, ↓gL_ok, ↓gR_ok, ↓pI_ok, ↓pL_ok, ↓pR_ok, ↓rcv_ok, ↓nz_ok, ↓nz_no, ↓aI_n, ↓aL_n, ↓aR_n, ↓sI_n, ↓sL_n, ↓sR_n, ↓cl_ok, ↓bz_0, ↓bz_1, hT_wI, hT_wL, hT_wR, hT_wLr, hR_wI, hR_wL, hR_wLr, hI_wL, hI_wR, hI_wLr, hL_wI, hL_wR, nI_add, nI_1, pk_mul, if_lt, if_eq, if_eqL, ie_0, ie_1, il_0, il_1, ir_0, ir_1, ie_m, il_m, bz_b, ib_0, i_10, i_01, i_0m, i_1m, i_m0, i_ml0, b2i_if, bz_i, nI_p1, nl_2, nl_3, nl_4, nl_5, nl_6, nl_7, nl_8, nl_9, nl_10, nl_11, nl_12, nl_13, nl_14, nl_15, nl_16, nl_17, nl_18, nl_19, nl_20, nl_21, nl_22, nl_23, nl_24, nl_25, nl_26, nl_27, nl_28, nl_29, nl_30, nl_31, nl_32, nl_33, nl_34, nl_35, nl_36, nl_37, nl_38, nl_39, nl_40, nl_41, nl_42, nl_43, nl_44, nl_45, nl_46, nl_47, nl_48, nl_49, nl_50, nl_51, nl_52, nl_53, nl_54, nl_55, nl_56, nl_57, nl_58, nl_59, nl_60, nl_61, nl_62, nl_63, nl_64, nl_100, nl_480, nl_1020, nl_3000, mr9, mr12, e9, e3, g_covers lm v w hm d hi, d']
      have i0 := ih (k + 1) false (by omega) (by omega)
      have i1 := ih (k + 1) true (by omega) (by omega)
      rw [show 6 * m + (k + 1) = 6 * m + k + 1 by omega] at i0 i1
      rw [show b2i false = 0 from rfl] at i0
      rw [show b2i true = 1 from rfl] at i1
      rw [i0, i1, hbF_s d]
      cases b with
      | true => rw [if_pos rfl, Bool.true_or, Bool.true_or]
      | false =>
        rw [if_neg (by decide), Bool.false_or, Bool.false_or, Bool.true_or]
        cases hc : pcov P m k i with
        | false => rw [if_neg (by decide)]; rfl
        | true =>
          rw [if_pos rfl]
          by_cases d2 : p_hg P m k < p_no P m
          · rw [if_pos d2, decide_eq_true d2]; rfl
          · rw [if_neg d2, decide_eq_false d2]; rfl
    · have d' : ¬ 6 * m + k < 6 * m + p_nh P m := by omega
      simp (disch := first | assumption | omega | decide | (simp only [hT_wI, hT_wL, hT_wR, hT_wLr]; assumption)) only [↓reduceIte, Nat.reduceEqDiff, Nat.reduceLT, Nat.reduceLeDiff, Nat.reduceAdd, Nat.reduceSub, Nat.reduceMul, or_self, or_true, true_or, or_false, false_or, and_self, and_true, true_and, and_false, false_and, if_true, if_false, ↓gI_ok, ↓gL_ok, ↓gR_ok, ↓pI_ok, ↓pL_ok, ↓pR_ok, ↓rcv_ok, ↓nz_ok, ↓nz_no, ↓aI_n, ↓aL_n, ↓aR_n, ↓sI_n, ↓sL_n, ↓sR_n, ↓cl_ok, ↓bz_0, ↓bz_1, hT_wI, hT_wL, hT_wR, hT_wLr, hR_wI, hR_wL, hR_wLr, hI_wL, hI_wR, hI_wLr, hL_wI, hL_wR, nI_add, nI_1, pk_mul, if_lt, if_eq, if_eqL, ie_0, ie_1, il_0, il_1, ir_0, ir_1, ie_m, il_m, bz_b, ib_0, i_10, i_01, i_0m, i_1m, i_m0, i_ml0, b2i_if, bz_i, nI_p1, nl_2, nl_3, nl_4, nl_5, nl_6, nl_7, nl_8, nl_9, nl_10, nl_11, nl_12, nl_13, nl_14, nl_15, nl_16, nl_17, nl_18, nl_19, nl_20, nl_21, nl_22, nl_23, nl_24, nl_25, nl_26, nl_27, nl_28, nl_29, nl_30, nl_31, nl_32, nl_33, nl_34, nl_35, nl_36, nl_37, nl_38, nl_39, nl_40, nl_41, nl_42, nl_43, nl_44, nl_45, nl_46, nl_47, nl_48, nl_49, nl_50, nl_51, nl_52, nl_53, nl_54, nl_55, nl_56, nl_57, nl_58, nl_59, nl_60, nl_61, nl_62, nl_63, nl_64, nl_100, nl_480, nl_1020, nl_3000, mr9, e9, d']
      have : hbF P m i k = true := by
        unfold hbF
        rw [show p_nh P m - k = 0 by omega]; rfl
      rw [this]
      cases b <;> rfl
def tbF (P : Pg) (t n e : Nat) : Bool := (List.range' e (p_ne P t - e)).all (fun e => decide (p_tt P t e < n))
theorem tbF_s {t n e : Nat} (h : e < p_ne P t) : tbF P t n e = (decide (p_tt P t e < n) && tbF P t n (e + 1)) := by
  unfold tbF
  rw [show p_ne P t - e = (p_ne P t - (e + 1)) + 1 by omega, List.range'_succ, List.all_cons]
theorem gl_loop1 (lm : LM (hT h) (hR h) q) {m i t : Nat} (v : PMm h q P m) (w : PWm P m) (hm : m < 8) (hi : i < 60) (vt : PMt h q P t) (wt : PWt P t) (ht : t < 8) : ∀ (n e : Nat) (b : Bool), e ≤ p_ne P t → p_ne P t - e < n → BX12_isLost_72 n (some q) (nI m) (nI i) (nI t) (nI (p_no P m)) (b2i b) (nI e) h = some (b2i (b || !tbF P t (p_no P m) e || !j_hb P m i), h) := by
  obtain ⟨mt0, ⟨mr1, mt1⟩, ⟨mr2, mt2⟩, ⟨mr3, mt3⟩, ⟨mr4, mt4⟩, ⟨mr5, mt5⟩, ⟨mr6, mt6⟩, ⟨mr7, mt7⟩, ⟨mr8, mt8⟩, ⟨mr9, mt9⟩, ⟨mr10, mt10⟩, ⟨mr11, mt11⟩, ⟨mr12, mt12⟩, ⟨mr13, mt13⟩, ⟨mr14, mt14⟩, ⟨mr15, mt15⟩, ⟨mr16, mt16⟩, ⟨mr17, mt17⟩, ⟨mr18, mt18⟩, ⟨mr19, mt19⟩, ⟨mr20, mt20⟩, ⟨mr21, mt21⟩, ⟨mr22, mt22⟩, ⟨mr23, mt23⟩, ⟨mr24, mt24⟩, ⟨mr25, mt25⟩, ⟨mr26, mt26⟩, ⟨mr27, mt27⟩, ⟨mr28, mt28⟩, ⟨mr29, mt29⟩, ⟨mr30, mt30⟩, ⟨mr31, mt31⟩, ⟨mr32, mt32⟩, ⟨mr33, mt33⟩, ⟨mr34, mt34⟩, ⟨mr35, mt35⟩, ⟨mr36, mt36⟩, ⟨mr37, mt37⟩, ⟨mr38, mt38⟩, ⟨mr39, mt39⟩, ⟨mr40, mt40⟩, ⟨mr41, mt41⟩, ⟨mr42, mt42⟩, ⟨mr43, mt43⟩⟩ := id lm
  have e9 := vt.1.2.2.2
  have b5 := wt.2.1
  have b4 := w.2.2.2.1
  have b6 := w.2.2.2.2.1
  intro n
  induction n with
  | zero => intro k b h1 h2; omega
  | succ n ih =>
    intro e b h1 h2
    unfold BX12_isLost_72 BX12_isLost_107 BX12_isLost_112
    by_cases d : e < p_ne P t
    · obtain ⟨e1, e2⟩ := vt.2 e d
      have b3 := wt.2.2.2.1 e d
      simp (disch := first | assumption | omega | decide | (simp only [hT_wI, hT_wL, hT_wR, hT_wLr]; assumption)) only [↓reduceIte, Nat.reduceEqDiff, Nat.reduceLT, Nat.reduceLeDiff, Nat.reduceAdd, Nat.reduceSub, Nat.reduceMul, or_self, or_true, true_or, or_false, false_or, and_self, and_true, true_and, and_false, false_and, if_true, if_false, ↓gI_ok, ↓gL_ok, ↓gR_ok, ↓pI_ok, ↓pL_ok, ↓pR_ok, ↓rcv_ok, ↓nz_ok, ↓nz_no, ↓aI_n, ↓aL_n, ↓aR_n, ↓sI_n, ↓sL_n, ↓sR_n, ↓cl_ok, ↓bz_0, ↓bz_1, hT_wI, hT_wL, hT_wR, hT_wLr, hR_wI, hR_wL, hR_wLr, hI_wL, hI_wR, hI_wLr, hL_wI, hL_wR, nI_add, nI_1, pk_mul, if_lt, if_eq, if_eqL, ie_0, ie_1, il_0, il_1, ir_0, ir_1, ie_m, il_m, bz_b, ib_0, i_10, i_01, i_0m, i_1m, i_m0, i_ml0, b2i_if, bz_i, nI_p1, nl_2, nl_3, nl_4, nl_5, nl_6, nl_7, nl_8, nl_9, nl_10, nl_11, nl_12, nl_13, nl_14, nl_15, nl_16, nl_17, nl_18, nl_19, nl_20, nl_21, nl_22, nl_23, nl_24, nl_25, nl_26, nl_27, nl_28, nl_29, nl_30, nl_31, nl_32, nl_33, nl_34, nl_35, nl_36, nl_37, nl_38, nl_39, nl_40, nl_41, nl_42, nl_43, nl_44, nl_45, nl_46, nl_47, nl_48, nl_49, nl_50, nl_51, nl_52, nl_53, nl_54, nl_55, nl_56, nl_57, nl_58, nl_59, nl_60, nl_61, nl_62, nl_63, nl_64, nl_100, nl_480, nl_1020, nl_3000, mr21, mr19, mr23, e9, e2, d]
      have i0 := ih (e + 1) false (by omega) (by omega)
      have i1 := ih (e + 1) true (by omega) (by omega)
      rw [show b2i false = 0 from rfl] at i0
      rw [show b2i true = 1 from rfl] at i1
      rw [i0, i1, tbF_s d]
      cases b with
      | true => rw [if_pos rfl]; rfl
      | false =>
        rw [if_neg (by decide), Bool.false_or, Bool.false_or, Bool.true_or]
        by_cases d2 : p_tt P t e < p_no P m
        · rw [if_pos d2, decide_eq_true d2]; rfl
        · rw [if_neg d2, decide_eq_false d2]; rfl
    · simp (disch := first | assumption | omega | decide | (simp only [hT_wI, hT_wL, hT_wR, hT_wLr]; assumption)) only [↓reduceIte, Nat.reduceEqDiff, Nat.reduceLT, Nat.reduceLeDiff, Nat.reduceAdd, Nat.reduceSub, Nat.reduceMul, or_self, or_true, true_or, or_false, false_or, and_self, and_true, true_and, and_false, false_and, if_true, if_false, ↓gI_ok, ↓gL_ok, ↓gR_ok, ↓pI_ok, ↓pL_ok, ↓pR_ok, ↓rcv_ok, ↓nz_ok, ↓nz_no, ↓aI_n, ↓aL_n, ↓aR_n, ↓sI_n, ↓sL_n, ↓sR_n, ↓cl_ok, ↓bz_0, ↓bz_1, hT_wI, hT_wL, hT_wR, hT_wLr, hR_wI, hR_wL, hR_wLr, hI_wL, hI_wR, hI_wLr, hL_wI, hL_wR, nI_add, nI_1, pk_mul, if_lt, if_eq, if_eqL, ie_0, ie_1, il_0, il_1, ir_0, ir_1, ie_m, il_m, bz_b, ib_0, i_10, i_01, i_0m, i_1m, i_m0, i_ml0, b2i_if, bz_i, nI_p1, nl_2, nl_3, nl_4, nl_5, nl_6, nl_7, nl_8, nl_9, nl_10, nl_11, nl_12, nl_13, nl_14, nl_15, nl_16, nl_17, nl_18, nl_19, nl_20, nl_21, nl_22, nl_23, nl_24, nl_25, nl_26, nl_27, nl_28, nl_29, nl_30, nl_31, nl_32, nl_33, nl_34, nl_35, nl_36, nl_37, nl_38, nl_39, nl_40, nl_41, nl_42, nl_43, nl_44, nl_45, nl_46, nl_47, nl_48, nl_49, nl_50, nl_51, nl_52, nl_53, nl_54, nl_55, nl_56, nl_57, nl_58, nl_59, nl_60, nl_61, nl_62, nl_63, nl_64, nl_100, nl_480, nl_1020, nl_3000, mr21, mr19, e9, d]
      unfold BX12_isLost_120
      rw [nl_6, pk_mul, show 6 * m = 6 * m + 0 by omega, gl_loop2 lm v w hm hi 100000 0 b (by omega) (by omega), hbF_0]
      have : tbF P t (p_no P m) e = true := by
        unfold tbF
        rw [show p_ne P t - e = 0 by omega]; rfl
      rw [this]
      cases b <;> rfl
theorem g_in20 {op : Nat} (hop : op < 36) (g : Hp) : FX12_in (Int32.toInt64 (nI op)) 20 22 g = some (b2i (decide (op = 20 ∨ op = 21 ∨ op = 22)), g) := by
  have h1 : (20 : Int64).toInt = 20 := rfl
  have h2 : (22 : Int64).toInt = 22 := rfl
  rw [f_in, i64_of32, nI_tI (by omega), h1, h2]
  by_cases c : op = 20 ∨ op = 21 ∨ op = 22
  · rw [if_pos (by omega), decide_eq_true c]; rfl
  · rw [if_neg (by omega), decide_eq_false c]; rfl
theorem g_tg (lm : LM (hT h) (hR h) q) (v : PM h q P) (w : PW P) {m i : Nat} (hm : m < p_nm P) (hi : i < p_no P m) (hod : p_op P m i = 23 → wi (p_A P m i) (p_nt P) = true) : FX12_isLost (some q) (nI m) (nI i) (nI (p_op P m i)) (p_A P m i) h = some (b2i (!j_tg P m i), h) := by
  obtain ⟨mt0, ⟨mr1, mt1⟩, ⟨mr2, mt2⟩, ⟨mr3, mt3⟩, ⟨mr4, mt4⟩, ⟨mr5, mt5⟩, ⟨mr6, mt6⟩, ⟨mr7, mt7⟩, ⟨mr8, mt8⟩, ⟨mr9, mt9⟩, ⟨mr10, mt10⟩, ⟨mr11, mt11⟩, ⟨mr12, mt12⟩, ⟨mr13, mt13⟩, ⟨mr14, mt14⟩, ⟨mr15, mt15⟩, ⟨mr16, mt16⟩, ⟨mr17, mt17⟩, ⟨mr18, mt18⟩, ⟨mr19, mt19⟩, ⟨mr20, mt20⟩, ⟨mr21, mt21⟩, ⟨mr22, mt22⟩, ⟨mr23, mt23⟩, ⟨mr24, mt24⟩, ⟨mr25, mt25⟩, ⟨mr26, mt26⟩, ⟨mr27, mt27⟩, ⟨mr28, mt28⟩, ⟨mr29, mt29⟩, ⟨mr30, mt30⟩, ⟨mr31, mt31⟩, ⟨mr32, mt32⟩, ⟨mr33, mt33⟩, ⟨mr34, mt34⟩, ⟨mr35, mt35⟩, ⟨mr36, mt36⟩, ⟨mr37, mt37⟩, ⟨mr38, mt38⟩, ⟨mr39, mt39⟩, ⟨mr40, mt40⟩, ⟨mr41, mt41⟩, ⟨mr42, mt42⟩, ⟨mr43, mt43⟩⟩ := id lm
  have hm8 : m < 8 := by have := w.1; omega
  have vm := v.2.1 m hm
  have wm := w.2.2.2.1 m hm
  have e5 := vm.1.2.2.2.1
  have b4 := wm.2.2.2.1
  have b6 := wm.2.2.2.2.1
  have e4 := wm.2.2.2.2.2.2.2.1 i hi
  have l120 : ∀ b : Bool, BX12_isLost_120 (some q) (nI m) (nI i) (nI (p_no P m)) (b2i b) h = some (b2i (b || !j_hb P m i), h) := by
    intro b
    unfold BX12_isLost_120
    rw [nl_6, pk_mul, show 6 * m = 6 * m + 0 by omega, gl_loop2 lm vm wm hm8 (by omega) 100000 0 b (by omega) (by omega), hbF_0]
  have l0 := l120 false
  have l1 := l120 true
  rw [show b2i false = 0 from rfl] at l0
  rw [show b2i true = 1 from rfl] at l1
  unfold FX12_isLost BX12_isLost_41 BX12_isLost_42
  simp (disch := first | assumption | omega | decide | (simp only [hT_wI, hT_wL, hT_wR, hT_wLr]; assumption)) only [↓reduceIte, Nat.reduceEqDiff, Nat.reduceLT, Nat.reduceLeDiff, Nat.reduceAdd, Nat.reduceSub, Nat.reduceMul, or_self, or_true, true_or, or_false, false_or, and_self, and_true, true_and, and_false, false_and, if_true, if_false, ↓gI_ok, ↓gL_ok, ↓gR_ok, ↓pI_ok, ↓pL_ok, ↓pR_ok, ↓rcv_ok, ↓nz_ok, ↓nz_no, ↓aI_n, ↓aL_n, ↓aR_n, ↓sI_n, ↓sL_n, ↓sR_n, ↓cl_ok, ↓bz_0, ↓bz_1, hT_wI, hT_wL, hT_wR, hT_wLr, hR_wI, hR_wL, hR_wLr, hI_wL, hI_wR, hI_wLr, hL_wI, hL_wR, nI_add, nI_1, pk_mul, if_lt, if_eq, if_eqL, ie_0, ie_1, il_0, il_1, ir_0, ir_1, ie_m, il_m, bz_b, ib_0, i_10, i_01, i_0m, i_1m, i_m0, i_ml0, b2i_if, bz_i, nI_p1, nl_2, nl_3, nl_4, nl_5, nl_6, nl_7, nl_8, nl_9, nl_10, nl_11, nl_12, nl_13, nl_14, nl_15, nl_16, nl_17, nl_18, nl_19, nl_20, nl_21, nl_22, nl_23, nl_24, nl_25, nl_26, nl_27, nl_28, nl_29, nl_30, nl_31, nl_32, nl_33, nl_34, nl_35, nl_36, nl_37, nl_38, nl_39, nl_40, nl_41, nl_42, nl_43, nl_44, nl_45, nl_46, nl_47, nl_48, nl_49, nl_50, nl_51, nl_52, nl_53, nl_54, nl_55, nl_56, nl_57, nl_58, nl_59, nl_60, nl_61, nl_62, nl_63, nl_64, nl_100, nl_480, nl_1020, nl_3000, mr1, mr2, mr3, mr4, mr5, mr6, mr7, mr8, mr9, mr10, mr11, mr12, mr13, mr14, mr15, mr16, mr17, mr18, mr19, mr20, mr21, mr22, mr23, mr24, mr25, mr26, mr27, mr28, mr29, mr30, mr31, mr32, mr33, mr34, mr35, mr36, mr37, mr38, mr39, mr40, mr41, mr42, mr43, e5, in_m, l0, l1, g_in20 e4]
  have e11 : p_no P m - 1 + 1 = p_no P m := by omega
  rw [e11]
  unfold j_tg
  by_cases c20 : p_op P m i = 20 ∨ p_op P m i = 21 ∨ p_op P m i = 22
  · have c23 : ¬ p_op P m i = 23 := by omega
    simp only [decide_eq_true c20, c23, if_true, if_false, Bool.and_true]
    rw [if_pos c20]
    cases wi (p_A P m i) (p_no P m) <;> rfl
  · rw [decide_eq_false c20, if_neg (by decide), if_neg c20, Bool.true_and]
    by_cases c23 : p_op P m i = 23
    · rw [if_pos c23, if_pos c23]
      have hnt := w.2.2.1
      obtain ⟨x, hx, ex, ec⟩ := wi_ex (by omega) (hod c23)
      rw [ec, ex]
      have vt := v.2.2.1 x hx
      have wt := w.2.2.2.2 x hx
      have e18 := vt.1.2.2.1
      have b1 := wt.1
      have k0 := gl_loop1 lm vm wm hm8 (by omega : i < 60) vt wt (by omega) 100000 0 false (by omega) (by have := wt.2.1; omega)
      have k1 := gl_loop1 lm vm wm hm8 (by omega : i < 60) vt wt (by omega) 100000 0 true (by omega) (by have := wt.2.1; omega)
      rw [show b2i false = 0 from rfl, ← nI_c0] at k0
      rw [show b2i true = 1 from rfl, ← nI_c0] at k1
      unfold BX12_isLost_67
      simp (disch := first | assumption | omega | decide | (simp only [hT_wI, hT_wL, hT_wR, hT_wLr]; assumption)) only [↓reduceIte, Nat.reduceEqDiff, Nat.reduceLT, Nat.reduceLeDiff, Nat.reduceAdd, Nat.reduceSub, Nat.reduceMul, or_self, or_true, true_or, or_false, false_or, and_self, and_true, true_and, and_false, false_and, if_true, if_false, ↓gI_ok, ↓gL_ok, ↓gR_ok, ↓pI_ok, ↓pL_ok, ↓pR_ok, ↓rcv_ok, ↓nz_ok, ↓nz_no, ↓aI_n, ↓aL_n, ↓aR_n, ↓sI_n, ↓sL_n, ↓sR_n, ↓cl_ok, ↓bz_0, ↓bz_1, hT_wI, hT_wL, hT_wR, hT_wLr, hR_wI, hR_wL, hR_wLr, hI_wL, hI_wR, hI_wLr, hL_wI, hL_wR, nI_add, nI_1, pk_mul, if_lt, if_eq, if_eqL, ie_0, ie_1, il_0, il_1, ir_0, ir_1, ie_m, il_m, bz_b, ib_0, i_10, i_01, i_0m, i_1m, i_m0, i_ml0, b2i_if, bz_i, nI_p1, nl_2, nl_3, nl_4, nl_5, nl_6, nl_7, nl_8, nl_9, nl_10, nl_11, nl_12, nl_13, nl_14, nl_15, nl_16, nl_17, nl_18, nl_19, nl_20, nl_21, nl_22, nl_23, nl_24, nl_25, nl_26, nl_27, nl_28, nl_29, nl_30, nl_31, nl_32, nl_33, nl_34, nl_35, nl_36, nl_37, nl_38, nl_39, nl_40, nl_41, nl_42, nl_43, nl_44, nl_45, nl_46, nl_47, nl_48, nl_49, nl_50, nl_51, nl_52, nl_53, nl_54, nl_55, nl_56, nl_57, nl_58, nl_59, nl_60, nl_61, nl_62, nl_63, nl_64, nl_100, nl_480, nl_1020, nl_3000, mr1, mr2, mr3, mr4, mr5, mr6, mr7, mr8, mr9, mr10, mr11, mr12, mr13, mr14, mr15, mr16, mr17, mr18, mr19, mr20, mr21, mr22, mr23, mr24, mr25, mr26, mr27, mr28, mr29, mr30, mr31, mr32, mr33, mr34, mr35, mr36, mr37, mr38, mr39, mr40, mr41, mr42, mr43, e18, k0, k1]
      have et : tbF P x (p_no P m) 0 = (List.range (p_ne P x)).all (fun e => decide (p_tt P x e < p_no P m)) := by
        unfold tbF
        rw [List.range_eq_range', Nat.sub_zero]
      unfold tbel
      rw [et]
      by_cases d2 : p_ot P x < p_no P m
      · rw [if_pos d2, decide_eq_true d2, Bool.and_true, Bool.false_or]
        cases (List.range (p_ne P x)).all (fun e => decide (p_tt P x e < p_no P m)) <;> rfl
      · rw [if_neg d2, decide_eq_false d2, Bool.and_false]; rfl
    · rw [if_neg c23, if_neg c23, Bool.true_and]; rfl
end MA
