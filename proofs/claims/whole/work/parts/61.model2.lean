/-! the model's shape: pop, push, moves -/
def wfS (d : Nat) (σ : Nat → Nat) : Prop := ∀ p, p < d → (σ p = 1 → p + 1 < d ∧ σ (p + 1) = 6) ∧ (σ p = 3 → p + 1 < d ∧ σ (p + 1) = 7) ∧ (σ p = 6 → 0 < p ∧ σ (p - 1) = 1) ∧ (σ p = 7 → 0 < p ∧ σ (p - 1) = 3)
def Mv (h : Hp) (q d : Nat) (σ l : Nat → Nat) : Prop := (hI h q 29 = nI d ∧ d ≤ 16) ∧ (∀ p, p < d → hI h (q + 27) p = nI (σ p) ∧ σ p < 8) ∧ ∀ j, j < 16 → hI h (q + 28) j = nI (l j) ∧ l j < 8
theorem Mv.fq {h g : Hp} {q d : Nat} {σ l : Nat → Nat} {F A : Nat → Prop} (v : Mv h q d σ l) (f : Fq q F A h g) (hF : ¬ F 29) (h1 : ¬ A (q + 27)) (h2 : ¬ A (q + 28)) : Mv g q d σ l := by
  unfold Mv at v ⊢
  rw [f.2.2.2.2.2 29 hF, f.2.2.2.2.1 _ (by omega) h1, f.2.2.2.2.1 _ (by omega) h2]
  exact v
theorem hI_wI_e {h : Hp} {a k j : Nat} {v : Int32} (e : j = k) : hI (wI h a k v) a j = v := by rw [e]; exact hI_wI_s
theorem hI_wI_b {h : Hp} {a k b j : Nat} {v : Int32} (hb : b ≠ a) : hI (wI h a k v) b j = hI h b j := by rw [hI_wI_a hb]
def F29 : Nat → Prop := fun k => k = 29
def A0 : Nat → Prop := fun _ => False
def A27 (q : Nat) : Nat → Prop := fun b => b = q + 27
section MB
variable {h : Hp} {q : Nat} {P : Pg}
theorem wf_take {d k : Nat} {σ : Nat → Nat} (w : wfS d σ) (hk : k < 5) (h1 : wd k ≤ d) (h2 : σ (d - wd k) = k) : wfS (d - wd k) σ := by
  intro p hp
  obtain ⟨a, b, c, e⟩ := w p (by omega)
  have hw := wd_le k
  refine ⟨fun z => ⟨?_, (a z).2⟩, fun z => ⟨?_, (b z).2⟩, c, e⟩
  · have := a z
    by_cases x : p + 1 = d - wd k
    · rw [← x] at h2; omega
    · omega
  · have := b z
    by_cases x : p + 1 = d - wd k
    · rw [← x] at h2; omega
    · omega
theorem Mv.dep {d d' : Nat} {σ l : Nat → Nat} (v : Mv h q d σ l) (hd : d' ≤ d) : Mv (wI h q 29 (nI d')) q d' σ l := by
  obtain ⟨⟨v1, v2⟩, v3, v4⟩ := v
  exact ⟨⟨hI_wI_s, by omega⟩, fun p hp => by rw [hI_wI_a (by omega)]; exact v3 p (by omega), fun j hj => by rw [hI_wI_a (by omega)]; exact v4 j hj⟩
theorem l102 (t0 : hT h q = some (.inl 11)) {d k : Nat} (v1 : hI h q 29 = nI d) (hk : k < 8) (c : wd k ≤ d) (x : Int32) (hx : x = 0 ∨ x = 1) : BX12_pop_102 (some q) (nI k) x h = some (x, wI h q 29 (nI (d - wd k))) := by
  unfold BX12_pop_102
  rw [gI_ok t0, v1, f_wordsOf hk, cl_ok, pI_ok t0, pk_sub c, bz, if_pos hx]
theorem m_pop (lm : LM (hT h) (hR h) q) {d k : Nat} {σ l : Nat → Nat} (v : Mv h q d σ l) (w : wfS d σ) (hk : k < 5) : Ok (FX12_pop (some q) (nI k) h) (fun r g => Fq q F29 A0 h g ∧ ((wd k ≤ d ∧ σ (d - wd k) = k) ∧ r = 1 ∧ Mv g q (d - wd k) σ l ∨ ¬ (wd k ≤ d ∧ σ (d - wd k) = k) ∧ r = 0 ∧ ∃ d', d' ≤ d ∧ Mv g q d' σ l)) := by
  have t0 : hT h q = some (.inl 11) := lm.1
  have r30 : hR h q 30 = some (q + 27) := by obtain ⟨mt0, ⟨mr1, mt1⟩, ⟨mr2, mt2⟩, ⟨mr3, mt3⟩, ⟨mr4, mt4⟩, ⟨mr5, mt5⟩, ⟨mr6, mt6⟩, ⟨mr7, mt7⟩, ⟨mr8, mt8⟩, ⟨mr9, mt9⟩, ⟨mr10, mt10⟩, ⟨mr11, mt11⟩, ⟨mr12, mt12⟩, ⟨mr13, mt13⟩, ⟨mr14, mt14⟩, ⟨mr15, mt15⟩, ⟨mr16, mt16⟩, ⟨mr17, mt17⟩, ⟨mr18, mt18⟩, ⟨mr19, mt19⟩, ⟨mr20, mt20⟩, ⟨mr21, mt21⟩, ⟨mr22, mt22⟩, ⟨mr23, mt23⟩, ⟨mr24, mt24⟩, ⟨mr25, mt25⟩, ⟨mr26, mt26⟩, ⟨mr27, mt27⟩, ⟨mr28, mt28⟩, ⟨mr29, mt29⟩, ⟨mr30, mt30⟩, ⟨mr31, mt31⟩, ⟨mr32, mt32⟩, ⟨mr33, mt33⟩, ⟨mr34, mt34⟩, ⟨mr35, mt35⟩, ⟨mr36, mt36⟩, ⟨mr37, mt37⟩, ⟨mr38, mt38⟩, ⟨mr39, mt39⟩, ⟨mr40, mt40⟩, ⟨mr41, mt41⟩, ⟨mr42, mt42⟩, ⟨mr43, mt43⟩⟩ := id lm; exact mr27
  have t27 : hT h (q + 27) = some (.inr (.int, 64)) := by obtain ⟨mt0, ⟨mr1, mt1⟩, ⟨mr2, mt2⟩, ⟨mr3, mt3⟩, ⟨mr4, mt4⟩, ⟨mr5, mt5⟩, ⟨mr6, mt6⟩, ⟨mr7, mt7⟩, ⟨mr8, mt8⟩, ⟨mr9, mt9⟩, ⟨mr10, mt10⟩, ⟨mr11, mt11⟩, ⟨mr12, mt12⟩, ⟨mr13, mt13⟩, ⟨mr14, mt14⟩, ⟨mr15, mt15⟩, ⟨mr16, mt16⟩, ⟨mr17, mt17⟩, ⟨mr18, mt18⟩, ⟨mr19, mt19⟩, ⟨mr20, mt20⟩, ⟨mr21, mt21⟩, ⟨mr22, mt22⟩, ⟨mr23, mt23⟩, ⟨mr24, mt24⟩, ⟨mr25, mt25⟩, ⟨mr26, mt26⟩, ⟨mr27, mt27⟩, ⟨mr28, mt28⟩, ⟨mr29, mt29⟩, ⟨mr30, mt30⟩, ⟨mr31, mt31⟩, ⟨mr32, mt32⟩, ⟨mr33, mt33⟩, ⟨mr34, mt34⟩, ⟨mr35, mt35⟩, ⟨mr36, mt36⟩, ⟨mr37, mt37⟩, ⟨mr38, mt38⟩, ⟨mr39, mt39⟩, ⟨mr40, mt40⟩, ⟨mr41, mt41⟩, ⟨mr42, mt42⟩, ⟨mr43, mt43⟩⟩ := id lm; exact mt27
  obtain ⟨⟨v1, v2⟩, v3, v4⟩ := id v
  have hk8 : k < 8 := by omega
  have hw := wd_le k
  have f : ∀ y, Fq q F29 A0 h (wI h q 29 y) := fun y => Fq.wF rfl
  unfold FX12_pop
  rw [f_wordsOf hk8, cl_ok, nl_2, if_eq (by omega) (by decide)]
  have wide : ∀ s : Nat, s < 8 → (σ (d - wd k) = k → wd k = 2 → wd k ≤ d → σ (d - 1) = s) → wd k = 2 → Ok (BX12_pop_26 (some q) (nI k) 1 (nI s) h) (fun r g => Fq q F29 A0 h g ∧ ((wd k ≤ d ∧ σ (d - wd k) = k) ∧ r = 1 ∧ Mv g q (d - wd k) σ l ∨ ¬ (wd k ≤ d ∧ σ (d - wd k) = k) ∧ r = 0 ∧ ∃ d', d' ≤ d ∧ Mv g q d' σ l)) := by
    intro s hs hws hw2
    unfold BX12_pop_26 BX12_pop_78
    rw [gI_ok t0, v1, f_wordsOf hk8, cl_ok, if_lt (by omega) (by omega)]
    by_cases c : d < wd k
    · rw [if_pos c, bz_0]
      exact ok_some ⟨Fq.refl, Or.inr ⟨fun y => by omega, rfl, d, by omega, v⟩⟩
    · have vd := v.dep (show d - wd k ≤ d by omega)
      have a1 := v3 (d - 1) (by omega)
      have a2 := v3 (d - 2) (by omega)
      have e2 : d - wd k = d - 2 := by omega
      rw [if_neg c, if_neg (by decide), gR_ok t0, r30, gI_ok t0, v1, nI_p1 (by omega), aI_n t27 (by omega) (by decide), a1.1, if_eq (by omega) (by omega), gR_ok t0, r30, gI_ok t0, v1, nl_2, pk_sub (by omega), aI_n t27 (by omega) (by decide), a2.1, if_eq (by omega) (by omega), l102 t0 v1 hk8 (by omega) 1 (Or.inr rfl), l102 t0 v1 hk8 (by omega) 0 (Or.inl rfl)]
      by_cases z : σ (d - 2) = k
      · rw [if_pos z, if_pos (hws (by rw [e2]; exact z) hw2 (by omega))]
        exact ok_some ⟨f _, Or.inl ⟨⟨by omega, by rw [e2]; exact z⟩, rfl, vd⟩⟩
      · rw [if_neg z]
        split <;> exact ok_some ⟨f _, Or.inr ⟨fun y => z (by rw [← e2]; exact y.2), rfl, _, by omega, vd⟩⟩
  by_cases c2 : wd k = 2
  · rw [if_pos c2]
    unfold BX12_pop_13
    rw [ie_1 (by omega)]
    have kk : k = 1 ∨ k = 3 := by
      unfold wd at c2
      by_cases z : k = 1 ∨ k = 3
      · exact z
      · rw [if_neg z] at c2; omega
    rcases kk with rfl | rfl
    · rw [if_pos rfl]
      exact wide 6 (by omega) (fun z _ hle => by
        have := (w (d - wd 1) (by omega)).1 z
        rw [show d - 1 = d - wd 1 + 1 by omega]; exact this.2) c2
    · rw [if_neg (by decide)]
      exact wide 7 (by omega) (fun z _ hle => by
        have := (w (d - wd 3) (by omega)).2.1 z
        rw [show d - 1 = d - wd 3 + 1 by omega]; exact this.2) c2
  · rw [if_neg c2]
    have w1 : wd k = 1 := by omega
    have nar : ∀ x : Int32, Ok (BX12_pop_26 (some q) (nI k) 0 x h) (fun r g => Fq q F29 A0 h g ∧ ((wd k ≤ d ∧ σ (d - wd k) = k) ∧ r = 1 ∧ Mv g q (d - wd k) σ l ∨ ¬ (wd k ≤ d ∧ σ (d - wd k) = k) ∧ r = 0 ∧ ∃ d', d' ≤ d ∧ Mv g q d' σ l)) := by
      intro x
      unfold BX12_pop_26 BX12_pop_78
      rw [gI_ok t0, v1, f_wordsOf hk8, cl_ok, if_lt (by omega) (by omega)]
      by_cases c : d < wd k
      · rw [if_pos c, bz_0]
        exact ok_some ⟨Fq.refl, Or.inr ⟨fun y => by omega, rfl, d, by omega, v⟩⟩
      · have vd := v.dep (show d - wd k ≤ d by omega)
        have a1 := v3 (d - 1) (by omega)
        rw [if_neg c, if_pos rfl, gR_ok t0, r30, gI_ok t0, v1, nI_p1 (by omega), aI_n t27 (by omega) (by decide), a1.1, if_eq (by omega) (by omega), l102 t0 v1 hk8 (by omega) 1 (Or.inr rfl), l102 t0 v1 hk8 (by omega) 0 (Or.inl rfl)]
        by_cases z : σ (d - 1) = k
        · rw [if_pos z]
          exact ok_some ⟨f _, Or.inl ⟨⟨by omega, by rw [w1]; exact z⟩, rfl, vd⟩⟩
        · rw [if_neg z]
          exact ok_some ⟨f _, Or.inr ⟨fun y => z (by rw [← w1]; exact y.2), rfl, _, by omega, vd⟩⟩
    unfold BX12_pop_13
    split <;> exact nar _
theorem q27w {i : Nat} {y : Int32} : Fq q F29 (A27 q) h (wI h (q + 27) i y) := Fq.wA (A := A27 q) rfl (by omega)
theorem q29w {A : Nat → Prop} {y : Int32} : Fq q F29 A h (wI h q 29 y) := Fq.wF (F := F29) rfl
theorem m_push (lm : LM (hT h) (hR h) q) {d k : Nat} {σ l : Nat → Nat} (v : Mv h q d σ l) (hk : k < 5) (hd : d ≤ 14) : Ok (FX12_push (some q) (nI k) h) (fun _ g => Mv g q (d + wd k) (spu σ d k) l ∧ Fq q F29 (A27 q) h g) := by
  have t0 : hT h q = some (.inl 11) := lm.1
  have r30 : hR h q 30 = some (q + 27) := by obtain ⟨mt0, ⟨mr1, mt1⟩, ⟨mr2, mt2⟩, ⟨mr3, mt3⟩, ⟨mr4, mt4⟩, ⟨mr5, mt5⟩, ⟨mr6, mt6⟩, ⟨mr7, mt7⟩, ⟨mr8, mt8⟩, ⟨mr9, mt9⟩, ⟨mr10, mt10⟩, ⟨mr11, mt11⟩, ⟨mr12, mt12⟩, ⟨mr13, mt13⟩, ⟨mr14, mt14⟩, ⟨mr15, mt15⟩, ⟨mr16, mt16⟩, ⟨mr17, mt17⟩, ⟨mr18, mt18⟩, ⟨mr19, mt19⟩, ⟨mr20, mt20⟩, ⟨mr21, mt21⟩, ⟨mr22, mt22⟩, ⟨mr23, mt23⟩, ⟨mr24, mt24⟩, ⟨mr25, mt25⟩, ⟨mr26, mt26⟩, ⟨mr27, mt27⟩, ⟨mr28, mt28⟩, ⟨mr29, mt29⟩, ⟨mr30, mt30⟩, ⟨mr31, mt31⟩, ⟨mr32, mt32⟩, ⟨mr33, mt33⟩, ⟨mr34, mt34⟩, ⟨mr35, mt35⟩, ⟨mr36, mt36⟩, ⟨mr37, mt37⟩, ⟨mr38, mt38⟩, ⟨mr39, mt39⟩, ⟨mr40, mt40⟩, ⟨mr41, mt41⟩, ⟨mr42, mt42⟩, ⟨mr43, mt43⟩⟩ := id lm; exact mr27
  have t27 : hT h (q + 27) = some (.inr (.int, 64)) := by obtain ⟨mt0, ⟨mr1, mt1⟩, ⟨mr2, mt2⟩, ⟨mr3, mt3⟩, ⟨mr4, mt4⟩, ⟨mr5, mt5⟩, ⟨mr6, mt6⟩, ⟨mr7, mt7⟩, ⟨mr8, mt8⟩, ⟨mr9, mt9⟩, ⟨mr10, mt10⟩, ⟨mr11, mt11⟩, ⟨mr12, mt12⟩, ⟨mr13, mt13⟩, ⟨mr14, mt14⟩, ⟨mr15, mt15⟩, ⟨mr16, mt16⟩, ⟨mr17, mt17⟩, ⟨mr18, mt18⟩, ⟨mr19, mt19⟩, ⟨mr20, mt20⟩, ⟨mr21, mt21⟩, ⟨mr22, mt22⟩, ⟨mr23, mt23⟩, ⟨mr24, mt24⟩, ⟨mr25, mt25⟩, ⟨mr26, mt26⟩, ⟨mr27, mt27⟩, ⟨mr28, mt28⟩, ⟨mr29, mt29⟩, ⟨mr30, mt30⟩, ⟨mr31, mt31⟩, ⟨mr32, mt32⟩, ⟨mr33, mt33⟩, ⟨mr34, mt34⟩, ⟨mr35, mt35⟩, ⟨mr36, mt36⟩, ⟨mr37, mt37⟩, ⟨mr38, mt38⟩, ⟨mr39, mt39⟩, ⟨mr40, mt40⟩, ⟨mr41, mt41⟩, ⟨mr42, mt42⟩, ⟨mr43, mt43⟩⟩ := id lm; exact mt27
  obtain ⟨⟨v1, v2⟩, v3, v4⟩ := id v
  have hk8 : k < 8 := by omega
  have q27 : q ≠ q + 27 := by omega
  have q27' : q + 27 ≠ q := by omega
  have q28 : q + 28 ≠ q + 27 := by omega
  have q28' : q + 28 ≠ q := by omega
  have e1 : hI (wI h (q + 27) d (nI k)) q 29 = nI d := by rw [hI_wI_a q27]; exact v1
  unfold FX12_push BX12_push_48
  have hw := wd_le k
  rw [gR_ok t0, r30, gI_ok t0, v1, sI_n t27 (by omega) (by decide), gI_ok (show hT (wI h (q + 27) d (nI k)) q = _ from t0), e1, pI_ok (show hT (wI h (q + 27) d (nI k)) q = _ from t0), nI_1, f_wordsOf hk8, cl_ok, nl_2, if_eq (by omega) (by decide)]
  unfold spu
  by_cases c : wd k = 2
  · have e2 : hI (wI (wI h (q + 27) d (nI k)) q 29 (nI (d + 1))) q 29 = nI (d + 1) := hI_wI_s
    rw [if_pos c, if_pos c, c, gR_ok (show hT (wI (wI h (q + 27) d (nI k)) q 29 (nI (d + 1))) q = _ from t0), show hR (wI (wI h (q + 27) d (nI k)) q 29 (nI (d + 1))) q 30 = _ from r30, gI_ok (show hT (wI (wI h (q + 27) d (nI k)) q 29 (nI (d + 1))) q = _ from t0), e2]
    have ek : ∀ y, Ok (sI (wI (wI h (q + 27) d (nI k)) q 29 (nI (d + 1))) (some (q + 27)) (nI (d + 1)) (nI (en k)) (fun h1 => gI h1 (some q) 11 29 fun v8 => pI h1 (some q) 11 29 (v8 + 1) fun h15 => some (y, h15))) (fun (_ : Unit) g => Mv g q (d + 2) (va_up (va_up σ d k) (d + 1) (en k)) l ∧ Fq q F29 (A27 q) h g) := by
      intro y
      simp (disch := first | assumption | omega | decide | (simp only [hT_wI, hT_wL, hT_wR, hT_wLr]; assumption)) only [↓reduceIte, Nat.reduceEqDiff, Nat.reduceLT, Nat.reduceLeDiff, Nat.reduceAdd, Nat.reduceSub, Nat.reduceMul, or_self, or_true, true_or, or_false, false_or, and_self, and_true, true_and, and_false, false_and, if_true, if_false, ↓gI_ok, ↓gL_ok, ↓gR_ok, ↓pI_ok, ↓pL_ok, ↓pR_ok, ↓rcv_ok, ↓nz_ok, ↓nz_no, ↓aI_n, ↓aL_n, ↓aR_n, ↓sI_n, ↓sL_n, ↓sR_n, ↓cl_ok, ↓bz_0, ↓bz_1, hT_wI, hT_wL, hT_wR, hT_wLr, hR_wI, hR_wL, hR_wLr, hI_wL, hI_wR, hI_wLr, hL_wI, hL_wR, nI_add, nI_1, pk_mul, if_lt, if_eq, if_eqL, ie_0, ie_1, il_0, il_1, ir_0, ir_1, ie_m, il_m, bz_b, ib_0, i_10, i_01, i_0m, i_1m, i_m0, i_ml0, b2i_if, bz_i, nI_p1, nl_2, nl_3, nl_4, nl_5, nl_6, nl_7, nl_8, nl_9, nl_10, nl_11, nl_12, nl_13, nl_14, nl_15, nl_16, nl_17, nl_18, nl_19, nl_20, nl_21, nl_22, nl_23, nl_24, nl_25, nl_26, nl_27, nl_28, nl_29, nl_30, nl_31, nl_32, nl_33, nl_34, nl_35, nl_36, nl_37, nl_38, nl_39, nl_40, nl_41, nl_42, nl_43, nl_44, nl_45, nl_46, nl_47, nl_48, nl_49, nl_50, nl_51, nl_52, nl_53, nl_54, nl_55, nl_56, nl_57, nl_58, nl_59, nl_60, nl_61, nl_62, nl_63, nl_64, nl_100, nl_480, nl_1020, nl_3000]
      have e3 : hI (wI (wI (wI h (q + 27) d (nI k)) q 29 (nI (d + 1))) (q + 27) (d + 1) (nI (en k))) q 29 = nI (d + 1) := by rw [hI_wI_a q27]; exact e2
      rw [e3, nI_1]
      refine ok_some ⟨⟨⟨hI_wI_s, by omega⟩, fun p hp => ?_, fun j hj => ?_⟩, ((q27w.trans q29w).trans q27w).trans q29w⟩
      · rw [hI_wI_a q27']
        by_cases x1 : p = d + 1
        · subst x1; rw [hI_wI_s, va_s]; exact ⟨rfl, en_lt k⟩
        · rw [hI_wI_k x1, hI_wI_a q27', va_n _ _ x1]
          by_cases x2 : p = d
          · subst x2; rw [hI_wI_s, va_s]; exact ⟨rfl, by omega⟩
          · rw [hI_wI_k x2, va_n _ _ x2]; exact v3 p (by omega)
      · rw [hI_wI_a q28', hI_wI_a q28, hI_wI_a q28', hI_wI_a q28]; exact v4 j hj
    rcases (show k = 0 ∨ k = 1 ∨ k = 2 ∨ k = 3 ∨ k = 4 by omega) with rfl | rfl | rfl | rfl | rfl
    · cases c
    · exact ek ()
    · cases c
    · exact ek ()
    · cases c
  · rw [if_neg c, if_neg c, show wd k = 1 by omega]
    refine ok_some ⟨⟨⟨hI_wI_s, by omega⟩, fun p hp => ?_, fun j hj => ?_⟩, q27w.trans q29w⟩
    · rw [hI_wI_a q27']
      by_cases x2 : p = d
      · subst x2; rw [hI_wI_s, va_s]; exact ⟨rfl, by omega⟩
      · rw [hI_wI_k x2, va_n _ _ x2]; exact v3 p (by omega)
    · rw [hI_wI_a q28', hI_wI_a q28]; exact v4 j hj
theorem m_whole (lm : LM (hT h) (hR h) q) {d n : Nat} {σ l : Nat → Nat} (v : Mv h q d σ l) (hn : 1 ≤ n) (hn4 : n ≤ 4) : FX12_isWhole (some q) (nI n) h = some (b2i (decide (n ≤ d ∧ σ (d - n) < 6)), h) := by
  have t0 : hT h q = some (.inl 11) := lm.1
  have r30 : hR h q 30 = some (q + 27) := by obtain ⟨mt0, ⟨mr1, mt1⟩, ⟨mr2, mt2⟩, ⟨mr3, mt3⟩, ⟨mr4, mt4⟩, ⟨mr5, mt5⟩, ⟨mr6, mt6⟩, ⟨mr7, mt7⟩, ⟨mr8, mt8⟩, ⟨mr9, mt9⟩, ⟨mr10, mt10⟩, ⟨mr11, mt11⟩, ⟨mr12, mt12⟩, ⟨mr13, mt13⟩, ⟨mr14, mt14⟩, ⟨mr15, mt15⟩, ⟨mr16, mt16⟩, ⟨mr17, mt17⟩, ⟨mr18, mt18⟩, ⟨mr19, mt19⟩, ⟨mr20, mt20⟩, ⟨mr21, mt21⟩, ⟨mr22, mt22⟩, ⟨mr23, mt23⟩, ⟨mr24, mt24⟩, ⟨mr25, mt25⟩, ⟨mr26, mt26⟩, ⟨mr27, mt27⟩, ⟨mr28, mt28⟩, ⟨mr29, mt29⟩, ⟨mr30, mt30⟩, ⟨mr31, mt31⟩, ⟨mr32, mt32⟩, ⟨mr33, mt33⟩, ⟨mr34, mt34⟩, ⟨mr35, mt35⟩, ⟨mr36, mt36⟩, ⟨mr37, mt37⟩, ⟨mr38, mt38⟩, ⟨mr39, mt39⟩, ⟨mr40, mt40⟩, ⟨mr41, mt41⟩, ⟨mr42, mt42⟩, ⟨mr43, mt43⟩⟩ := id lm; exact mr27
  have t27 : hT h (q + 27) = some (.inr (.int, 64)) := by obtain ⟨mt0, ⟨mr1, mt1⟩, ⟨mr2, mt2⟩, ⟨mr3, mt3⟩, ⟨mr4, mt4⟩, ⟨mr5, mt5⟩, ⟨mr6, mt6⟩, ⟨mr7, mt7⟩, ⟨mr8, mt8⟩, ⟨mr9, mt9⟩, ⟨mr10, mt10⟩, ⟨mr11, mt11⟩, ⟨mr12, mt12⟩, ⟨mr13, mt13⟩, ⟨mr14, mt14⟩, ⟨mr15, mt15⟩, ⟨mr16, mt16⟩, ⟨mr17, mt17⟩, ⟨mr18, mt18⟩, ⟨mr19, mt19⟩, ⟨mr20, mt20⟩, ⟨mr21, mt21⟩, ⟨mr22, mt22⟩, ⟨mr23, mt23⟩, ⟨mr24, mt24⟩, ⟨mr25, mt25⟩, ⟨mr26, mt26⟩, ⟨mr27, mt27⟩, ⟨mr28, mt28⟩, ⟨mr29, mt29⟩, ⟨mr30, mt30⟩, ⟨mr31, mt31⟩, ⟨mr32, mt32⟩, ⟨mr33, mt33⟩, ⟨mr34, mt34⟩, ⟨mr35, mt35⟩, ⟨mr36, mt36⟩, ⟨mr37, mt37⟩, ⟨mr38, mt38⟩, ⟨mr39, mt39⟩, ⟨mr40, mt40⟩, ⟨mr41, mt41⟩, ⟨mr42, mt42⟩, ⟨mr43, mt43⟩⟩ := id lm; exact mt27
  obtain ⟨⟨v1, v2⟩, v3, v4⟩ := id v
  unfold FX12_isWhole
  by_cases c : n ≤ d
  · have v3a := v3 (d - n) (by omega)
    have v3b := v3a.2
    have c2 : ¬ d < n := by omega
    simp (disch := first | assumption | omega | decide | (simp only [hT_wI, hT_wL, hT_wR, hT_wLr]; assumption)) only [↓reduceIte, Nat.reduceEqDiff, Nat.reduceLT, Nat.reduceLeDiff, Nat.reduceAdd, Nat.reduceSub, Nat.reduceMul, or_self, or_true, true_or, or_false, false_or, and_self, and_true, true_and, and_false, false_and, if_true, if_false, ↓gI_ok, ↓gL_ok, ↓gR_ok, ↓pI_ok, ↓pL_ok, ↓pR_ok, ↓rcv_ok, ↓nz_ok, ↓nz_no, ↓aI_n, ↓aL_n, ↓aR_n, ↓sI_n, ↓sL_n, ↓sR_n, ↓cl_ok, ↓bz_0, ↓bz_1, hT_wI, hT_wL, hT_wR, hT_wLr, hR_wI, hR_wL, hR_wLr, hI_wL, hI_wR, hI_wLr, hL_wI, hL_wR, nI_add, nI_1, pk_mul, if_lt, if_eq, if_eqL, ie_0, ie_1, il_0, il_1, ir_0, ir_1, ie_m, il_m, bz_b, ib_0, i_10, i_01, i_0m, i_1m, i_m0, i_ml0, b2i_if, bz_i, nI_p1, nl_2, nl_3, nl_4, nl_5, nl_6, nl_7, nl_8, nl_9, nl_10, nl_11, nl_12, nl_13, nl_14, nl_15, nl_16, nl_17, nl_18, nl_19, nl_20, nl_21, nl_22, nl_23, nl_24, nl_25, nl_26, nl_27, nl_28, nl_29, nl_30, nl_31, nl_32, nl_33, nl_34, nl_35, nl_36, nl_37, nl_38, nl_39, nl_40, nl_41, nl_42, nl_43, nl_44, nl_45, nl_46, nl_47, nl_48, nl_49, nl_50, nl_51, nl_52, nl_53, nl_54, nl_55, nl_56, nl_57, nl_58, nl_59, nl_60, nl_61, nl_62, nl_63, nl_64, nl_100, nl_480, nl_1020, nl_3000, v1, r30, c2, pk_sub, v3a.1]
    by_cases z : σ (d - n) < 6
    · rw [if_pos z, decide_eq_true ⟨c, z⟩]; rfl
    · rw [if_neg z, decide_eq_false (fun y => z y.2)]; rfl
  · have c2 : d < n := by omega
    simp (disch := first | assumption | omega | decide | (simp only [hT_wI, hT_wL, hT_wR, hT_wLr]; assumption)) only [↓reduceIte, Nat.reduceEqDiff, Nat.reduceLT, Nat.reduceLeDiff, Nat.reduceAdd, Nat.reduceSub, Nat.reduceMul, or_self, or_true, true_or, or_false, false_or, and_self, and_true, true_and, and_false, false_and, if_true, if_false, ↓gI_ok, ↓gL_ok, ↓gR_ok, ↓pI_ok, ↓pL_ok, ↓pR_ok, ↓rcv_ok, ↓nz_ok, ↓nz_no, ↓aI_n, ↓aL_n, ↓aR_n, ↓sI_n, ↓sL_n, ↓sR_n, ↓cl_ok, ↓bz_0, ↓bz_1, hT_wI, hT_wL, hT_wR, hT_wLr, hR_wI, hR_wL, hR_wLr, hI_wL, hI_wR, hI_wLr, hL_wI, hL_wR, nI_add, nI_1, pk_mul, if_lt, if_eq, if_eqL, ie_0, ie_1, il_0, il_1, ir_0, ir_1, ie_m, il_m, bz_b, ib_0, i_10, i_01, i_0m, i_1m, i_m0, i_ml0, b2i_if, bz_i, nI_p1, nl_2, nl_3, nl_4, nl_5, nl_6, nl_7, nl_8, nl_9, nl_10, nl_11, nl_12, nl_13, nl_14, nl_15, nl_16, nl_17, nl_18, nl_19, nl_20, nl_21, nl_22, nl_23, nl_24, nl_25, nl_26, nl_27, nl_28, nl_29, nl_30, nl_31, nl_32, nl_33, nl_34, nl_35, nl_36, nl_37, nl_38, nl_39, nl_40, nl_41, nl_42, nl_43, nl_44, nl_45, nl_46, nl_47, nl_48, nl_49, nl_50, nl_51, nl_52, nl_53, nl_54, nl_55, nl_56, nl_57, nl_58, nl_59, nl_60, nl_61, nl_62, nl_63, nl_64, nl_100, nl_480, nl_1020, nl_3000, v1, c2]
    rw [decide_eq_false (fun y => c y.1)]; rfl
end MB
