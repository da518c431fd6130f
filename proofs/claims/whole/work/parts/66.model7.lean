/-! the model: isIn, store, load -/
def A28 (q : Nat) : Nat → Prop := fun b => b = q + 27 ∨ b = q + 28
theorem k13 {k : Nat} : wd k = 2 ↔ k = 1 ∨ k = 3 := by unfold wd; split <;> omega
section MF
variable {h : Hp} {q : Nat} {d : Nat} {σ l : Nat → Nat}
theorem m_isIn (lm : LM (hT h) (hR h) q) (mv : Mv h q d σ l) (w : wfS 16 l) {a k : Nat} (hk : k < 5) (ha : a + wd k ≤ 16) : FX12_isIn (some q) (nI a) (nI k) h = some (b2i (decide (l a = k)), h) := by
  have t0 : hT h q = some (.inl 11) := lm.1
  have r31 : hR h q 31 = some (q + 28) := by obtain ⟨mt0, ⟨mr1, mt1⟩, ⟨mr2, mt2⟩, ⟨mr3, mt3⟩, ⟨mr4, mt4⟩, ⟨mr5, mt5⟩, ⟨mr6, mt6⟩, ⟨mr7, mt7⟩, ⟨mr8, mt8⟩, ⟨mr9, mt9⟩, ⟨mr10, mt10⟩, ⟨mr11, mt11⟩, ⟨mr12, mt12⟩, ⟨mr13, mt13⟩, ⟨mr14, mt14⟩, ⟨mr15, mt15⟩, ⟨mr16, mt16⟩, ⟨mr17, mt17⟩, ⟨mr18, mt18⟩, ⟨mr19, mt19⟩, ⟨mr20, mt20⟩, ⟨mr21, mt21⟩, ⟨mr22, mt22⟩, ⟨mr23, mt23⟩, ⟨mr24, mt24⟩, ⟨mr25, mt25⟩, ⟨mr26, mt26⟩, ⟨mr27, mt27⟩, ⟨mr28, mt28⟩, ⟨mr29, mt29⟩, ⟨mr30, mt30⟩, ⟨mr31, mt31⟩, ⟨mr32, mt32⟩, ⟨mr33, mt33⟩, ⟨mr34, mt34⟩, ⟨mr35, mt35⟩, ⟨mr36, mt36⟩, ⟨mr37, mt37⟩, ⟨mr38, mt38⟩, ⟨mr39, mt39⟩, ⟨mr40, mt40⟩, ⟨mr41, mt41⟩, ⟨mr42, mt42⟩, ⟨mr43, mt43⟩⟩ := id lm; exact mr28
  have t28 : hT h (q + 28) = some (.inr (.int, 18)) := by obtain ⟨mt0, ⟨mr1, mt1⟩, ⟨mr2, mt2⟩, ⟨mr3, mt3⟩, ⟨mr4, mt4⟩, ⟨mr5, mt5⟩, ⟨mr6, mt6⟩, ⟨mr7, mt7⟩, ⟨mr8, mt8⟩, ⟨mr9, mt9⟩, ⟨mr10, mt10⟩, ⟨mr11, mt11⟩, ⟨mr12, mt12⟩, ⟨mr13, mt13⟩, ⟨mr14, mt14⟩, ⟨mr15, mt15⟩, ⟨mr16, mt16⟩, ⟨mr17, mt17⟩, ⟨mr18, mt18⟩, ⟨mr19, mt19⟩, ⟨mr20, mt20⟩, ⟨mr21, mt21⟩, ⟨mr22, mt22⟩, ⟨mr23, mt23⟩, ⟨mr24, mt24⟩, ⟨mr25, mt25⟩, ⟨mr26, mt26⟩, ⟨mr27, mt27⟩, ⟨mr28, mt28⟩, ⟨mr29, mt29⟩, ⟨mr30, mt30⟩, ⟨mr31, mt31⟩, ⟨mr32, mt32⟩, ⟨mr33, mt33⟩, ⟨mr34, mt34⟩, ⟨mr35, mt35⟩, ⟨mr36, mt36⟩, ⟨mr37, mt37⟩, ⟨mr38, mt38⟩, ⟨mr39, mt39⟩, ⟨mr40, mt40⟩, ⟨mr41, mt41⟩, ⟨mr42, mt42⟩, ⟨mr43, mt43⟩⟩ := id lm; exact mt28
  have v4 := mv.2.2
  have hw := wd_le k
  have ea := v4 a (by omega)
  unfold FX12_isIn
  rw [gR_ok t0, r31, aI_n t28 (by omega) (by decide), ea.1, if_eq (by omega) (by omega)]
  by_cases c : l a = k
  · rw [if_pos c, f_wordsOf (by omega), cl_ok, ie_1 (by omega), decide_eq_true c]
    by_cases c1 : wd k = 1
    · rw [if_pos c1, bz_1]; rfl
    · have wa := w a (by omega)
      have e2 := v4 (a + 1) (by omega)
      rw [if_neg c1, gR_ok t0, r31, nI_1, aI_n t28 (by omega) (by decide), e2.1]
      unfold BX12_isIn_38
      rcases k13.mp (show wd k = 2 by omega) with rfl | rfl
      · rw [if_pos (by decide), (wa.1 c).2, if_pos (by decide), bz_1]; rfl
      · rw [if_neg (by decide), (wa.2.1 c).2, if_pos (by decide), bz_1]; rfl
  · rw [if_neg c, decide_eq_false c, bz_0]; rfl
/-- the row of locals -/
def Lr (h : Hp) (q : Nat) (l : Nat → Nat) : Prop := ∀ j, j < 16 → hI h (q + 28) j = nI (l j)
theorem Lr.w (v : Lr h q l) {i k : Nat} : Lr (wI h (q + 28) i (nI k)) q (va_up l i k) := by
  intro j hj
  by_cases c : j = i
  · subst c; rw [hI_wI_s, va_s]
  · rw [hI_wI_k c, va_n _ _ c]; exact v j hj
def Fz : Nat → Prop := fun _ => False
def A28o (q : Nat) : Nat → Prop := fun b => b = q + 28
theorem q28w {i : Nat} {y : Int32} : Fq q Fz (A28o q) h (wI h (q + 28) i y) := Fq.wA (A := A28o q) rfl (by omega)
theorem st_79 (t0 : hT h q = some (.inl 11)) (r31 : hR h q 31 = some (q + 28)) (t28 : hT h (q + 28) = some (.inr (.int, 18))) (v : Lr h q l) {a k : Nat} (hk : k < 5) (ha : a + wd k ≤ 16) : Ok (BX12_store_79 (some q) (nI a) (nI k) (nI (a + wd k - 1)) h) (fun _ g => Lr g q (wrl l a k) ∧ Fq q Fz (A28o q) h g) := by
  have hw := wd_le k
  unfold BX12_store_79
  rw [gR_ok t0, r31, sI_n t28 (by omega) (by decide), if_lt (by omega) (by omega)]
  unfold wrl
  by_cases c : wd k = 2
  · rw [if_pos c, if_pos (by omega), gR_ok (show hT (wI h (q + 28) a (nI k)) q = _ from t0), show hR (wI h (q + 28) a (nI k)) q 31 = _ from r31]
    have e : a + wd k - 1 = a + 1 := by omega
    rw [e]
    rcases k13.mp c with rfl | rfl
    · rw [if_pos (by decide), sI_n (show hT (wI h (q + 28) a (nI 1)) (q + 28) = _ from t28) (by omega) (by decide)]
      exact ok_some ⟨v.w.w (k := 6), q28w.trans q28w⟩
    · rw [if_neg (by decide), sI_n (show hT (wI h (q + 28) a (nI 3)) (q + 28) = _ from t28) (by omega) (by decide)]
      exact ok_some ⟨v.w.w (k := 7), q28w.trans q28w⟩
  · rw [if_neg c, if_neg (by omega)]
    exact ok_some ⟨v.w, q28w⟩
theorem st_44 (t0 : hT h q = some (.inl 11)) (r31 : hR h q 31 = some (q + 28)) (t28 : hT h (q + 28) = some (.inr (.int, 18))) (v : Lr h q l) (hl : ∀ j, j < 16 → l j < 8) {a k : Nat} (hk : k < 5) (ha : a + wd k ≤ 16) : Ok (BX12_store_44 (some q) (nI a) (nI k) (nI (a + wd k - 1)) h) (fun _ g => Lr g q (wrl (if a + wd k - 1 < 15 ∧ (l (a + wd k - 1) = 1 ∨ l (a + wd k - 1) = 3) then va_up l (a + wd k) 5 else l) a k) ∧ Fq q Fz (A28o q) h g) := by
  have hw := wd_le k
  have n79 := st_79 t0 r31 t28 v hk ha
  unfold BX12_store_44
  rw [nl_15, if_lt (by omega) (by omega)]
  by_cases c : a + wd k - 1 < 15
  · have ve := v (a + wd k - 1) (by omega)
    have hle := hl (a + wd k - 1) (by omega)
    have y70 : a + wd k - 1 < 15 → Ok (BX12_store_70 (some q) (nI a) (nI k) (nI (a + wd k - 1)) h) (fun _ g => Lr g q (wrl (va_up l (a + wd k) 5) a k) ∧ Fq q Fz (A28o q) h g) := by
      intro c
      unfold BX12_store_70
      rw [gR_ok t0, r31, nI_1, show a + wd k - 1 + 1 = a + wd k by omega, sI_n t28 (by omega) (by decide)]
      exact (st_79 (h := wI h (q + 28) (a + wd k) 5) t0 r31 t28 (v.w (k := 5)) hk ha).mono (fun _ g x => ⟨x.1, q28w.trans x.2⟩)
    rw [if_pos c, gR_ok t0, r31, aI_n t28 (by omega) (by decide), ve, ie_1 (by omega)]
    by_cases c1 : l (a + wd k - 1) = 1
    · rw [if_pos c1, if_pos ⟨c, Or.inl c1⟩]; exact y70 c
    · rw [if_neg c1, gR_ok t0, r31, aI_n t28 (by omega) (by decide), ve, nl_3, if_eq (by omega) (by decide)]
      by_cases c3 : l (a + wd k - 1) = 3
      · rw [if_pos c3, if_pos ⟨c, Or.inr c3⟩]; exact y70 c
      · rw [if_neg c3, if_neg (fun z => by omega)]; exact n79
  · rw [if_neg c, if_neg (fun z => c z.1)]; exact n79
theorem st_pt (w : wfS 16 l) {a k : Nat} (hk : k < 5) (ha : a + wd k ≤ 16) {l1 : Nat → Nat} (e1 : ∀ i, l1 i = if i + 1 = a ∧ (l a = 6 ∨ l a = 7) then 5 else l i) {j : Nat} (hj : j < 16) : wrl (if a + wd k - 1 < 15 ∧ (l1 (a + wd k - 1) = 1 ∨ l1 (a + wd k - 1) = 3) then va_up l1 (a + wd k) 5 else l1) a k j = dh (wrl l a k) j := by
  have hw := wd_le k
  have el : l1 (a + wd k - 1) = l (a + wd k - 1) := by rw [e1, if_neg (by omega)]
  rw [dh_st w hk ha hj, wrl_e, el]
  by_cases c1 : j = a
  · rw [if_pos c1, if_pos c1]
  · rw [if_neg c1, if_neg c1]
    by_cases c2 : wd k = 2 ∧ j = a + 1
    · rw [if_pos c2, if_pos c2]
    · rw [if_neg c2, if_neg c2]
      by_cases c4 : j = a + wd k
      · subst c4
        rw [if_neg (show ¬ (a + wd k + 1 = a ∧ (l a = 6 ∨ l a = 7)) by omega)]
        by_cases c5 : l (a + wd k - 1) = 1 ∨ l (a + wd k - 1) = 3
        · rw [if_pos ⟨by omega, c5⟩, va_s, if_pos ⟨rfl, c5⟩]
        · rw [if_neg (fun z => c5 z.2), if_neg (fun z => c5 z.2), e1, if_neg (by omega)]
      · have : (if a + wd k - 1 < 15 ∧ (l (a + wd k - 1) = 1 ∨ l (a + wd k - 1) = 3) then va_up l1 (a + wd k) 5 else l1) j = l1 j := by
          split
          · rw [va_n _ _ c4]
          · rfl
        rw [this, e1]
        by_cases c3 : j + 1 = a ∧ (l a = 6 ∨ l a = 7)
        · rw [if_pos c3, if_pos c3]
        · rw [if_neg c3, if_neg c3, if_neg (fun z => c4 z.1)]
theorem m_store (lm : LM (hT h) (hR h) q) (mv : Mv h q d σ l) (w : wfS 16 l) {a k : Nat} (hk : k < 5) (ha : a + wd k ≤ 16) : Ok (FX12_store (some q) (nI a) (nI k) h) (fun _ g => Mv g q d σ (dh (wrl l a k)) ∧ Fq q F29 (A28o q) h g ∧ hI g q 29 = hI h q 29) := by
  have t0 : hT h q = some (.inl 11) := lm.1
  have r31 : hR h q 31 = some (q + 28) := by obtain ⟨mt0, ⟨mr1, mt1⟩, ⟨mr2, mt2⟩, ⟨mr3, mt3⟩, ⟨mr4, mt4⟩, ⟨mr5, mt5⟩, ⟨mr6, mt6⟩, ⟨mr7, mt7⟩, ⟨mr8, mt8⟩, ⟨mr9, mt9⟩, ⟨mr10, mt10⟩, ⟨mr11, mt11⟩, ⟨mr12, mt12⟩, ⟨mr13, mt13⟩, ⟨mr14, mt14⟩, ⟨mr15, mt15⟩, ⟨mr16, mt16⟩, ⟨mr17, mt17⟩, ⟨mr18, mt18⟩, ⟨mr19, mt19⟩, ⟨mr20, mt20⟩, ⟨mr21, mt21⟩, ⟨mr22, mt22⟩, ⟨mr23, mt23⟩, ⟨mr24, mt24⟩, ⟨mr25, mt25⟩, ⟨mr26, mt26⟩, ⟨mr27, mt27⟩, ⟨mr28, mt28⟩, ⟨mr29, mt29⟩, ⟨mr30, mt30⟩, ⟨mr31, mt31⟩, ⟨mr32, mt32⟩, ⟨mr33, mt33⟩, ⟨mr34, mt34⟩, ⟨mr35, mt35⟩, ⟨mr36, mt36⟩, ⟨mr37, mt37⟩, ⟨mr38, mt38⟩, ⟨mr39, mt39⟩, ⟨mr40, mt40⟩, ⟨mr41, mt41⟩, ⟨mr42, mt42⟩, ⟨mr43, mt43⟩⟩ := id lm; exact mr28
  have t28 : hT h (q + 28) = some (.inr (.int, 18)) := by obtain ⟨mt0, ⟨mr1, mt1⟩, ⟨mr2, mt2⟩, ⟨mr3, mt3⟩, ⟨mr4, mt4⟩, ⟨mr5, mt5⟩, ⟨mr6, mt6⟩, ⟨mr7, mt7⟩, ⟨mr8, mt8⟩, ⟨mr9, mt9⟩, ⟨mr10, mt10⟩, ⟨mr11, mt11⟩, ⟨mr12, mt12⟩, ⟨mr13, mt13⟩, ⟨mr14, mt14⟩, ⟨mr15, mt15⟩, ⟨mr16, mt16⟩, ⟨mr17, mt17⟩, ⟨mr18, mt18⟩, ⟨mr19, mt19⟩, ⟨mr20, mt20⟩, ⟨mr21, mt21⟩, ⟨mr22, mt22⟩, ⟨mr23, mt23⟩, ⟨mr24, mt24⟩, ⟨mr25, mt25⟩, ⟨mr26, mt26⟩, ⟨mr27, mt27⟩, ⟨mr28, mt28⟩, ⟨mr29, mt29⟩, ⟨mr30, mt30⟩, ⟨mr31, mt31⟩, ⟨mr32, mt32⟩, ⟨mr33, mt33⟩, ⟨mr34, mt34⟩, ⟨mr35, mt35⟩, ⟨mr36, mt36⟩, ⟨mr37, mt37⟩, ⟨mr38, mt38⟩, ⟨mr39, mt39⟩, ⟨mr40, mt40⟩, ⟨mr41, mt41⟩, ⟨mr42, mt42⟩, ⟨mr43, mt43⟩⟩ := id lm; exact mt28
  obtain ⟨v1, v3, v4⟩ := id mv
  have hw := wd_le k
  have v : Lr h q l := fun j hj => (v4 j hj).1
  have fin : ∀ g l2, Lr g q l2 → (∀ j, j < 16 → l2 j = dh (wrl l a k) j) → Fq q Fz (A28o q) h g → Mv g q d σ (dh (wrl l a k)) ∧ Fq q F29 (A28o q) h g ∧ hI g q 29 = hI h q 29 := by
    intro g l2 h1 h2 f
    have e29 := f.2.2.2.2.2 29 (fun z => z)
    have e27 := f.2.2.2.2.1 (q + 27) (by omega) (by unfold A28o; omega)
    have lw : ∀ j, j < 16 → wrl l a k j < 8 := by
      intro j hj
      rw [wrl_e]
      by_cases c1 : j = a
      · rw [if_pos c1]; omega
      · rw [if_neg c1]
        by_cases c2 : wd k = 2 ∧ j = a + 1
        · rw [if_pos c2]; exact en_lt k
        · rw [if_neg c2]; exact (v4 j hj).2
    exact ⟨⟨by rw [e29]; exact v1, fun p hp => by rw [e27]; exact v3 p hp, fun j hj => ⟨by rw [h1 j hj, h2 j hj], dh_lt lw hj⟩⟩, f.mono (fun _ z => z.elim) (fun _ z => z), e29⟩
  have y44 : ∀ (h1 : Hp) (l1 : Nat → Nat), hT h1 = hT h → hR h1 = hR h → Lr h1 q l1 → Fq q Fz (A28o q) h h1 → (∀ i, l1 i = if i + 1 = a ∧ (l a = 6 ∨ l a = 7) then 5 else l i) → Ok (BX12_store_44 (some q) (nI a) (nI k) (nI (a + wd k - 1)) h1) (fun _ g => Mv g q d σ (dh (wrl l a k)) ∧ Fq q F29 (A28o q) h g ∧ hI g q 29 = hI h q 29) := by
    intro h1 l1 g1 g2 v1 f1 e1
    refine (st_44 (by rw [g1]; exact t0) (by rw [g2]; exact r31) (by rw [g1]; exact t28) v1 (fun j hj => ?_) hk ha).mono (fun _ g x => fin g _ x.1 (fun j hj => st_pt w hk ha e1 hj) (f1.trans x.2))
    rw [e1]
    have := (v4 j hj).2
    split <;> omega
  unfold FX12_store
  rw [f_wordsOf (by omega), cl_ok, ir_0 (by omega), nI_add, nI_p1 (by omega)]
  have same : ¬ (l a = 6 ∨ l a = 7) ∨ a = 0 → Ok (BX12_store_44 (some q) (nI a) (nI k) (nI (a + wd k - 1)) h) (fun _ g => Mv g q d σ (dh (wrl l a k)) ∧ Fq q F29 (A28o q) h g ∧ hI g q 29 = hI h q 29) := fun z => y44 h l rfl rfl v Fq.refl (fun i => by rw [if_neg (by omega)])
  by_cases c0 : 0 < a
  · have ea := v4 a (by omega)
    have y35 : (l a = 6 ∨ l a = 7) → Ok (BX12_store_35 (some q) (nI a) (nI k) (nI (a + wd k - 1)) h) (fun _ g => Mv g q d σ (dh (wrl l a k)) ∧ Fq q F29 (A28o q) h g ∧ hI g q 29 = hI h q 29) := by
      intro z
      unfold BX12_store_35
      rw [gR_ok t0, r31, nI_p1 c0, sI_n t28 (by omega) (by decide)]
      refine y44 (wI h (q + 28) (a - 1) 5) (va_up l (a - 1) 5) rfl rfl (v.w (k := 5)) q28w (fun i => ?_)
      by_cases e : i = a - 1
      · subst e; rw [va_s, if_pos ⟨by omega, z⟩]
      · rw [va_n _ _ e, if_neg (by omega)]
    rw [if_pos c0, gR_ok t0, r31, aI_n t28 (by omega) (by decide), ea.1, nl_6, if_eq (by omega) (by decide)]
    by_cases c6 : l a = 6
    · rw [if_pos c6]; exact y35 (Or.inl c6)
    · rw [if_neg c6, gR_ok t0, r31, aI_n t28 (by omega) (by decide), ea.1, nl_7, if_eq (by omega) (by decide)]
      by_cases c7 : l a = 7
      · rw [if_pos c7]; exact y35 (Or.inr c7)
      · rw [if_neg c7]; exact same (Or.inl (by omega))
  · rw [if_neg c0]; exact same (Or.inr (by omega))
/-- the model's table of a method's shapes -/
def Mt (h : Hp) (q m : Nat) (t : Tab) : Prop := ∀ i, i < 60 → hI h (q + 22) (60 * m + i) = b2i (t.1 i).isSome ∧ ∀ e, t.1 i = some e → e ≤ 12 ∧ hI h (q + 24) (60 * m + i) = nI e ∧ (∀ k, k < e → hI h (q + 25) (12 * (60 * m + i) + k) = nI (t.2.1 i k) ∧ t.2.1 i k < 8) ∧ ∀ j, j < 16 → hI h (q + 26) (16 * (60 * m + i) + j) = nI (t.2.2.1 i j) ∧ t.2.2.1 i j < 8
def Mw (h : Hp) (q : Nat) (t : Tab) : Prop := ∀ i, i < 60 → hI h (q + 23) i = b2i (t.2.2.2 i)
theorem Mt.fq {F A : Nat → Prop} {m : Nat} {t : Tab} {g : Hp} (v : Mt h q m t) (f : Fq q F A h g) (hA : ∀ b, 22 ≤ b → b ≤ 26 → b ≠ 23 → ¬ A (q + b)) : Mt g q m t := by
  unfold Mt at v ⊢
  rw [f.2.2.2.2.1 _ (by omega) (hA 22 (by omega) (by omega) (by omega)), f.2.2.2.2.1 _ (by omega) (hA 24 (by omega) (by omega) (by omega)), f.2.2.2.2.1 _ (by omega) (hA 25 (by omega) (by omega) (by omega)), f.2.2.2.2.1 _ (by omega) (hA 26 (by omega) (by omega) (by omega))]
  exact v
theorem Mw.fq {F A : Nat → Prop} {t : Tab} {g : Hp} (v : Mw h q t) (f : Fq q F A h g) (hA : ¬ A (q + 23)) : Mw g q t := by
  unfold Mw at v ⊢
  rw [f.2.2.2.2.1 _ (by omega) hA]
  exact v
theorem load57 (lm : LM (hT h) (hR h) q) {r : Nat} (hr : r < 480) : BX12_load_57 100000 (some q) (nI r) 0 h = some ((), wIr h (q + 28) (ic (hI h (q + 26)) (hI h (q + 28)) (16 * r) 0 16)) := by
  obtain ⟨mt0, ⟨mr1, mt1⟩, ⟨mr2, mt2⟩, ⟨mr3, mt3⟩, ⟨mr4, mt4⟩, ⟨mr5, mt5⟩, ⟨mr6, mt6⟩, ⟨mr7, mt7⟩, ⟨mr8, mt8⟩, ⟨mr9, mt9⟩, ⟨mr10, mt10⟩, ⟨mr11, mt11⟩, ⟨mr12, mt12⟩, ⟨mr13, mt13⟩, ⟨mr14, mt14⟩, ⟨mr15, mt15⟩, ⟨mr16, mt16⟩, ⟨mr17, mt17⟩, ⟨mr18, mt18⟩, ⟨mr19, mt19⟩, ⟨mr20, mt20⟩, ⟨mr21, mt21⟩, ⟨mr22, mt22⟩, ⟨mr23, mt23⟩, ⟨mr24, mt24⟩, ⟨mr25, mt25⟩, ⟨mr26, mt26⟩, ⟨mr27, mt27⟩, ⟨mr28, mt28⟩, ⟨mr29, mt29⟩, ⟨mr30, mt30⟩, ⟨mr31, mt31⟩, ⟨mr32, mt32⟩, ⟨mr33, mt33⟩, ⟨mr34, mt34⟩, ⟨mr35, mt35⟩, ⟨mr36, mt36⟩, ⟨mr37, mt37⟩, ⟨mr38, mt38⟩, ⟨mr39, mt39⟩, ⟨mr40, mt40⟩, ⟨mr41, mt41⟩, ⟨mr42, mt42⟩, ⟨mr43, mt43⟩⟩ := id lm
  refine cpl (fun n k h => BX12_load_57 n (some q) (nI r) k h) (fun g => some ((), g)) (16 * r) 0 16 (hI h (q + 26)) (by omega) (fun n k g hk e1 e2 e3 => ?_) (fun n g e1 e2 e3 => ?_)
  · show BX12_load_57 (n + 1) _ _ _ _ = _
    rw [BX12_load_57]
    simp (disch := first | assumption | omega | decide | (simp only [hT_wI, hT_wL, hT_wR, hT_wLr, e1, e2]; assumption)) only [↓reduceIte, Nat.reduceEqDiff, Nat.reduceLT, Nat.reduceLeDiff, Nat.reduceAdd, Nat.reduceSub, Nat.reduceMul, or_self, or_true, true_or, or_false, false_or, and_self, and_true, true_and, and_false, false_and, if_true, if_false, ↓gI_ok, ↓gL_ok, ↓gR_ok, ↓pI_ok, ↓pL_ok, ↓pR_ok, ↓rcv_ok, ↓nz_ok, ↓nz_no, ↓aI_n, ↓aL_n, ↓aR_n, ↓sI_n, ↓sL_n, ↓sR_n, ↓cl_ok, ↓bz_0, ↓bz_1, hT_wI, hT_wL, hT_wR, hT_wLr, hR_wI, hR_wL, hR_wLr, hI_wL, hI_wR, hI_wLr, hL_wI, hL_wR, nI_add, nI_1, pk_mul, if_lt, if_eq, if_eqL, ie_0, ie_1, il_0, il_1, ir_0, ir_1, ie_m, il_m, bz_b, ib_0, i_10, i_01, i_0m, i_1m, i_m0, i_ml0, b2i_if, bz_i, nI_p1, nl_2, nl_3, nl_4, nl_5, nl_6, nl_7, nl_8, nl_9, nl_10, nl_11, nl_12, nl_13, nl_14, nl_15, nl_16, nl_17, nl_18, nl_19, nl_20, nl_21, nl_22, nl_23, nl_24, nl_25, nl_26, nl_27, nl_28, nl_29, nl_30, nl_31, nl_32, nl_33, nl_34, nl_35, nl_36, nl_37, nl_38, nl_39, nl_40, nl_41, nl_42, nl_43, nl_44, nl_45, nl_46, nl_47, nl_48, nl_49, nl_50, nl_51, nl_52, nl_53, nl_54, nl_55, nl_56, nl_57, nl_58, nl_59, nl_60, nl_61, nl_62, nl_63, nl_64, nl_100, nl_480, nl_1020, nl_3000, e1, e2, mr28, mr26, hk]
    rw [e3 _ (by omega), Nat.zero_add]
  · show BX12_load_57 (n + 1) _ _ _ _ = _
    rw [BX12_load_57]
    rw [if_neg (by decide)]
theorem load20 (lm : LM (hT h) (hR h) q) {r e : Nat} (hr : r < 480) (he : e ≤ 12) (h29 : hI h q 29 = nI e) : BX12_load_20 100000 (some q) (nI r) 0 h = BX12_load_57 100000 (some q) (nI r) 0 (wIr h (q + 27) (ic (hI h (q + 25)) (hI h (q + 27)) (12 * r) 0 e)) := by
  obtain ⟨mt0, ⟨mr1, mt1⟩, ⟨mr2, mt2⟩, ⟨mr3, mt3⟩, ⟨mr4, mt4⟩, ⟨mr5, mt5⟩, ⟨mr6, mt6⟩, ⟨mr7, mt7⟩, ⟨mr8, mt8⟩, ⟨mr9, mt9⟩, ⟨mr10, mt10⟩, ⟨mr11, mt11⟩, ⟨mr12, mt12⟩, ⟨mr13, mt13⟩, ⟨mr14, mt14⟩, ⟨mr15, mt15⟩, ⟨mr16, mt16⟩, ⟨mr17, mt17⟩, ⟨mr18, mt18⟩, ⟨mr19, mt19⟩, ⟨mr20, mt20⟩, ⟨mr21, mt21⟩, ⟨mr22, mt22⟩, ⟨mr23, mt23⟩, ⟨mr24, mt24⟩, ⟨mr25, mt25⟩, ⟨mr26, mt26⟩, ⟨mr27, mt27⟩, ⟨mr28, mt28⟩, ⟨mr29, mt29⟩, ⟨mr30, mt30⟩, ⟨mr31, mt31⟩, ⟨mr32, mt32⟩, ⟨mr33, mt33⟩, ⟨mr34, mt34⟩, ⟨mr35, mt35⟩, ⟨mr36, mt36⟩, ⟨mr37, mt37⟩, ⟨mr38, mt38⟩, ⟨mr39, mt39⟩, ⟨mr40, mt40⟩, ⟨mr41, mt41⟩, ⟨mr42, mt42⟩, ⟨mr43, mt43⟩⟩ := id lm
  refine cpl (fun n k h => BX12_load_20 n (some q) (nI r) k h) (fun g => BX12_load_57 100000 (some q) (nI r) 0 g) (12 * r) 0 e (hI h (q + 25)) (by omega) (fun n k g hk e1 e2 e3 => ?_) (fun n g e1 e2 e3 => ?_)
  · show BX12_load_20 (n + 1) _ _ _ _ = _
    rw [BX12_load_20]
    have e29 : hI g q 29 = nI e := by rw [e3 _ (by omega)]; exact h29
    simp (disch := first | assumption | omega | decide | (simp only [hT_wI, hT_wL, hT_wR, hT_wLr, e1, e2]; assumption)) only [↓reduceIte, Nat.reduceEqDiff, Nat.reduceLT, Nat.reduceLeDiff, Nat.reduceAdd, Nat.reduceSub, Nat.reduceMul, or_self, or_true, true_or, or_false, false_or, and_self, and_true, true_and, and_false, false_and, if_true, if_false, ↓gI_ok, ↓gL_ok, ↓gR_ok, ↓pI_ok, ↓pL_ok, ↓pR_ok, ↓rcv_ok, ↓nz_ok, ↓nz_no, ↓aI_n, ↓aL_n, ↓aR_n, ↓sI_n, ↓sL_n, ↓sR_n, ↓cl_ok, ↓bz_0, ↓bz_1, hT_wI, hT_wL, hT_wR, hT_wLr, hR_wI, hR_wL, hR_wLr, hI_wL, hI_wR, hI_wLr, hL_wI, hL_wR, nI_add, nI_1, pk_mul, if_lt, if_eq, if_eqL, ie_0, ie_1, il_0, il_1, ir_0, ir_1, ie_m, il_m, bz_b, ib_0, i_10, i_01, i_0m, i_1m, i_m0, i_ml0, b2i_if, bz_i, nI_p1, nl_2, nl_3, nl_4, nl_5, nl_6, nl_7, nl_8, nl_9, nl_10, nl_11, nl_12, nl_13, nl_14, nl_15, nl_16, nl_17, nl_18, nl_19, nl_20, nl_21, nl_22, nl_23, nl_24, nl_25, nl_26, nl_27, nl_28, nl_29, nl_30, nl_31, nl_32, nl_33, nl_34, nl_35, nl_36, nl_37, nl_38, nl_39, nl_40, nl_41, nl_42, nl_43, nl_44, nl_45, nl_46, nl_47, nl_48, nl_49, nl_50, nl_51, nl_52, nl_53, nl_54, nl_55, nl_56, nl_57, nl_58, nl_59, nl_60, nl_61, nl_62, nl_63, nl_64, nl_100, nl_480, nl_1020, nl_3000, e1, e2, mr25, mr27, hk, e29]
    rw [e3 _ (by omega), Nat.zero_add]
  · show BX12_load_20 (n + 1) _ _ _ _ = _
    rw [BX12_load_20]
    have e29 : hI g q 29 = nI e := by rw [e3 _ (by omega)]; exact h29
    have t0 : hT g q = some (.inl 11) := by rw [e1]; exact mt0
    rw [gI_ok t0, e29, if_lt (by omega) (by omega), if_neg (by omega)]
theorem m_load (lm : LM (hT h) (hR h) q) {m i e : Nat} {t : Tab} (mt : Mt h q m t) (hm : m < 8) (hi : i < 60) (he : t.1 i = some e) : Ok (FX12_load (some q) (nI m) (nI i) h) (fun _ g => Mv g q e (t.2.1 i) (t.2.2.1 i) ∧ Fq q F29 (A28 q) h g) := by
  obtain ⟨x1, x2⟩ := mt i hi
  obtain ⟨y1, y2, y3, y4⟩ := x2 e he
  have t0 : hT h q = some (.inl 11) := lm.1
  have r26 : hR h q 26 = some (q + 24) := by obtain ⟨mt0, ⟨mr1, mt1⟩, ⟨mr2, mt2⟩, ⟨mr3, mt3⟩, ⟨mr4, mt4⟩, ⟨mr5, mt5⟩, ⟨mr6, mt6⟩, ⟨mr7, mt7⟩, ⟨mr8, mt8⟩, ⟨mr9, mt9⟩, ⟨mr10, mt10⟩, ⟨mr11, mt11⟩, ⟨mr12, mt12⟩, ⟨mr13, mt13⟩, ⟨mr14, mt14⟩, ⟨mr15, mt15⟩, ⟨mr16, mt16⟩, ⟨mr17, mt17⟩, ⟨mr18, mt18⟩, ⟨mr19, mt19⟩, ⟨mr20, mt20⟩, ⟨mr21, mt21⟩, ⟨mr22, mt22⟩, ⟨mr23, mt23⟩, ⟨mr24, mt24⟩, ⟨mr25, mt25⟩, ⟨mr26, mt26⟩, ⟨mr27, mt27⟩, ⟨mr28, mt28⟩, ⟨mr29, mt29⟩, ⟨mr30, mt30⟩, ⟨mr31, mt31⟩, ⟨mr32, mt32⟩, ⟨mr33, mt33⟩, ⟨mr34, mt34⟩, ⟨mr35, mt35⟩, ⟨mr36, mt36⟩, ⟨mr37, mt37⟩, ⟨mr38, mt38⟩, ⟨mr39, mt39⟩, ⟨mr40, mt40⟩, ⟨mr41, mt41⟩, ⟨mr42, mt42⟩, ⟨mr43, mt43⟩⟩ := id lm; exact mr24
  have t24 : hT h (q + 24) = some (.inr (.int, 480)) := by obtain ⟨mt0, ⟨mr1, mt1⟩, ⟨mr2, mt2⟩, ⟨mr3, mt3⟩, ⟨mr4, mt4⟩, ⟨mr5, mt5⟩, ⟨mr6, mt6⟩, ⟨mr7, mt7⟩, ⟨mr8, mt8⟩, ⟨mr9, mt9⟩, ⟨mr10, mt10⟩, ⟨mr11, mt11⟩, ⟨mr12, mt12⟩, ⟨mr13, mt13⟩, ⟨mr14, mt14⟩, ⟨mr15, mt15⟩, ⟨mr16, mt16⟩, ⟨mr17, mt17⟩, ⟨mr18, mt18⟩, ⟨mr19, mt19⟩, ⟨mr20, mt20⟩, ⟨mr21, mt21⟩, ⟨mr22, mt22⟩, ⟨mr23, mt23⟩, ⟨mr24, mt24⟩, ⟨mr25, mt25⟩, ⟨mr26, mt26⟩, ⟨mr27, mt27⟩, ⟨mr28, mt28⟩, ⟨mr29, mt29⟩, ⟨mr30, mt30⟩, ⟨mr31, mt31⟩, ⟨mr32, mt32⟩, ⟨mr33, mt33⟩, ⟨mr34, mt34⟩, ⟨mr35, mt35⟩, ⟨mr36, mt36⟩, ⟨mr37, mt37⟩, ⟨mr38, mt38⟩, ⟨mr39, mt39⟩, ⟨mr40, mt40⟩, ⟨mr41, mt41⟩, ⟨mr42, mt42⟩, ⟨mr43, mt43⟩⟩ := id lm; exact mt24
  unfold FX12_load
  rw [gR_ok t0, r26, nl_60, pk_mul, nI_add, aI_n t24 (by omega) (by decide), y2, pI_ok t0, load20 (h := wI h q 29 (nI e)) lm (by omega) y1 hI_wI_s, load57 (h := wIr (wI h q 29 (nI e)) (q + 27) _) lm (by omega)]
  refine ok_some ⟨⟨⟨?_, by omega⟩, fun p hp => ?_, fun j hj => ?_⟩, (q29w.trans (Fq.wIr (A := A28 q) (Or.inl rfl) (by omega))).trans (Fq.wIr (A := A28 q) (Or.inr rfl) (by omega))⟩
  · rw [hI_wIr_a (by omega), hI_wIr_a (by omega), hI_wI_s]
  · rw [hI_wIr_a (by omega), hI_wIr_s, hI_wI_a (by omega)]
    have := ic_in (s := hI h (q + 25)) (d := hI (wI h q 29 (nI e)) (q + 27)) (sp := 12 * (60 * m + i)) (dp := 0) (n := e) hp
    rw [Nat.zero_add] at this
    rw [this]
    exact y3 p hp
  · rw [hI_wIr_s, hI_wIr_a (by omega), hI_wI_a (by omega)]
    have := ic_in (s := hI h (q + 26)) (d := hI (wIr (wI h q 29 (nI e)) (q + 27) (ic (hI (wI h q 29 (nI e)) (q + 25)) (hI (wI h q 29 (nI e)) (q + 27)) (12 * (60 * m + i)) 0 e)) (q + 28)) (sp := 16 * (60 * m + i)) (dp := 0) (n := 16) hj
    rw [Nat.zero_add] at this
    rw [this]
    exact y4 j hj
end MF
