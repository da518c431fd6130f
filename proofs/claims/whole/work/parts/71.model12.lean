/-! the model: judge -/
section MK
variable {q m : Nat} {P : Pg}
def Fg (q m : Nat) (h g : Hp) : Prop := Fq q FJ (fun b => AJm q b ∨ b = q + 14) h g ∧ Fo q m h g ∧ ∀ x, x ≠ m → hI g (q + 14) x = hI h (q + 14) x
theorem Fg.trans {h g k : Hp} (a : Fg q m h g) (b : Fg q m g k) : Fg q m h k := ⟨a.1.trans b.1, a.2.1.trans b.2.1, fun x hx => (b.2.2 x hx).trans (a.2.2 x hx)⟩
theorem Fg.of {h g : Hp} (f : Fj q m h g) : Fg q m h g := ⟨f.1.mono (fun _ z => z) (fun _ z => Or.inl z), f.2, fun x _ => by rw [f.1.2.2.2.2.1 _ (by omega) (by unfold AJm; omega)]⟩
theorem Fg.flag {h : Hp} {y : Int32} : Fg q m h (wI h (q + 14) m y) := by
  have f : Fq q FJ (fun b => b = q + 14) h (wI h (q + 14) m y) := Fq.wA (A := fun b => b = q + 14) rfl (by omega)
  exact ⟨f.mono (fun _ z => z) (fun _ z => Or.inr z), Fo.fq f (fun b h1 h2 h3 => by (try dsimp only); omega), fun x hx => hI_wI_k hx⟩
theorem Fj.good {h g : Hp} (f : Fj q m h g) : hI g (q + 14) = hI h (q + 14) := f.1.2.2.2.2.1 _ (by omega) (by unfold AJm; omega)
def JdQ (q : Nat) (P : Pg) (m : Nat) (h : Hp) (R : Nat × Nat × Tab) : Int32 → Hp → Prop := fun r g => JS g q P m R.2.2 ∧ Fg q m h g ∧ r = (if R.1 = 0 then 0 else -10 - nI R.1) ∧ hI g (q + 14) m = b2i (decide (R.1 = 0)) ∧ (R.1 = 0 → hI g q 32 = hI h q 32 ∧ hI g q 33 = hI h q 33) ∧ (¬ R.1 = 0 → hI g q 32 = nI m ∧ hI g q 33 = nI R.2.1)
theorem least_of {t : Tab} {k : Nat} (hk : k < 60) (h1 : t.2.2.2 k = true) (h2 : ∀ i, i < k → t.2.2.2 i = false) : t_least t = some k := by
  unfold t_least
  rw [List.find?_range_eq_some]
  exact ⟨h1, List.mem_range.mpr hk, fun j hj => by rw [h2 j hj]; rfl⟩
theorem least_no {t : Tab} (h2 : ∀ i, i < 60 → t.2.2.2 i = false) : t_least t = none := by
  unfold t_least
  rw [List.find?_eq_none]
  intro x hx
  rw [h2 x (List.mem_range.mp hx)]
  decide
theorem wr_nz : ∀ f, f < 9 → ¬ ((-10 : Int32) - nI f = 0) := by
  intro f hf
  rcases (show f = 0 ∨ f = 1 ∨ f = 2 ∨ f = 3 ∨ f = 4 ∨ f = 5 ∨ f = 6 ∨ f = 7 ∨ f = 8 by omega) with rfl | rfl | rfl | rfl | rfl | rfl | rfl | rfl | rfl <;> decide
theorem j_step_lt (P : Pg) (m i : Nat) (t : Tab) : (j_step P m i t).1 < 9 := by
  have := j_own_lt P m i (t_sh t i)
  unfold j_step
  split
  · split
    · show 0 < 9; omega
    · show 6 < 9; omega
  · exact this
theorem jd_loop (pw : PW P) (hm : m < p_nm P) : ∀ (n k N : Nat) (h : Hp) (t : Tab), t_ms t ≤ N → t_ms t * 61 + (60 - k) < n → k ≤ p_no P m → JS h q P m t → TI P m t → (∀ i, i < k → t.2.2.2 i = false) → hI h (q + 14) m = 0 → Ok (BX12_judge_154 n (some q) (nI m) (nI k) h) (JdQ q P m h (j_run P m N t)) := by
  have wm := pw.2.2.2.1 m hm
  have b4 := wm.2.2.2.1
  have hm8 : m < 8 := by have := pw.1; omega
  intro n
  induction n with
  | zero => intro k N h t h0 h1; omega
  | succ n ih =>
    intro k N h t h0 h1 h2 js ti hb h14
    have lm := js.1
    have t0 : hT h q = some (.inl 11) := lm.1
    have r5 : hR h q 5 = some (q + 5) := by obtain ⟨mt0, ⟨mr1, mt1⟩, ⟨mr2, mt2⟩, ⟨mr3, mt3⟩, ⟨mr4, mt4⟩, ⟨mr5, mt5⟩, ⟨mr6, mt6⟩, ⟨mr7, mt7⟩, ⟨mr8, mt8⟩, ⟨mr9, mt9⟩, ⟨mr10, mt10⟩, ⟨mr11, mt11⟩, ⟨mr12, mt12⟩, ⟨mr13, mt13⟩, ⟨mr14, mt14⟩, ⟨mr15, mt15⟩, ⟨mr16, mt16⟩, ⟨mr17, mt17⟩, ⟨mr18, mt18⟩, ⟨mr19, mt19⟩, ⟨mr20, mt20⟩, ⟨mr21, mt21⟩, ⟨mr22, mt22⟩, ⟨mr23, mt23⟩, ⟨mr24, mt24⟩, ⟨mr25, mt25⟩, ⟨mr26, mt26⟩, ⟨mr27, mt27⟩, ⟨mr28, mt28⟩, ⟨mr29, mt29⟩, ⟨mr30, mt30⟩, ⟨mr31, mt31⟩, ⟨mr32, mt32⟩, ⟨mr33, mt33⟩, ⟨mr34, mt34⟩, ⟨mr35, mt35⟩, ⟨mr36, mt36⟩, ⟨mr37, mt37⟩, ⟨mr38, mt38⟩, ⟨mr39, mt39⟩, ⟨mr40, mt40⟩, ⟨mr41, mt41⟩, ⟨mr42, mt42⟩, ⟨mr43, mt43⟩⟩ := id lm; exact mr5
    have t5 : hT h (q + 5) = some (.inr (.int, 8)) := by obtain ⟨mt0, ⟨mr1, mt1⟩, ⟨mr2, mt2⟩, ⟨mr3, mt3⟩, ⟨mr4, mt4⟩, ⟨mr5, mt5⟩, ⟨mr6, mt6⟩, ⟨mr7, mt7⟩, ⟨mr8, mt8⟩, ⟨mr9, mt9⟩, ⟨mr10, mt10⟩, ⟨mr11, mt11⟩, ⟨mr12, mt12⟩, ⟨mr13, mt13⟩, ⟨mr14, mt14⟩, ⟨mr15, mt15⟩, ⟨mr16, mt16⟩, ⟨mr17, mt17⟩, ⟨mr18, mt18⟩, ⟨mr19, mt19⟩, ⟨mr20, mt20⟩, ⟨mr21, mt21⟩, ⟨mr22, mt22⟩, ⟨mr23, mt23⟩, ⟨mr24, mt24⟩, ⟨mr25, mt25⟩, ⟨mr26, mt26⟩, ⟨mr27, mt27⟩, ⟨mr28, mt28⟩, ⟨mr29, mt29⟩, ⟨mr30, mt30⟩, ⟨mr31, mt31⟩, ⟨mr32, mt32⟩, ⟨mr33, mt33⟩, ⟨mr34, mt34⟩, ⟨mr35, mt35⟩, ⟨mr36, mt36⟩, ⟨mr37, mt37⟩, ⟨mr38, mt38⟩, ⟨mr39, mt39⟩, ⟨mr40, mt40⟩, ⟨mr41, mt41⟩, ⟨mr42, mt42⟩, ⟨mr43, mt43⟩⟩ := id lm; exact mt5
    have r25 : hR h q 25 = some (q + 23) := by obtain ⟨mt0, ⟨mr1, mt1⟩, ⟨mr2, mt2⟩, ⟨mr3, mt3⟩, ⟨mr4, mt4⟩, ⟨mr5, mt5⟩, ⟨mr6, mt6⟩, ⟨mr7, mt7⟩, ⟨mr8, mt8⟩, ⟨mr9, mt9⟩, ⟨mr10, mt10⟩, ⟨mr11, mt11⟩, ⟨mr12, mt12⟩, ⟨mr13, mt13⟩, ⟨mr14, mt14⟩, ⟨mr15, mt15⟩, ⟨mr16, mt16⟩, ⟨mr17, mt17⟩, ⟨mr18, mt18⟩, ⟨mr19, mt19⟩, ⟨mr20, mt20⟩, ⟨mr21, mt21⟩, ⟨mr22, mt22⟩, ⟨mr23, mt23⟩, ⟨mr24, mt24⟩, ⟨mr25, mt25⟩, ⟨mr26, mt26⟩, ⟨mr27, mt27⟩, ⟨mr28, mt28⟩, ⟨mr29, mt29⟩, ⟨mr30, mt30⟩, ⟨mr31, mt31⟩, ⟨mr32, mt32⟩, ⟨mr33, mt33⟩, ⟨mr34, mt34⟩, ⟨mr35, mt35⟩, ⟨mr36, mt36⟩, ⟨mr37, mt37⟩, ⟨mr38, mt38⟩, ⟨mr39, mt39⟩, ⟨mr40, mt40⟩, ⟨mr41, mt41⟩, ⟨mr42, mt42⟩, ⟨mr43, mt43⟩⟩ := id lm; exact mr23
    have t23 : hT h (q + 23) = some (.inr (.boolean, 60)) := by obtain ⟨mt0, ⟨mr1, mt1⟩, ⟨mr2, mt2⟩, ⟨mr3, mt3⟩, ⟨mr4, mt4⟩, ⟨mr5, mt5⟩, ⟨mr6, mt6⟩, ⟨mr7, mt7⟩, ⟨mr8, mt8⟩, ⟨mr9, mt9⟩, ⟨mr10, mt10⟩, ⟨mr11, mt11⟩, ⟨mr12, mt12⟩, ⟨mr13, mt13⟩, ⟨mr14, mt14⟩, ⟨mr15, mt15⟩, ⟨mr16, mt16⟩, ⟨mr17, mt17⟩, ⟨mr18, mt18⟩, ⟨mr19, mt19⟩, ⟨mr20, mt20⟩, ⟨mr21, mt21⟩, ⟨mr22, mt22⟩, ⟨mr23, mt23⟩, ⟨mr24, mt24⟩, ⟨mr25, mt25⟩, ⟨mr26, mt26⟩, ⟨mr27, mt27⟩, ⟨mr28, mt28⟩, ⟨mr29, mt29⟩, ⟨mr30, mt30⟩, ⟨mr31, mt31⟩, ⟨mr32, mt32⟩, ⟨mr33, mt33⟩, ⟨mr34, mt34⟩, ⟨mr35, mt35⟩, ⟨mr36, mt36⟩, ⟨mr37, mt37⟩, ⟨mr38, mt38⟩, ⟨mr39, mt39⟩, ⟨mr40, mt40⟩, ⟨mr41, mt41⟩, ⟨mr42, mt42⟩, ⟨mr43, mt43⟩⟩ := id lm; exact mt23
    have r14 : hR h q 14 = some (q + 14) := by obtain ⟨mt0, ⟨mr1, mt1⟩, ⟨mr2, mt2⟩, ⟨mr3, mt3⟩, ⟨mr4, mt4⟩, ⟨mr5, mt5⟩, ⟨mr6, mt6⟩, ⟨mr7, mt7⟩, ⟨mr8, mt8⟩, ⟨mr9, mt9⟩, ⟨mr10, mt10⟩, ⟨mr11, mt11⟩, ⟨mr12, mt12⟩, ⟨mr13, mt13⟩, ⟨mr14, mt14⟩, ⟨mr15, mt15⟩, ⟨mr16, mt16⟩, ⟨mr17, mt17⟩, ⟨mr18, mt18⟩, ⟨mr19, mt19⟩, ⟨mr20, mt20⟩, ⟨mr21, mt21⟩, ⟨mr22, mt22⟩, ⟨mr23, mt23⟩, ⟨mr24, mt24⟩, ⟨mr25, mt25⟩, ⟨mr26, mt26⟩, ⟨mr27, mt27⟩, ⟨mr28, mt28⟩, ⟨mr29, mt29⟩, ⟨mr30, mt30⟩, ⟨mr31, mt31⟩, ⟨mr32, mt32⟩, ⟨mr33, mt33⟩, ⟨mr34, mt34⟩, ⟨mr35, mt35⟩, ⟨mr36, mt36⟩, ⟨mr37, mt37⟩, ⟨mr38, mt38⟩, ⟨mr39, mt39⟩, ⟨mr40, mt40⟩, ⟨mr41, mt41⟩, ⟨mr42, mt42⟩, ⟨mr43, mt43⟩⟩ := id lm; exact mr14
    have t14 : hT h (q + 14) = some (.inr (.boolean, 8)) := by obtain ⟨mt0, ⟨mr1, mt1⟩, ⟨mr2, mt2⟩, ⟨mr3, mt3⟩, ⟨mr4, mt4⟩, ⟨mr5, mt5⟩, ⟨mr6, mt6⟩, ⟨mr7, mt7⟩, ⟨mr8, mt8⟩, ⟨mr9, mt9⟩, ⟨mr10, mt10⟩, ⟨mr11, mt11⟩, ⟨mr12, mt12⟩, ⟨mr13, mt13⟩, ⟨mr14, mt14⟩, ⟨mr15, mt15⟩, ⟨mr16, mt16⟩, ⟨mr17, mt17⟩, ⟨mr18, mt18⟩, ⟨mr19, mt19⟩, ⟨mr20, mt20⟩, ⟨mr21, mt21⟩, ⟨mr22, mt22⟩, ⟨mr23, mt23⟩, ⟨mr24, mt24⟩, ⟨mr25, mt25⟩, ⟨mr26, mt26⟩, ⟨mr27, mt27⟩, ⟨mr28, mt28⟩, ⟨mr29, mt29⟩, ⟨mr30, mt30⟩, ⟨mr31, mt31⟩, ⟨mr32, mt32⟩, ⟨mr33, mt33⟩, ⟨mr34, mt34⟩, ⟨mr35, mt35⟩, ⟨mr36, mt36⟩, ⟨mr37, mt37⟩, ⟨mr38, mt38⟩, ⟨mr39, mt39⟩, ⟨mr40, mt40⟩, ⟨mr41, mt41⟩, ⟨mr42, mt42⟩, ⟨mr43, mt43⟩⟩ := id lm; exact mt14
    have e5 := (js.2.1.2.1 m hm).1.2.2.2.1
    unfold BX12_judge_154
    rw [gR_ok t0, r5, aI_n t5 hm8 (by decide), e5, if_lt (by omega) (by omega)]
    by_cases c : k < p_no P m
    · have ew := js.2.2.2.1 k (by omega)
      rw [if_pos c, gR_ok t0, r25, aI_n t23 (by omega) (by decide), ew, b2i_if]
      cases hd : t.2.2.2 k with
      | false =>
        rw [if_neg (by decide), nI_1]
        exact ih (k + 1) N h t h0 (by omega) (by omega) js ti (fun i hi => by
          by_cases z : i = k
          · subst z; exact hd
          · exact hb i (by omega)) h14
      | true =>
        have hl : t_least t = some k := least_of (by omega) hd hb
        obtain ⟨-, e, he⟩ := ti k hd
        have hms := ms_step (P := P) (m := m) hl
        obtain ⟨N', rfl⟩ : ∃ N', N = N' + 1 := ⟨N - 1, by omega⟩
        rw [if_pos rfl, gR_ok t0, r25, sZ_n t23 (by omega) (by decide) (Or.inl rfl)]
        have f1 : Fq q Fz (fun b => b = q + 23) h (wI h (q + 23) k 0) := Fq.wA (A := fun b => b = q + 23) rfl (by omega)
        have js1 : JS (wI h (q + 23) k 0) q P m (t_und t k) := by
          refine ⟨js.1.fq f1, js.2.1.fq f1 (fun b h1 h2 => by (try dsimp only); omega) ⟨fun z => z, fun z => z, fun z => z⟩, ?_, ?_, js.2.2.2.2⟩
          · exact js.2.2.1.fq f1 (fun b h1 h2 h3 => by (try dsimp only); omega)
          · intro j hj
            unfold t_und
            try dsimp only
            by_cases z : j = k
            · subst z; rw [hI_wI_s, va_s]; rfl
            · rw [hI_wI_k z, va_n _ _ z]; exact js.2.2.2.1 j hj
        have k1 : Fj q m h (wI h (q + 23) k 0) := Fj.of f1 (fun k z => z.elim) (fun b z => Or.inl z)
        rw [rcv_ok js1.1.1]
        refine ok_cl (m_done js1 pw hm c he) (fun r g x => ?_)
        obtain ⟨x1, x2, x3, x4, x5⟩ := x
        have k2 := k1.trans x2
        have e14 : hI g (q + 14) m = 0 := by rw [k2.good]; exact h14
        have u32 : hI (wI h (q + 23) k 0) q 32 = hI h q 32 := by rw [hI_wI_a (by omega)]
        have u33 : hI (wI h (q + 23) k 0) q 33 = hI h q 33 := by rw [hI_wI_a (by omega)]
        rw [j_run, hl]
        try dsimp only
        by_cases z : (j_step P m k t).1 = 0
        · rw [if_pos z] at x3
          rw [if_pos z, x3, if_pos rfl, nI_c0]
          refine (ih 0 N' g (j_step P m k t).2.2 (by omega) (by omega) (by omega) x1 (ti_step pw hm ti k z) (fun i hi => by omega) e14).mono (fun r g2 y => ?_)
          obtain ⟨y1, y2, y3, y4, y5, y6⟩ := y
          have x4 := x4 z
          exact ⟨y1, (Fg.of k2).trans y2, y3, y4, fun u => by rw [(y5 u).1, (y5 u).2, x4.1, x4.2, u32, u33]; exact ⟨rfl, rfl⟩, y6⟩
        · rw [if_neg z] at x3
          have nz : ¬ r = 0 := by
            rw [x3]
            exact wr_nz _ (j_step_lt P m k t)
          rw [if_neg z, if_neg nz]
          exact ok_some ⟨x1, Fg.of k2, by rw [x3, if_neg z], by rw [e14, decide_eq_false z]; rfl, fun u => absurd u z, fun u => x5 u⟩
    · have ek : k = p_no P m := by omega
      have hl : t_least t = none := least_no (fun i hi => by
        cases hd : t.2.2.2 i with
        | false => rfl
        | true =>
          have := (ti i hd).1
          rw [hb i (by omega)] at hd; cases hd)
      have er : j_run P m N t = (0, 0, t) := by
        cases N with
        | zero => rfl
        | succ N => rw [j_run, hl]
      rw [if_neg c, gR_ok t0, r14, sZ_n t14 hm8 (by decide) (Or.inr rfl), er]
      have f1 : Fq q Fz (fun b => b = q + 14) h (wI h (q + 14) m 1) := Fq.wA (A := fun b => b = q + 14) rfl (by omega)
      refine ok_some ⟨js.fq f1 ⟨fun z => z, fun z => z, fun z => z⟩ (fun b h1 h2 => by (try dsimp only); omega), Fg.flag, rfl, hI_wI_s, fun _ => ⟨by rw [hI_wI_a (by omega)], by rw [hI_wI_a (by omega)]⟩, fun z => absurd rfl z⟩
/-- what the whole of judging leaves -/
def JaQ (q : Nat) (P : Pg) (m : Nat) (h : Hp) (R : Nat × Nat × Tab) : Int32 → Hp → Prop := fun r g => LM (hT g) (hR g) q ∧ PM g q P ∧ (0 < p_no P m → Mt g q m R.2.2 ∧ TW R.2.2) ∧ Fg q m h g ∧ r = (if R.1 = 0 then 0 else -10 - nI R.1) ∧ hI g (q + 14) m = b2i (decide (R.1 = 0)) ∧ (R.1 = 0 → hI g q 32 = hI h q 32 ∧ hI g q 33 = hI h q 33) ∧ (¬ R.1 = 0 → hI g q 32 = nI m ∧ hI g q 33 = nI R.2.1)
theorem jd_98 (pw : PW P) (hm : m < p_nm P) (hno : 0 < p_no P m) (t : Tab) : ∀ (n k : Nat) (h : Hp), k ≤ p_na P m → p_na P m - k < n → JS h q P m (tab0 t) → Mv h q 0 (fun _ => 0) (j_arg P m k) → hI h (q + 14) m = 0 → Ok (BX12_judge_98 n (some q) (nI m) (nI (p_aw P m k)) (nI k) h) (JdQ q P m h (j_run P m 1020 (j_t0 P m t))) := by
  have wm := pw.2.2.2.1 m hm
  have b2 := wm.2.1
  have hm8 : m < 8 := by have := pw.1; omega
  intro n
  induction n with
  | zero => intro k h h1 h2; omega
  | succ n ih =>
    intro k h h1 h2 js mv h14
    have lm := js.1
    have t0 : hT h q = some (.inl 11) := lm.1
    have rs : ∀ {g : Hp}, JS g q P m (tab0 t) → hT g q = some (.inl 11) ∧ hR g q 4 = some (q + 4) ∧ hT g (q + 4) = some (.inr (.int, 64)) := fun j => ⟨j.1.1, by have lm := j.1; obtain ⟨mt0, ⟨mr1, mt1⟩, ⟨mr2, mt2⟩, ⟨mr3, mt3⟩, ⟨mr4, mt4⟩, ⟨mr5, mt5⟩, ⟨mr6, mt6⟩, ⟨mr7, mt7⟩, ⟨mr8, mt8⟩, ⟨mr9, mt9⟩, ⟨mr10, mt10⟩, ⟨mr11, mt11⟩, ⟨mr12, mt12⟩, ⟨mr13, mt13⟩, ⟨mr14, mt14⟩, ⟨mr15, mt15⟩, ⟨mr16, mt16⟩, ⟨mr17, mt17⟩, ⟨mr18, mt18⟩, ⟨mr19, mt19⟩, ⟨mr20, mt20⟩, ⟨mr21, mt21⟩, ⟨mr22, mt22⟩, ⟨mr23, mt23⟩, ⟨mr24, mt24⟩, ⟨mr25, mt25⟩, ⟨mr26, mt26⟩, ⟨mr27, mt27⟩, ⟨mr28, mt28⟩, ⟨mr29, mt29⟩, ⟨mr30, mt30⟩, ⟨mr31, mt31⟩, ⟨mr32, mt32⟩, ⟨mr33, mt33⟩, ⟨mr34, mt34⟩, ⟨mr35, mt35⟩, ⟨mr36, mt36⟩, ⟨mr37, mt37⟩, ⟨mr38, mt38⟩, ⟨mr39, mt39⟩, ⟨mr40, mt40⟩, ⟨mr41, mt41⟩, ⟨mr42, mt42⟩, ⟨mr43, mt43⟩⟩ := id lm; exact mr4, by have lm := j.1; obtain ⟨mt0, ⟨mr1, mt1⟩, ⟨mr2, mt2⟩, ⟨mr3, mt3⟩, ⟨mr4, mt4⟩, ⟨mr5, mt5⟩, ⟨mr6, mt6⟩, ⟨mr7, mt7⟩, ⟨mr8, mt8⟩, ⟨mr9, mt9⟩, ⟨mr10, mt10⟩, ⟨mr11, mt11⟩, ⟨mr12, mt12⟩, ⟨mr13, mt13⟩, ⟨mr14, mt14⟩, ⟨mr15, mt15⟩, ⟨mr16, mt16⟩, ⟨mr17, mt17⟩, ⟨mr18, mt18⟩, ⟨mr19, mt19⟩, ⟨mr20, mt20⟩, ⟨mr21, mt21⟩, ⟨mr22, mt22⟩, ⟨mr23, mt23⟩, ⟨mr24, mt24⟩, ⟨mr25, mt25⟩, ⟨mr26, mt26⟩, ⟨mr27, mt27⟩, ⟨mr28, mt28⟩, ⟨mr29, mt29⟩, ⟨mr30, mt30⟩, ⟨mr31, mt31⟩, ⟨mr32, mt32⟩, ⟨mr33, mt33⟩, ⟨mr34, mt34⟩, ⟨mr35, mt35⟩, ⟨mr36, mt36⟩, ⟨mr37, mt37⟩, ⟨mr38, mt38⟩, ⟨mr39, mt39⟩, ⟨mr40, mt40⟩, ⟨mr41, mt41⟩, ⟨mr42, mt42⟩, ⟨mr43, mt43⟩⟩ := id lm; exact mt4⟩
    have r2 : hR h q 2 = some (q + 2) := by obtain ⟨mt0, ⟨mr1, mt1⟩, ⟨mr2, mt2⟩, ⟨mr3, mt3⟩, ⟨mr4, mt4⟩, ⟨mr5, mt5⟩, ⟨mr6, mt6⟩, ⟨mr7, mt7⟩, ⟨mr8, mt8⟩, ⟨mr9, mt9⟩, ⟨mr10, mt10⟩, ⟨mr11, mt11⟩, ⟨mr12, mt12⟩, ⟨mr13, mt13⟩, ⟨mr14, mt14⟩, ⟨mr15, mt15⟩, ⟨mr16, mt16⟩, ⟨mr17, mt17⟩, ⟨mr18, mt18⟩, ⟨mr19, mt19⟩, ⟨mr20, mt20⟩, ⟨mr21, mt21⟩, ⟨mr22, mt22⟩, ⟨mr23, mt23⟩, ⟨mr24, mt24⟩, ⟨mr25, mt25⟩, ⟨mr26, mt26⟩, ⟨mr27, mt27⟩, ⟨mr28, mt28⟩, ⟨mr29, mt29⟩, ⟨mr30, mt30⟩, ⟨mr31, mt31⟩, ⟨mr32, mt32⟩, ⟨mr33, mt33⟩, ⟨mr34, mt34⟩, ⟨mr35, mt35⟩, ⟨mr36, mt36⟩, ⟨mr37, mt37⟩, ⟨mr38, mt38⟩, ⟨mr39, mt39⟩, ⟨mr40, mt40⟩, ⟨mr41, mt41⟩, ⟨mr42, mt42⟩, ⟨mr43, mt43⟩⟩ := id lm; exact mr2
    have t2 : hT h (q + 2) = some (.inr (.int, 8)) := by obtain ⟨mt0, ⟨mr1, mt1⟩, ⟨mr2, mt2⟩, ⟨mr3, mt3⟩, ⟨mr4, mt4⟩, ⟨mr5, mt5⟩, ⟨mr6, mt6⟩, ⟨mr7, mt7⟩, ⟨mr8, mt8⟩, ⟨mr9, mt9⟩, ⟨mr10, mt10⟩, ⟨mr11, mt11⟩, ⟨mr12, mt12⟩, ⟨mr13, mt13⟩, ⟨mr14, mt14⟩, ⟨mr15, mt15⟩, ⟨mr16, mt16⟩, ⟨mr17, mt17⟩, ⟨mr18, mt18⟩, ⟨mr19, mt19⟩, ⟨mr20, mt20⟩, ⟨mr21, mt21⟩, ⟨mr22, mt22⟩, ⟨mr23, mt23⟩, ⟨mr24, mt24⟩, ⟨mr25, mt25⟩, ⟨mr26, mt26⟩, ⟨mr27, mt27⟩, ⟨mr28, mt28⟩, ⟨mr29, mt29⟩, ⟨mr30, mt30⟩, ⟨mr31, mt31⟩, ⟨mr32, mt32⟩, ⟨mr33, mt33⟩, ⟨mr34, mt34⟩, ⟨mr35, mt35⟩, ⟨mr36, mt36⟩, ⟨mr37, mt37⟩, ⟨mr38, mt38⟩, ⟨mr39, mt39⟩, ⟨mr40, mt40⟩, ⟨mr41, mt41⟩, ⟨mr42, mt42⟩, ⟨mr43, mt43⟩⟩ := id lm; exact mt2
    have vm := js.2.1.2.1 m hm
    have e2 := vm.1.2.1
    unfold BX12_judge_98
    rw [gR_ok t0, r2, aI_n t2 hm8 (by decide), e2, if_lt (by omega) (by omega)]
    by_cases c : k < p_na P m
    · obtain ⟨-, r4, t4⟩ := rs js
      have e4 := vm.2.1 k c
      have hk5 := wm.2.2.2.2.2.2.1 k c
      have ha := aw_lt wm c
      rw [if_pos c, gR_ok t0, r4, nl_8, pk_mul, nI_add, aI_n t4 (by omega) (by decide), e4, rcv_ok t0]
      refine ok_cl (m_store js.1 mv (wf_arg P m k) hk5 (by omega)) (fun _ g x => ?_)
      obtain ⟨x1, x2, x3⟩ := x
      have js1 : JS g q P m (tab0 t) := js.fq x2 n29a (fun b h1 h2 => by unfold A28o; omega)
      obtain ⟨t0g, r4g, t4g⟩ := rs js1
      have e4g := (js1.2.1.2.1 m hm).2.1 k c
      rw [gR_ok t0g, r4g, aI_n t4g (by omega) (by decide), e4g, f_wordsOf (by omega), cl_ok, nI_add, nI_1]
      have k1 : Fj q m h g := Fj.of x2 (fun k z => Or.inl z) (fun b z => by unfold A28o at z; omega)
      refine (ih (k + 1) g (by omega) (by omega) js1 x1 (by rw [k1.good]; exact h14)).mono (fun r g2 y => ?_)
      obtain ⟨y1, y2, y3, y4, y5, y6⟩ := y
      exact ⟨y1, (Fg.of k1).trans y2, y3, y4, fun u => by rw [(y5 u).1, (y5 u).2]; exact ⟨x2.2.2.2.2.2 32 (by unfold F29; omega), x2.2.2.2.2.2 33 (by unfold F29; omega)⟩, y6⟩
    · have ek : k = p_na P m := by omega
      subst ek
      rw [if_neg c, rcv_ok t0, nI_c0]
      have hc : come (tab0 t) 0 (0, (fun _ => 0), j_arg P m (p_na P m)) = (true, j_t0 P m t) := rfl
      refine ok_cl (js_come (s := (0, (fun _ => 0), j_arg P m (p_na P m))) js mv (by show 0 ≤ 12; omega) (wf_nil _) (wf_arg P m _) hm8 (by omega)) (fun r g x => ?_)
      obtain ⟨x1, x2, x3, x4⟩ := x
      rw [hc] at x1 x2
      rw [if_pos rfl] at x1
      rw [x1, nI_c0]
      have k1 : Fj q m h g := ⟨x3.mono (fun _ z => z.elim) (fun b z => by unfold A26 at z; unfold AJm; omega), x4⟩
      have := t0_ms P m t
      refine (jd_loop pw hm 100000 0 1020 g (j_t0 P m t) this (by omega) (by omega) x2 (t0_ti t hno) (fun i hi => by omega) (by rw [k1.good]; exact h14)).mono (fun r g2 y => ?_)
      obtain ⟨y1, y2, y3, y4, y5, y6⟩ := y
      exact ⟨y1, (Fg.of k1).trans y2, y3, y4, fun u => by rw [(y5 u).1, (y5 u).2]; exact ⟨x3.2.2.2.2.2 32 (fun z => z), x3.2.2.2.2.2 33 (fun z => z)⟩, y6⟩
theorem jd_75 {h : Hp} (lm : LM (hT h) (hR h) q) (x1 : Int32) : BX12_judge_75 100000 (some q) x1 0 h = BX12_judge_98 100000 (some q) x1 0 0 (wIr h (q + 28) (ic (fun _ => 5) (hI h (q + 28)) 0 0 16)) := by
  obtain ⟨mt0, ⟨mr1, mt1⟩, ⟨mr2, mt2⟩, ⟨mr3, mt3⟩, ⟨mr4, mt4⟩, ⟨mr5, mt5⟩, ⟨mr6, mt6⟩, ⟨mr7, mt7⟩, ⟨mr8, mt8⟩, ⟨mr9, mt9⟩, ⟨mr10, mt10⟩, ⟨mr11, mt11⟩, ⟨mr12, mt12⟩, ⟨mr13, mt13⟩, ⟨mr14, mt14⟩, ⟨mr15, mt15⟩, ⟨mr16, mt16⟩, ⟨mr17, mt17⟩, ⟨mr18, mt18⟩, ⟨mr19, mt19⟩, ⟨mr20, mt20⟩, ⟨mr21, mt21⟩, ⟨mr22, mt22⟩, ⟨mr23, mt23⟩, ⟨mr24, mt24⟩, ⟨mr25, mt25⟩, ⟨mr26, mt26⟩, ⟨mr27, mt27⟩, ⟨mr28, mt28⟩, ⟨mr29, mt29⟩, ⟨mr30, mt30⟩, ⟨mr31, mt31⟩, ⟨mr32, mt32⟩, ⟨mr33, mt33⟩, ⟨mr34, mt34⟩, ⟨mr35, mt35⟩, ⟨mr36, mt36⟩, ⟨mr37, mt37⟩, ⟨mr38, mt38⟩, ⟨mr39, mt39⟩, ⟨mr40, mt40⟩, ⟨mr41, mt41⟩, ⟨mr42, mt42⟩, ⟨mr43, mt43⟩⟩ := id lm
  refine cpl (fun n k h => BX12_judge_75 n (some q) x1 k h) (fun g => BX12_judge_98 100000 (some q) x1 0 0 g) 0 0 16 (fun _ => 5) (by omega) (fun n k g hk e1 e2 e3 => ?_) (fun n g e1 e2 e3 => ?_)
  · show BX12_judge_75 (n + 1) _ _ _ _ = _
    rw [BX12_judge_75]
    have t0 : hT g q = some (.inl 11) := by rw [e1]; exact mt0
    have t28 : hT g (q + 28) = some (.inr (.int, 18)) := by rw [e1]; exact mt28
    rw [nl_16, if_lt (by omega) (by decide), if_pos hk, gR_ok t0, e2, mr28, sI_n t28 (by omega) (by decide), nI_1, Nat.zero_add]
  · show BX12_judge_75 (n + 1) _ _ _ _ = _
    rw [BX12_judge_75]
    rw [if_neg (by decide)]
/-- the table is cleared -/
theorem jd_20 (pw : PW P) (hm : m < p_nm P) (t : Tab) : ∀ (n k : Nat) (h : Hp), k ≤ 60 → 60 - k < n → LM (hT h) (hR h) q → PM h q P → hI h (q + 14) m = 0 → (∀ i, i < k → hI h (q + 22) (60 * m + i) = 0 ∧ hI h (q + 23) i = 0) → Ok (BX12_judge_20 n (some q) (nI m) (nI k) h) (JaQ q P m h (j_all P m t)) := by
  have wm := pw.2.2.2.1 m hm
  have b4 := wm.2.2.2.1
  have hm8 : m < 8 := by have := pw.1; omega
  intro n
  induction n with
  | zero => intro k h h1 h2; omega
  | succ n ih =>
    intro k h h1 h2 lm pm h14 hb
    have t0 : hT h q = some (.inl 11) := lm.1
    have r24 : hR h q 24 = some (q + 22) := by obtain ⟨mt0, ⟨mr1, mt1⟩, ⟨mr2, mt2⟩, ⟨mr3, mt3⟩, ⟨mr4, mt4⟩, ⟨mr5, mt5⟩, ⟨mr6, mt6⟩, ⟨mr7, mt7⟩, ⟨mr8, mt8⟩, ⟨mr9, mt9⟩, ⟨mr10, mt10⟩, ⟨mr11, mt11⟩, ⟨mr12, mt12⟩, ⟨mr13, mt13⟩, ⟨mr14, mt14⟩, ⟨mr15, mt15⟩, ⟨mr16, mt16⟩, ⟨mr17, mt17⟩, ⟨mr18, mt18⟩, ⟨mr19, mt19⟩, ⟨mr20, mt20⟩, ⟨mr21, mt21⟩, ⟨mr22, mt22⟩, ⟨mr23, mt23⟩, ⟨mr24, mt24⟩, ⟨mr25, mt25⟩, ⟨mr26, mt26⟩, ⟨mr27, mt27⟩, ⟨mr28, mt28⟩, ⟨mr29, mt29⟩, ⟨mr30, mt30⟩, ⟨mr31, mt31⟩, ⟨mr32, mt32⟩, ⟨mr33, mt33⟩, ⟨mr34, mt34⟩, ⟨mr35, mt35⟩, ⟨mr36, mt36⟩, ⟨mr37, mt37⟩, ⟨mr38, mt38⟩, ⟨mr39, mt39⟩, ⟨mr40, mt40⟩, ⟨mr41, mt41⟩, ⟨mr42, mt42⟩, ⟨mr43, mt43⟩⟩ := id lm; exact mr22
    have t22 : hT h (q + 22) = some (.inr (.boolean, 480)) := by obtain ⟨mt0, ⟨mr1, mt1⟩, ⟨mr2, mt2⟩, ⟨mr3, mt3⟩, ⟨mr4, mt4⟩, ⟨mr5, mt5⟩, ⟨mr6, mt6⟩, ⟨mr7, mt7⟩, ⟨mr8, mt8⟩, ⟨mr9, mt9⟩, ⟨mr10, mt10⟩, ⟨mr11, mt11⟩, ⟨mr12, mt12⟩, ⟨mr13, mt13⟩, ⟨mr14, mt14⟩, ⟨mr15, mt15⟩, ⟨mr16, mt16⟩, ⟨mr17, mt17⟩, ⟨mr18, mt18⟩, ⟨mr19, mt19⟩, ⟨mr20, mt20⟩, ⟨mr21, mt21⟩, ⟨mr22, mt22⟩, ⟨mr23, mt23⟩, ⟨mr24, mt24⟩, ⟨mr25, mt25⟩, ⟨mr26, mt26⟩, ⟨mr27, mt27⟩, ⟨mr28, mt28⟩, ⟨mr29, mt29⟩, ⟨mr30, mt30⟩, ⟨mr31, mt31⟩, ⟨mr32, mt32⟩, ⟨mr33, mt33⟩, ⟨mr34, mt34⟩, ⟨mr35, mt35⟩, ⟨mr36, mt36⟩, ⟨mr37, mt37⟩, ⟨mr38, mt38⟩, ⟨mr39, mt39⟩, ⟨mr40, mt40⟩, ⟨mr41, mt41⟩, ⟨mr42, mt42⟩, ⟨mr43, mt43⟩⟩ := id lm; exact mt22
    have r25 : hR h q 25 = some (q + 23) := by obtain ⟨mt0, ⟨mr1, mt1⟩, ⟨mr2, mt2⟩, ⟨mr3, mt3⟩, ⟨mr4, mt4⟩, ⟨mr5, mt5⟩, ⟨mr6, mt6⟩, ⟨mr7, mt7⟩, ⟨mr8, mt8⟩, ⟨mr9, mt9⟩, ⟨mr10, mt10⟩, ⟨mr11, mt11⟩, ⟨mr12, mt12⟩, ⟨mr13, mt13⟩, ⟨mr14, mt14⟩, ⟨mr15, mt15⟩, ⟨mr16, mt16⟩, ⟨mr17, mt17⟩, ⟨mr18, mt18⟩, ⟨mr19, mt19⟩, ⟨mr20, mt20⟩, ⟨mr21, mt21⟩, ⟨mr22, mt22⟩, ⟨mr23, mt23⟩, ⟨mr24, mt24⟩, ⟨mr25, mt25⟩, ⟨mr26, mt26⟩, ⟨mr27, mt27⟩, ⟨mr28, mt28⟩, ⟨mr29, mt29⟩, ⟨mr30, mt30⟩, ⟨mr31, mt31⟩, ⟨mr32, mt32⟩, ⟨mr33, mt33⟩, ⟨mr34, mt34⟩, ⟨mr35, mt35⟩, ⟨mr36, mt36⟩, ⟨mr37, mt37⟩, ⟨mr38, mt38⟩, ⟨mr39, mt39⟩, ⟨mr40, mt40⟩, ⟨mr41, mt41⟩, ⟨mr42, mt42⟩, ⟨mr43, mt43⟩⟩ := id lm; exact mr23
    have t23 : hT h (q + 23) = some (.inr (.boolean, 60)) := by obtain ⟨mt0, ⟨mr1, mt1⟩, ⟨mr2, mt2⟩, ⟨mr3, mt3⟩, ⟨mr4, mt4⟩, ⟨mr5, mt5⟩, ⟨mr6, mt6⟩, ⟨mr7, mt7⟩, ⟨mr8, mt8⟩, ⟨mr9, mt9⟩, ⟨mr10, mt10⟩, ⟨mr11, mt11⟩, ⟨mr12, mt12⟩, ⟨mr13, mt13⟩, ⟨mr14, mt14⟩, ⟨mr15, mt15⟩, ⟨mr16, mt16⟩, ⟨mr17, mt17⟩, ⟨mr18, mt18⟩, ⟨mr19, mt19⟩, ⟨mr20, mt20⟩, ⟨mr21, mt21⟩, ⟨mr22, mt22⟩, ⟨mr23, mt23⟩, ⟨mr24, mt24⟩, ⟨mr25, mt25⟩, ⟨mr26, mt26⟩, ⟨mr27, mt27⟩, ⟨mr28, mt28⟩, ⟨mr29, mt29⟩, ⟨mr30, mt30⟩, ⟨mr31, mt31⟩, ⟨mr32, mt32⟩, ⟨mr33, mt33⟩, ⟨mr34, mt34⟩, ⟨mr35, mt35⟩, ⟨mr36, mt36⟩, ⟨mr37, mt37⟩, ⟨mr38, mt38⟩, ⟨mr39, mt39⟩, ⟨mr40, mt40⟩, ⟨mr41, mt41⟩, ⟨mr42, mt42⟩, ⟨mr43, mt43⟩⟩ := id lm; exact mt23
    have r5 : hR h q 5 = some (q + 5) := by obtain ⟨mt0, ⟨mr1, mt1⟩, ⟨mr2, mt2⟩, ⟨mr3, mt3⟩, ⟨mr4, mt4⟩, ⟨mr5, mt5⟩, ⟨mr6, mt6⟩, ⟨mr7, mt7⟩, ⟨mr8, mt8⟩, ⟨mr9, mt9⟩, ⟨mr10, mt10⟩, ⟨mr11, mt11⟩, ⟨mr12, mt12⟩, ⟨mr13, mt13⟩, ⟨mr14, mt14⟩, ⟨mr15, mt15⟩, ⟨mr16, mt16⟩, ⟨mr17, mt17⟩, ⟨mr18, mt18⟩, ⟨mr19, mt19⟩, ⟨mr20, mt20⟩, ⟨mr21, mt21⟩, ⟨mr22, mt22⟩, ⟨mr23, mt23⟩, ⟨mr24, mt24⟩, ⟨mr25, mt25⟩, ⟨mr26, mt26⟩, ⟨mr27, mt27⟩, ⟨mr28, mt28⟩, ⟨mr29, mt29⟩, ⟨mr30, mt30⟩, ⟨mr31, mt31⟩, ⟨mr32, mt32⟩, ⟨mr33, mt33⟩, ⟨mr34, mt34⟩, ⟨mr35, mt35⟩, ⟨mr36, mt36⟩, ⟨mr37, mt37⟩, ⟨mr38, mt38⟩, ⟨mr39, mt39⟩, ⟨mr40, mt40⟩, ⟨mr41, mt41⟩, ⟨mr42, mt42⟩, ⟨mr43, mt43⟩⟩ := id lm; exact mr5
    have t5 : hT h (q + 5) = some (.inr (.int, 8)) := by obtain ⟨mt0, ⟨mr1, mt1⟩, ⟨mr2, mt2⟩, ⟨mr3, mt3⟩, ⟨mr4, mt4⟩, ⟨mr5, mt5⟩, ⟨mr6, mt6⟩, ⟨mr7, mt7⟩, ⟨mr8, mt8⟩, ⟨mr9, mt9⟩, ⟨mr10, mt10⟩, ⟨mr11, mt11⟩, ⟨mr12, mt12⟩, ⟨mr13, mt13⟩, ⟨mr14, mt14⟩, ⟨mr15, mt15⟩, ⟨mr16, mt16⟩, ⟨mr17, mt17⟩, ⟨mr18, mt18⟩, ⟨mr19, mt19⟩, ⟨mr20, mt20⟩, ⟨mr21, mt21⟩, ⟨mr22, mt22⟩, ⟨mr23, mt23⟩, ⟨mr24, mt24⟩, ⟨mr25, mt25⟩, ⟨mr26, mt26⟩, ⟨mr27, mt27⟩, ⟨mr28, mt28⟩, ⟨mr29, mt29⟩, ⟨mr30, mt30⟩, ⟨mr31, mt31⟩, ⟨mr32, mt32⟩, ⟨mr33, mt33⟩, ⟨mr34, mt34⟩, ⟨mr35, mt35⟩, ⟨mr36, mt36⟩, ⟨mr37, mt37⟩, ⟨mr38, mt38⟩, ⟨mr39, mt39⟩, ⟨mr40, mt40⟩, ⟨mr41, mt41⟩, ⟨mr42, mt42⟩, ⟨mr43, mt43⟩⟩ := id lm; exact mt5
    have e5 := (pm.2.1 m hm).1.2.2.2.1
    unfold BX12_judge_20
    rw [nl_60, if_lt (by omega) (by decide)]
    by_cases c : k < 60
    · rw [if_pos c, gR_ok t0, r24, pk_mul, nI_add, sZ_n t22 (by omega) (by decide) (Or.inl rfl), gR_ok (show hT (wI h (q + 22) (60 * m + k) 0) q = _ from t0), show hR (wI h (q + 22) (60 * m + k) 0) q 25 = _ from r25, sZ_n (show hT (wI h (q + 22) (60 * m + k) 0) (q + 23) = _ from t23) (by omega) (by decide) (Or.inl rfl), nI_1]
      have f1 : Fq q Fz (fun b => b = q + 22 ∨ b = q + 23) h (wI (wI h (q + 22) (60 * m + k) 0) (q + 23) k 0) := (Fq.wA (A := fun b => b = q + 22 ∨ b = q + 23) (Or.inl rfl) (by omega)).trans (Fq.wA (A := fun b => b = q + 22 ∨ b = q + 23) (Or.inr rfl) (by omega))
      have fo : Fo q m h (wI (wI h (q + 22) (60 * m + k) 0) (q + 23) k 0) := by
        intro x hx
        rw [hI_wI_a (show q + 22 ≠ q + 23 by omega), hI_wI_k (by omega), f1.2.2.2.2.1 (q + 24) (by omega) (by (try dsimp only); omega), f1.2.2.2.2.1 (q + 25) (by omega) (by (try dsimp only); omega), f1.2.2.2.2.1 (q + 26) (by omega) (by (try dsimp only); omega)]
        exact ⟨rfl, rfl, fun _ _ => rfl, fun _ _ => rfl⟩
      have fg : Fg q m h (wI (wI h (q + 22) (60 * m + k) 0) (q + 23) k 0) := ⟨f1.mono (fun _ z => z.elim) (fun b z => Or.inl (by (try dsimp only at z); unfold AJm; omega)), fo, fun x _ => by rw [f1.2.2.2.2.1 (q + 14) (by omega) (by (try dsimp only); omega)]⟩
      refine (ih (k + 1) _ (by omega) (by omega) (lm.fq f1) (pm.fq f1 (fun b h1 h2 => by (try dsimp only); omega) ⟨fun z => z, fun z => z, fun z => z⟩) (by rw [f1.2.2.2.2.1 (q + 14) (by omega) (by (try dsimp only); omega)]; exact h14) (fun i hi => ?_)).mono (fun r g y => ?_)
      · rw [hI_wI_a (show q + 22 ≠ q + 23 by omega)]
        by_cases z : i = k
        · subst z; rw [hI_wI_s, hI_wI_s]; exact ⟨rfl, rfl⟩
        · rw [hI_wI_k (by omega), hI_wI_k z, hI_wI_a (show q + 23 ≠ q + 22 by omega)]; exact hb i (by omega)
      · obtain ⟨y1, y2, y3, y4, y5, y6, y7, y8⟩ := y
        exact ⟨y1, y2, y3, fg.trans y4, y5, y6, fun u => by rw [(y7 u).1, (y7 u).2]; exact ⟨f1.2.2.2.2.2 32 (fun z => z), f1.2.2.2.2.2 33 (fun z => z)⟩, y8⟩
    · rw [if_neg c, gR_ok t0, r5, aI_n t5 hm8 (by decide), e5, ie_0 (by omega)]
      have js : JS h q P m (tab0 t) := ⟨lm, pm, fun i hi => ⟨(hb i (by omega)).1, fun e he => by cases he⟩, fun i hi => (hb i (by omega)).2, fun i d he => by cases he⟩
      unfold j_all
      by_cases z : p_no P m = 0
      · rw [if_pos z, if_pos z, rcv_ok t0, f_wrong t0, cl_ok]
        obtain ⟨y1, y2, y3, y4⟩ := js.wr (x := nI m) (y := 0)
        exact ok_some ⟨y1.1, y1.2.1, fun u => by omega, Fg.of y2, rfl, by rw [y2.good, h14]; rfl, fun u => (by cases u), fun _ => ⟨y3, y4⟩⟩
      · rw [if_neg z, if_neg z, pI_ok t0, jd_75 (h := wI h q 29 0) lm]
        have f1 : Fq q F29 (A28 q) h (wIr (wI h q 29 0) (q + 28) (ic (fun _ => 5) (hI (wI h q 29 0) (q + 28)) 0 0 16)) := q29w.trans (Fq.wIr (A := A28 q) (Or.inr rfl) (by omega))
        have mv1 : Mv (wIr (wI h q 29 0) (q + 28) (ic (fun _ => 5) (hI (wI h q 29 0) (q + 28)) 0 0 16)) q 0 (fun _ => 0) (j_arg P m 0) := by
          refine ⟨⟨?_, by omega⟩, fun p hp => by omega, fun j hj => ?_⟩
          · rw [hI_wIr_a (by omega), hI_wI_s]; rfl
          · rw [hI_wIr_s, ic_in0 hj]; exact ⟨rfl, by show 5 < 8; omega⟩
        generalize wIr (wI h q 29 0) (q + 28) (ic (fun _ => 5) (hI (wI h q 29 0) (q + 28)) 0 0 16) = g1 at f1 mv1 ⊢
        have js1 : JS g1 q P m (tab0 t) := js.fq f1 n29a (fun b h1 h2 => by unfold A28; omega)
        have k1 : Fj q m h g1 := Fj.of f1 (fun k z => Or.inl z) (fun b z => by unfold A28 at z; omega)
        have := jd_98 (q := q) pw hm (by omega) t 100000 0 g1 (by omega) (by have := wm.2.1; omega) js1 mv1 (by rw [k1.good]; exact h14)
        refine this.mono (fun r g y => ?_)
        obtain ⟨y1, y2, y3, y4, y5, y6⟩ := y
        exact ⟨y1.1, y1.2.1, fun _ => ⟨y1.2.2.1, y1.2.2.2.2⟩, (Fg.of k1).trans y2, y3, y4, fun u => by rw [(y5 u).1, (y5 u).2]; exact ⟨f1.2.2.2.2.2 32 (by unfold F29; omega), f1.2.2.2.2.2 33 (by unfold F29; omega)⟩, y6⟩
theorem m_judge {h : Hp} (pw : PW P) (hm : m < p_nm P) (t : Tab) (lm : LM (hT h) (hR h) q) (pm : PM h q P) : Ok (FX12_judge (some q) (nI m) h) (JaQ q P m h (j_all P m t)) := by
  have hm8 : m < 8 := by have := pw.1; omega
  have t0 : hT h q = some (.inl 11) := lm.1
  have r14 : hR h q 14 = some (q + 14) := by obtain ⟨mt0, ⟨mr1, mt1⟩, ⟨mr2, mt2⟩, ⟨mr3, mt3⟩, ⟨mr4, mt4⟩, ⟨mr5, mt5⟩, ⟨mr6, mt6⟩, ⟨mr7, mt7⟩, ⟨mr8, mt8⟩, ⟨mr9, mt9⟩, ⟨mr10, mt10⟩, ⟨mr11, mt11⟩, ⟨mr12, mt12⟩, ⟨mr13, mt13⟩, ⟨mr14, mt14⟩, ⟨mr15, mt15⟩, ⟨mr16, mt16⟩, ⟨mr17, mt17⟩, ⟨mr18, mt18⟩, ⟨mr19, mt19⟩, ⟨mr20, mt20⟩, ⟨mr21, mt21⟩, ⟨mr22, mt22⟩, ⟨mr23, mt23⟩, ⟨mr24, mt24⟩, ⟨mr25, mt25⟩, ⟨mr26, mt26⟩, ⟨mr27, mt27⟩, ⟨mr28, mt28⟩, ⟨mr29, mt29⟩, ⟨mr30, mt30⟩, ⟨mr31, mt31⟩, ⟨mr32, mt32⟩, ⟨mr33, mt33⟩, ⟨mr34, mt34⟩, ⟨mr35, mt35⟩, ⟨mr36, mt36⟩, ⟨mr37, mt37⟩, ⟨mr38, mt38⟩, ⟨mr39, mt39⟩, ⟨mr40, mt40⟩, ⟨mr41, mt41⟩, ⟨mr42, mt42⟩, ⟨mr43, mt43⟩⟩ := id lm; exact mr14
  have t14 : hT h (q + 14) = some (.inr (.boolean, 8)) := by obtain ⟨mt0, ⟨mr1, mt1⟩, ⟨mr2, mt2⟩, ⟨mr3, mt3⟩, ⟨mr4, mt4⟩, ⟨mr5, mt5⟩, ⟨mr6, mt6⟩, ⟨mr7, mt7⟩, ⟨mr8, mt8⟩, ⟨mr9, mt9⟩, ⟨mr10, mt10⟩, ⟨mr11, mt11⟩, ⟨mr12, mt12⟩, ⟨mr13, mt13⟩, ⟨mr14, mt14⟩, ⟨mr15, mt15⟩, ⟨mr16, mt16⟩, ⟨mr17, mt17⟩, ⟨mr18, mt18⟩, ⟨mr19, mt19⟩, ⟨mr20, mt20⟩, ⟨mr21, mt21⟩, ⟨mr22, mt22⟩, ⟨mr23, mt23⟩, ⟨mr24, mt24⟩, ⟨mr25, mt25⟩, ⟨mr26, mt26⟩, ⟨mr27, mt27⟩, ⟨mr28, mt28⟩, ⟨mr29, mt29⟩, ⟨mr30, mt30⟩, ⟨mr31, mt31⟩, ⟨mr32, mt32⟩, ⟨mr33, mt33⟩, ⟨mr34, mt34⟩, ⟨mr35, mt35⟩, ⟨mr36, mt36⟩, ⟨mr37, mt37⟩, ⟨mr38, mt38⟩, ⟨mr39, mt39⟩, ⟨mr40, mt40⟩, ⟨mr41, mt41⟩, ⟨mr42, mt42⟩, ⟨mr43, mt43⟩⟩ := id lm; exact mt14
  have f1 : Fq q Fz (fun b => b = q + 14) h (wI h (q + 14) m 0) := Fq.wA (A := fun b => b = q + 14) rfl (by omega)
  unfold FX12_judge
  rw [rcv_ok t0, f_isM lm pm pw, wi_n (by omega), decide_eq_true hm, cl_ok, if_neg (by decide), gR_ok t0, r14, sZ_n t14 hm8 (by decide) (Or.inl rfl), nI_c0]
  refine (jd_20 pw hm t 100000 0 (wI h (q + 14) m 0) (by omega) (by omega) (lm.fq f1) (pm.fq f1 (fun b h1 h2 => by (try dsimp only); omega) ⟨fun z => z, fun z => z, fun z => z⟩) hI_wI_s (fun i hi => by omega)).mono (fun r g y => ?_)
  obtain ⟨y1, y2, y3, y4, y5, y6, y7, y8⟩ := y
  exact ⟨y1, y2, y3, Fg.flag.trans y4, y5, y6, fun u => by rw [(y7 u).1, (y7 u).2]; exact ⟨f1.2.2.2.2.2 32 (fun z => z), f1.2.2.2.2.2 33 (fun z => z)⟩, y8⟩
end MK
