/-! the model: works -/
section ME
variable {q : Nat} {P : Pg} {σ l : Nat → Nat}
theorem ws_loop {b : Nat} (hb : b ≤ 3) : ∀ (n k d : Nat) (h : Hp), k ≤ b → b - k < n → LM (hT h) (hR h) q → Mv h q d σ l → wfS d σ → d ≤ 14 → Ok (BX12_works_361 n (some q) (nI b) 1 (nI k) h) (WkR q h σ l (List.replicate (b - k) 0) 4 d) := by
  intro n
  induction n with
  | zero => intro k d h h1 h2; omega
  | succ n ih =>
    intro k d h h1 h2 lm mv w hd
    have t0 : hT h q = some (.inl 11) := lm.1
    unfold BX12_works_361 BX12_works_386
    rw [if_lt (by omega) (by omega), if_neg (by decide), rcv_ok t0]
    by_cases c : k < b
    · rw [if_pos c, show b - k = (b - (k + 1)) + 1 by omega, List.replicate_succ]
      refine w_seq (k := 0) lm mv w (by decide) (fun g hle mg wg lg fg => ?_) (fun g d' hd' mg lg fg => ?_)
      · rw [nI_1]
        exact ih (k + 1) _ g (by omega) (by omega) lg mg wg (by omega)
      · obtain ⟨n', rfl⟩ : ∃ n', n = n' + 1 := ⟨n - 1, by omega⟩
        have t0g : hT g q = some (.inl 11) := lg.1
        unfold BX12_works_361 BX12_works_386
        rw [if_pos rfl, rcv_ok t0g, bz_0]
        have z := z_push (k := 4) lg mg (by omega) (by decide)
        split <;> exact z
    · rw [if_neg c, show b - k = 0 by omega, rcv_ok t0, bz_1]
      exact w_push (k := 4) lm mv hd (by decide)
theorem wa_loop (w8 : PW P) {c : Nat} (hc : c < p_nm P) : ∀ (n k d : Nat) (h : Hp), k ≤ p_na P c → k < n → LM (hT h) (hR h) q → PM h q P → Mv h q d σ l → wfS d σ → d ≤ 14 → Ok (BX12_works_523 (n + 1) (some q) (nI c) 1 (nI k - 1) h) (WkR q h σ l (argL P c k) (p_re P c) d) := by
  intro n
  induction n with
  | zero => intro k d h h1 h2; omega
  | succ n ih =>
    intro k d h h1 h2 lm pm mv w hd
    have t0 : hT h q = some (.inl 11) := lm.1
    have r4 : hR h q 4 = some (q + 4) := by obtain ⟨mt0, ⟨mr1, mt1⟩, ⟨mr2, mt2⟩, ⟨mr3, mt3⟩, ⟨mr4, mt4⟩, ⟨mr5, mt5⟩, ⟨mr6, mt6⟩, ⟨mr7, mt7⟩, ⟨mr8, mt8⟩, ⟨mr9, mt9⟩, ⟨mr10, mt10⟩, ⟨mr11, mt11⟩, ⟨mr12, mt12⟩, ⟨mr13, mt13⟩, ⟨mr14, mt14⟩, ⟨mr15, mt15⟩, ⟨mr16, mt16⟩, ⟨mr17, mt17⟩, ⟨mr18, mt18⟩, ⟨mr19, mt19⟩, ⟨mr20, mt20⟩, ⟨mr21, mt21⟩, ⟨mr22, mt22⟩, ⟨mr23, mt23⟩, ⟨mr24, mt24⟩, ⟨mr25, mt25⟩, ⟨mr26, mt26⟩, ⟨mr27, mt27⟩, ⟨mr28, mt28⟩, ⟨mr29, mt29⟩, ⟨mr30, mt30⟩, ⟨mr31, mt31⟩, ⟨mr32, mt32⟩, ⟨mr33, mt33⟩, ⟨mr34, mt34⟩, ⟨mr35, mt35⟩, ⟨mr36, mt36⟩, ⟨mr37, mt37⟩, ⟨mr38, mt38⟩, ⟨mr39, mt39⟩, ⟨mr40, mt40⟩, ⟨mr41, mt41⟩, ⟨mr42, mt42⟩, ⟨mr43, mt43⟩⟩ := id lm; exact mr4
    have t4 : hT h (q + 4) = some (.inr (.int, 64)) := by obtain ⟨mt0, ⟨mr1, mt1⟩, ⟨mr2, mt2⟩, ⟨mr3, mt3⟩, ⟨mr4, mt4⟩, ⟨mr5, mt5⟩, ⟨mr6, mt6⟩, ⟨mr7, mt7⟩, ⟨mr8, mt8⟩, ⟨mr9, mt9⟩, ⟨mr10, mt10⟩, ⟨mr11, mt11⟩, ⟨mr12, mt12⟩, ⟨mr13, mt13⟩, ⟨mr14, mt14⟩, ⟨mr15, mt15⟩, ⟨mr16, mt16⟩, ⟨mr17, mt17⟩, ⟨mr18, mt18⟩, ⟨mr19, mt19⟩, ⟨mr20, mt20⟩, ⟨mr21, mt21⟩, ⟨mr22, mt22⟩, ⟨mr23, mt23⟩, ⟨mr24, mt24⟩, ⟨mr25, mt25⟩, ⟨mr26, mt26⟩, ⟨mr27, mt27⟩, ⟨mr28, mt28⟩, ⟨mr29, mt29⟩, ⟨mr30, mt30⟩, ⟨mr31, mt31⟩, ⟨mr32, mt32⟩, ⟨mr33, mt33⟩, ⟨mr34, mt34⟩, ⟨mr35, mt35⟩, ⟨mr36, mt36⟩, ⟨mr37, mt37⟩, ⟨mr38, mt38⟩, ⟨mr39, mt39⟩, ⟨mr40, mt40⟩, ⟨mr41, mt41⟩, ⟨mr42, mt42⟩, ⟨mr43, mt43⟩⟩ := id lm; exact mt4
    have r1 : hR h q 1 = some (q + 1) := by obtain ⟨mt0, ⟨mr1, mt1⟩, ⟨mr2, mt2⟩, ⟨mr3, mt3⟩, ⟨mr4, mt4⟩, ⟨mr5, mt5⟩, ⟨mr6, mt6⟩, ⟨mr7, mt7⟩, ⟨mr8, mt8⟩, ⟨mr9, mt9⟩, ⟨mr10, mt10⟩, ⟨mr11, mt11⟩, ⟨mr12, mt12⟩, ⟨mr13, mt13⟩, ⟨mr14, mt14⟩, ⟨mr15, mt15⟩, ⟨mr16, mt16⟩, ⟨mr17, mt17⟩, ⟨mr18, mt18⟩, ⟨mr19, mt19⟩, ⟨mr20, mt20⟩, ⟨mr21, mt21⟩, ⟨mr22, mt22⟩, ⟨mr23, mt23⟩, ⟨mr24, mt24⟩, ⟨mr25, mt25⟩, ⟨mr26, mt26⟩, ⟨mr27, mt27⟩, ⟨mr28, mt28⟩, ⟨mr29, mt29⟩, ⟨mr30, mt30⟩, ⟨mr31, mt31⟩, ⟨mr32, mt32⟩, ⟨mr33, mt33⟩, ⟨mr34, mt34⟩, ⟨mr35, mt35⟩, ⟨mr36, mt36⟩, ⟨mr37, mt37⟩, ⟨mr38, mt38⟩, ⟨mr39, mt39⟩, ⟨mr40, mt40⟩, ⟨mr41, mt41⟩, ⟨mr42, mt42⟩, ⟨mr43, mt43⟩⟩ := id lm; exact mr1
    have t1 : hT h (q + 1) = some (.inr (.int, 8)) := by obtain ⟨mt0, ⟨mr1, mt1⟩, ⟨mr2, mt2⟩, ⟨mr3, mt3⟩, ⟨mr4, mt4⟩, ⟨mr5, mt5⟩, ⟨mr6, mt6⟩, ⟨mr7, mt7⟩, ⟨mr8, mt8⟩, ⟨mr9, mt9⟩, ⟨mr10, mt10⟩, ⟨mr11, mt11⟩, ⟨mr12, mt12⟩, ⟨mr13, mt13⟩, ⟨mr14, mt14⟩, ⟨mr15, mt15⟩, ⟨mr16, mt16⟩, ⟨mr17, mt17⟩, ⟨mr18, mt18⟩, ⟨mr19, mt19⟩, ⟨mr20, mt20⟩, ⟨mr21, mt21⟩, ⟨mr22, mt22⟩, ⟨mr23, mt23⟩, ⟨mr24, mt24⟩, ⟨mr25, mt25⟩, ⟨mr26, mt26⟩, ⟨mr27, mt27⟩, ⟨mr28, mt28⟩, ⟨mr29, mt29⟩, ⟨mr30, mt30⟩, ⟨mr31, mt31⟩, ⟨mr32, mt32⟩, ⟨mr33, mt33⟩, ⟨mr34, mt34⟩, ⟨mr35, mt35⟩, ⟨mr36, mt36⟩, ⟨mr37, mt37⟩, ⟨mr38, mt38⟩, ⟨mr39, mt39⟩, ⟨mr40, mt40⟩, ⟨mr41, mt41⟩, ⟨mr42, mt42⟩, ⟨mr43, mt43⟩⟩ := id lm; exact mt1
    have pmm := pm.2.1 c hc
    have wm := w8.2.2.2.1 c hc
    have hn8 := w8.1
    have hre := wm.1
    have hna := wm.2.1
    have fin : ∀ (g : Hp) (d' : Nat), LM (hT g) (hR g) q → PM g q P → Mv g q d' σ l → d' ≤ 14 → Ok (BX12_works_557 (some q) (nI c) 1 g) (WkR q g σ l [] (p_re P c) d') ∧ Ok (BX12_works_557 (some q) (nI c) 0 g) (RZ q g) := by
      intro g d' lg pg mg hd'
      have t0 : hT g q = some (.inl 11) := lg.1
      have lm := lg
      have r1 : hR g q 1 = some (q + 1) := by obtain ⟨mt0, ⟨mr1, mt1⟩, ⟨mr2, mt2⟩, ⟨mr3, mt3⟩, ⟨mr4, mt4⟩, ⟨mr5, mt5⟩, ⟨mr6, mt6⟩, ⟨mr7, mt7⟩, ⟨mr8, mt8⟩, ⟨mr9, mt9⟩, ⟨mr10, mt10⟩, ⟨mr11, mt11⟩, ⟨mr12, mt12⟩, ⟨mr13, mt13⟩, ⟨mr14, mt14⟩, ⟨mr15, mt15⟩, ⟨mr16, mt16⟩, ⟨mr17, mt17⟩, ⟨mr18, mt18⟩, ⟨mr19, mt19⟩, ⟨mr20, mt20⟩, ⟨mr21, mt21⟩, ⟨mr22, mt22⟩, ⟨mr23, mt23⟩, ⟨mr24, mt24⟩, ⟨mr25, mt25⟩, ⟨mr26, mt26⟩, ⟨mr27, mt27⟩, ⟨mr28, mt28⟩, ⟨mr29, mt29⟩, ⟨mr30, mt30⟩, ⟨mr31, mt31⟩, ⟨mr32, mt32⟩, ⟨mr33, mt33⟩, ⟨mr34, mt34⟩, ⟨mr35, mt35⟩, ⟨mr36, mt36⟩, ⟨mr37, mt37⟩, ⟨mr38, mt38⟩, ⟨mr39, mt39⟩, ⟨mr40, mt40⟩, ⟨mr41, mt41⟩, ⟨mr42, mt42⟩, ⟨mr43, mt43⟩⟩ := id lm; exact mr1
      have t1 : hT g (q + 1) = some (.inr (.int, 8)) := by obtain ⟨mt0, ⟨mr1, mt1⟩, ⟨mr2, mt2⟩, ⟨mr3, mt3⟩, ⟨mr4, mt4⟩, ⟨mr5, mt5⟩, ⟨mr6, mt6⟩, ⟨mr7, mt7⟩, ⟨mr8, mt8⟩, ⟨mr9, mt9⟩, ⟨mr10, mt10⟩, ⟨mr11, mt11⟩, ⟨mr12, mt12⟩, ⟨mr13, mt13⟩, ⟨mr14, mt14⟩, ⟨mr15, mt15⟩, ⟨mr16, mt16⟩, ⟨mr17, mt17⟩, ⟨mr18, mt18⟩, ⟨mr19, mt19⟩, ⟨mr20, mt20⟩, ⟨mr21, mt21⟩, ⟨mr22, mt22⟩, ⟨mr23, mt23⟩, ⟨mr24, mt24⟩, ⟨mr25, mt25⟩, ⟨mr26, mt26⟩, ⟨mr27, mt27⟩, ⟨mr28, mt28⟩, ⟨mr29, mt29⟩, ⟨mr30, mt30⟩, ⟨mr31, mt31⟩, ⟨mr32, mt32⟩, ⟨mr33, mt33⟩, ⟨mr34, mt34⟩, ⟨mr35, mt35⟩, ⟨mr36, mt36⟩, ⟨mr37, mt37⟩, ⟨mr38, mt38⟩, ⟨mr39, mt39⟩, ⟨mr40, mt40⟩, ⟨mr41, mt41⟩, ⟨mr42, mt42⟩, ⟨mr43, mt43⟩⟩ := id lm; exact mt1
      have e1 := (pg.2.1 c hc).1.1
      unfold BX12_works_557
      rw [gR_ok t0, r1, aI_n t1 (by omega) (by decide), e1, nl_5, if_lt (by omega) (by decide), gR_ok t0, r1, aI_n t1 (by omega) (by decide), e1, rcv_ok t0, rcv_ok t0]
      by_cases z : p_re P c < 5
      · rw [if_pos z, if_pos z]
        exact ⟨w_push lg mg hd' z, z_push lg mg hd' z⟩
      · have z5 : p_re P c = 5 := by omega
        rw [if_neg z, if_neg z, bz_1, bz_0, z5]
        exact ⟨w_nil mg, z_nil⟩
    unfold BX12_works_523
    cases k with
    | zero =>
      rw [if_pos (show nI 0 - 1 < 0 by decide)]
      exact (fin h d lm pm mv hd).1
    | succ k =>
      have ek := pmm.2.1 k (by omega)
      have hk5 := wm.2.2.2.2.2.2.1 k (by omega)
      have e3 : nI k + -1 = nI k - 1 := by rw [Int32.sub_eq_add_neg]
      rw [nI_pred, if_neg (nI_pos (by omega)), if_neg (by decide), gR_ok t0, r4, nl_8, pk_mul, nI_add, aI_n t4 (by omega) (by decide), ek, rcv_ok t0, e3]
      rw [argL]
      refine w_seq lm mv w hk5 (fun g hle mg wg lg fg => ?_) (fun g d' hd' mg lg fg => ?_)
      · exact ih k _ g (by omega) (by omega) lg (pm.fq fg (fun _ _ _ z => z) ⟨by decide, by decide, by decide⟩) mg wg (by omega)
      · obtain ⟨n', rfl⟩ : ∃ n', n = n' + 1 := ⟨n - 1, by omega⟩
        have f2 := (fin g d' lg (pm.fq fg (fun _ _ _ z => z) ⟨by decide, by decide, by decide⟩) mg (by omega)).2
        unfold BX12_works_523
        rw [if_pos rfl]
        split <;> exact f2
variable {h : Hp} {d : Nat}
theorem m_works15 (lm : LM (hT h) (hR h) q) (pm : PM h q P) (pw : PW P) (mv : Mv h q d σ l) (w : wfS d σ) (hd : d ≤ 12) {op : Nat} (hop : op < 36) {a b s0 : Int32} (hod : j_od P op a b = true) (hmv : ¬ (8 ≤ op ∧ op ≤ 16)) (hs : op = 25 ∨ op = 26 → s0 = nI (kcl (cN b))) : Ok (BX12_works_15 (some q) (nI op) a b 1 s0 h) (WkR q h σ l (j_tk P op (cN a) (cN b)) (j_pt P op (cN a) (cN b)) d) := by
  have t0 : hT h q = some (.inl 11) := lm.1
  unfold BX12_works_15 BX12_works_176 BX12_works_346 BX12_works_352 BX12_works_457
  rcases op36 hop with rfl | rfl | rfl | rfl | rfl | rfl | rfl | rfl | rfl | rfl | rfl | rfl | rfl | rfl | rfl | rfl | rfl | rfl | rfl | rfl | rfl | rfl | rfl | rfl | rfl | rfl | rfl | rfl | rfl | rfl | rfl | rfl | rfl | rfl | rfl | rfl
  all_goals first | (exfalso; omega) | skip
  all_goals simp (disch := first | assumption | omega | decide | (simp only [hT_wI, hT_wL, hT_wR, hT_wLr]; assumption)) only [↓reduceIte, Nat.reduceEqDiff, Nat.reduceLT, Nat.reduceLeDiff, Nat.reduceAdd, Nat.reduceSub, Nat.reduceMul, or_self, or_true, true_or, or_false, false_or, and_self, and_true, true_and, and_false, false_and, if_true, if_false, ↓gI_ok, ↓gL_ok, ↓gR_ok, ↓pI_ok, ↓pL_ok, ↓pR_ok, ↓rcv_ok, ↓nz_ok, ↓nz_no, ↓aI_n, ↓aL_n, ↓aR_n, ↓sI_n, ↓sL_n, ↓sR_n, ↓cl_ok, ↓bz_0, ↓bz_1, hT_wI, hT_wL, hT_wR, hT_wLr, hR_wI, hR_wL, hR_wLr, hI_wL, hI_wR, hI_wLr, hL_wI, hL_wR, nI_add, nI_1, pk_mul, if_lt, if_eq, if_eqL, ie_0, ie_1, il_0, il_1, ir_0, ir_1, ie_m, il_m, bz_b, ib_0, i_10, i_01, i_0m, i_1m, i_m0, i_ml0, b2i_if, bz_i, nI_p1, nl_2, nl_3, nl_4, nl_5, nl_6, nl_7, nl_8, nl_9, nl_10, nl_11, nl_12, nl_13, nl_14, nl_15, nl_16, nl_17, nl_18, nl_19, nl_20, nl_21, nl_22, nl_23, nl_24, nl_25, nl_26, nl_27, nl_28, nl_29, nl_30, nl_31, nl_32, nl_33, nl_34, nl_35, nl_36, nl_37, nl_38, nl_39, nl_40, nl_41, nl_42, nl_43, nl_44, nl_45, nl_46, nl_47, nl_48, nl_49, nl_50, nl_51, nl_52, nl_53, nl_54, nl_55, nl_56, nl_57, nl_58, nl_59, nl_60, nl_61, nl_62, nl_63, nl_64, nl_100, nl_480, nl_1020, nl_3000, j_tk, j_pt]
  all_goals first | exact w_nil mv | exact w_push (k := 0) lm mv (by omega) (by decide) | exact w_push (k := 1) lm mv (by omega) (by decide) | exact w_push (k := 2) lm mv (by omega) (by decide) | exact w_push (k := 3) lm mv (by omega) (by decide) | exact w_push (k := 4) lm mv (by omega) (by decide) | skip
  all_goals trace_state
  all_goals sorry
end ME
