/-! the model: works -/
section ME
variable {q : Nat} {P : Pg} {σ l : Nat → Nat}
theorem n29a : ¬ F29 0 ∧ ¬ F29 15 ∧ ¬ F29 17 := ⟨by unfold F29; omega, by unfold F29; omega, by unfold F29; omega⟩
theorem PM.f0 {h g : Hp} (pm : PM h q P) (f : Fq q F29 A0 h g) : PM g q P := pm.fq f (fun _ _ _ z => z) n29a
theorem ws_loop {b : Nat} (hb : b ≤ 3) : ∀ (n k d : Nat) (h : Hp), k ≤ b → b - k < n → LM (hT h) (hR h) q → Mv h q d σ l → wfS d σ → d ≤ 14 → Ok (BX12_works_361 n (some q) (nI b) 1 (nI k) h) (WkR q h σ l (List.replicate (b - k) 0) 4 d) := by
  intro n
  induction n with
  | zero => intro k d h h1 h2; omega
  | succ n ih =>
    intro k d h h1 h2 lm mv w hd
    have t0 : hT h q = some (.inl 11) := lm.1
    unfold BX12_works_361
    rw [if_lt (by omega) (by omega)]
    by_cases c : k < b
    · rw [if_pos c, if_neg (by decide), rcv_ok t0, show b - k = (b - (k + 1)) + 1 by omega, List.replicate_succ]
      refine w_seq (k := 0) lm mv w (by decide) (fun g hle mg wg lg fg => ?_) (fun g d' hd' mg lg fg => ?_)
      · rw [nI_1]
        exact ih (k + 1) _ g (by omega) (by omega) lg mg wg (by omega)
      · obtain ⟨n', rfl⟩ : ∃ n', n = n' + 1 := ⟨n - 1, by omega⟩
        have t0g : hT g q = some (.inl 11) := lg.1
        have z : Ok (BX12_works_386 (some q) 0 g) (RZ q g) := by
          unfold BX12_works_386
          rw [rcv_ok t0g]
          exact z_push (k := 4) lg mg (by omega) (by decide)
        unfold BX12_works_361
        rw [if_pos rfl]
        split <;> exact z
    · unfold BX12_works_386
      rw [if_neg c, show b - k = 0 by omega, rcv_ok t0]
      exact w_push (k := 4) lm mv hd (by decide)
theorem wa_loop (w8 : PW P) {c : Nat} (hc : c < p_nm P) : ∀ (n k d : Nat) (h : Hp), k ≤ p_na P c → k < n → LM (hT h) (hR h) q → PM h q P → Mv h q d σ l → wfS d σ → d ≤ 14 → Ok (BX12_works_523 (n + 1) (some q) (nI c) 1 (nI k - 1) h) (WkR q h σ l (argL P c k) (p_re P c) d) := by
  intro n
  induction n with
  | zero => intro k d h h1 h2; omega
  | succ n ih =>
    intro k d h h1 h2 lm pm mv w hd
    have t0 : hT h q = some (.inl 11) := lm.1
    have r4 : hR h q 4 = some (q + 4) := by obtain ⟨mt0, ⟨mr1, mt1⟩, ⟨mr2, mt2⟩, ⟨mr3, mt3⟩, ⟨mr4, mt4⟩, ⟨mr5, mt5⟩, ⟨mr6, mt6⟩, ⟨mr7, mt7⟩, ⟨mr8, mt8⟩, ⟨mr9, mt9⟩, ⟨mr10, mt10⟩, ⟨mr11, mt11⟩, ⟨mr12, mt12⟩, ⟨mr13, mt13⟩, ⟨mr14, mt14⟩, ⟨mr15, mt15⟩, ⟨mr16, mt16⟩, ⟨mr17, mt17⟩, ⟨mr18, mt18⟩, ⟨mr19, mt19⟩, ⟨mr20, mt20⟩, ⟨mr21, mt21⟩, ⟨mr22, mt22⟩, ⟨mr23, mt23⟩, ⟨mr24, mt24⟩, ⟨mr25, mt25⟩, ⟨mr26, mt26⟩, ⟨mr27, mt27⟩, ⟨mr28, mt28⟩, ⟨mr29, mt29⟩, ⟨mr30, mt30⟩, ⟨mr31, mt31⟩, ⟨mr32, mt32⟩, ⟨mr33, mt33⟩, ⟨mr34, mt34⟩, ⟨mr35, mt35⟩, ⟨mr36, mt36⟩, ⟨mr37, mt37⟩, ⟨mr38, mt38⟩, ⟨mr39, mt39⟩, ⟨mr40, mt40⟩, ⟨mr41, mt41⟩, ⟨mr42, mt42⟩, ⟨mr43, mt43⟩⟩ := id lm; exact mr4
    have t4 : hT h (q + 4) = some (.inr (.int, 64)) := by obtain ⟨mt0, ⟨mr1, mt1⟩, ⟨mr2, mt2⟩, ⟨mr3, mt3⟩, ⟨mr4, mt4⟩, ⟨mr5, mt5⟩, ⟨mr6, mt6⟩, ⟨mr7, mt7⟩, ⟨mr8, mt8⟩, ⟨mr9, mt9⟩, ⟨mr10, mt10⟩, ⟨mr11, mt11⟩, ⟨mr12, mt12⟩, ⟨mr13, mt13⟩, ⟨mr14, mt14⟩, ⟨mr15, mt15⟩, ⟨mr16, mt16⟩, ⟨mr17, mt17⟩, ⟨mr18, mt18⟩, ⟨mr19, mt19⟩, ⟨mr20, mt20⟩, ⟨mr21, mt21⟩, ⟨mr22, mt22⟩, ⟨mr23, mt23⟩, ⟨mr24, mt24⟩, ⟨mr25, mt25⟩, ⟨mr26, mt26⟩, ⟨mr27, mt27⟩, ⟨mr28, mt28⟩, ⟨mr29, mt29⟩, ⟨mr30, mt30⟩, ⟨mr31, mt31⟩, ⟨mr32, mt32⟩, ⟨mr33, mt33⟩, ⟨mr34, mt34⟩, ⟨mr35, mt35⟩, ⟨mr36, mt36⟩, ⟨mr37, mt37⟩, ⟨mr38, mt38⟩, ⟨mr39, mt39⟩, ⟨mr40, mt40⟩, ⟨mr41, mt41⟩, ⟨mr42, mt42⟩, ⟨mr43, mt43⟩⟩ := id lm; exact mt4
    have pmm := pm.2.1 c hc
    have wm := w8.2.2.2.1 c hc
    have hn8 := w8.1
    have hre := wm.1
    have hna := wm.2.1
    have fin : ∀ (g : Hp) (d' : Nat), LM (hT g) (hR g) q → PM g q P → Mv g q d' σ l → d' ≤ 14 → Ok (BX12_works_557 (some q) (nI c) 1 g) (WkR q g σ l [] (p_re P c) d') ∧ Ok (BX12_works_557 (some q) (nI c) 0 g) (RZ q g) := by
      intro g d' lg pg mg hd'
      have t0 : hT g q = some (.inl 11) := lg.1
      have lm := lg
      have r1 : hR g q 1 = some (q + 1) := by obtain ⟨mt0, ⟨mr1, mt1⟩, ⟨mr2, mt2⟩, ⟨mr3, mt3⟩, ⟨mr4, mt4⟩, ⟨mr5, mt5⟩, ⟨mr6, mt6⟩, ⟨mr7, mt7⟩, ⟨mr8, mt8⟩, ⟨mr9, mt9⟩, ⟨mr10, mt10⟩, ⟨mr11, mt11⟩, ⟨mr12, mt12⟩, ⟨mr13, mt13⟩, ⟨mr14, mt14⟩, ⟨mr15, mt15⟩, ⟨mr16, mt16⟩, ⟨mr17, mt17⟩, ⟨mr18, mt18⟩, ⟨mr19, mt19⟩, ⟨mr20, mt20⟩, ⟨mr21, mt21⟩, ⟨mr22, mt22⟩, ⟨mr23, mt23⟩, ⟨mr24, mt24⟩, ⟨mr25, mt25⟩, ⟨mr26, mt26⟩, ⟨mr27, mt27⟩, ⟨mr28, mt28⟩, ⟨mr29, mt29⟩, ⟨mr30, mt30⟩, ⟨mr31, mt31⟩, ⟨mr32, mt32⟩, ⟨mr33, mt33⟩, ⟨mr34, mt34⟩, ⟨mr35, mt35⟩, ⟨mr36, mt36⟩, ⟨mr37, mt37⟩, ⟨mr38, mt38⟩, ⟨mr39, mt39⟩, ⟨mr40, mt40⟩, ⟨mr41, mt41⟩, ⟨mr42, mt42⟩, ⟨mr43, mt43⟩⟩ := id lm; exact mr1
      have t1 : hT g (q + 1) = some (.inr (.int, 8)) := by obtain ⟨mt0, ⟨mr1, mt1⟩, ⟨mr2, mt2⟩, ⟨mr3, mt3⟩, ⟨mr4, mt4⟩, ⟨mr5, mt5⟩, ⟨mr6, mt6⟩, ⟨mr7, mt7⟩, ⟨mr8, mt8⟩, ⟨mr9, mt9⟩, ⟨mr10, mt10⟩, ⟨mr11, mt11⟩, ⟨mr12, mt12⟩, ⟨mr13, mt13⟩, ⟨mr14, mt14⟩, ⟨mr15, mt15⟩, ⟨mr16, mt16⟩, ⟨mr17, mt17⟩, ⟨mr18, mt18⟩, ⟨mr19, mt19⟩, ⟨mr20, mt20⟩, ⟨mr21, mt21⟩, ⟨mr22, mt22⟩, ⟨mr23, mt23⟩, ⟨mr24, mt24⟩, ⟨mr25, mt25⟩, ⟨mr26, mt26⟩, ⟨mr27, mt27⟩, ⟨mr28, mt28⟩, ⟨mr29, mt29⟩, ⟨mr30, mt30⟩, ⟨mr31, mt31⟩, ⟨mr32, mt32⟩, ⟨mr33, mt33⟩, ⟨mr34, mt34⟩, ⟨mr35, mt35⟩, ⟨mr36, mt36⟩, ⟨mr37, mt37⟩, ⟨mr38, mt38⟩, ⟨mr39, mt39⟩, ⟨mr40, mt40⟩, ⟨mr41, mt41⟩, ⟨mr42, mt42⟩, ⟨mr43, mt43⟩⟩ := id lm; exact mt1
      have e1 := (pg.2.1 c hc).1.1
      by_cases z : p_re P c < 5
      · constructor
        · unfold BX12_works_557
          rw [gR_ok t0, r1, aI_n t1 (by omega) (by decide), e1, nl_5, if_lt (by omega) (by decide), if_pos z, gR_ok t0, r1, aI_n t1 (by omega) (by decide), e1, rcv_ok t0]
          exact w_push lg mg hd' z
        · unfold BX12_works_557
          rw [gR_ok t0, r1, aI_n t1 (by omega) (by decide), e1, nl_5, if_lt (by omega) (by decide), if_pos z, gR_ok t0, r1, aI_n t1 (by omega) (by decide), e1, rcv_ok t0]
          exact z_push lg mg hd' z
      · have z5 : p_re P c = 5 := by omega
        constructor
        · unfold BX12_works_557
          rw [gR_ok t0, r1, aI_n t1 (by omega) (by decide), e1, nl_5, if_lt (by omega) (by decide), if_neg z, bz_1, z5]
          exact w_nil mg
        · unfold BX12_works_557
          rw [gR_ok t0, r1, aI_n t1 (by omega) (by decide), e1, nl_5, if_lt (by omega) (by decide), if_neg z, bz_0]
          exact z_nil
    unfold BX12_works_523
    cases k with
    | zero =>
      rw [if_pos (show nI 0 - 1 < 0 by decide)]
      exact (fin h d lm pm mv hd).1
    | succ k =>
      have ek := pmm.2.1 k (by omega)
      have hk5 := wm.2.2.2.2.2.2.1 k (by omega)
      have e3 : nI k + -1 = nI k - 1 := by rw [Int32.sub_eq_add_neg]
      rw [nI_pred, if_neg (nI_pos (by omega)), if_neg (by decide), gR_ok t0, r4, nl_8, pk_mul, nI_add, aI_n t4 (by omega) (by decide), ek, rcv_ok t0, e3]
      rw [argL]
      refine w_seq lm mv w hk5 (fun g hle mg wg lg fg => ?_) (fun g d' hd' mg lg fg => ?_)
      · exact ih k _ g (by omega) (by omega) lg (pm.f0 fg) mg wg (by omega)
      · obtain ⟨n', rfl⟩ : ∃ n', n = n' + 1 := ⟨n - 1, by omega⟩
        have f2 := (fin g d' lg (pm.f0 fg) mg (by omega)).2
        unfold BX12_works_523
        rw [if_pos rfl]
        split <;> exact f2
variable {h : Hp} {d : Nat}
theorem w_p1 (lm : LM (hT h) (hR h) q) (mv : Mv h q d σ l) (w : wfS d σ) {k : Nat} (hk : k < 5) : Ok (cl (FX12_pop (some q) (nI k) h) (fun v g => bz v (some (v, g)))) (WkR q h σ l [k] 5 d) :=
  w_seq lm mv w hk (fun g hle mg wg lg fg => w_nil mg) (fun g d' hd' mg lg fg => z_nil)
theorem w_pp (lm : LM (hT h) (hR h) q) (mv : Mv h q d σ l) (w : wfS d σ) (hd : d ≤ 14) {k p : Nat} (hk : k < 5) (hp : p < 5) : Ok (cl (FX12_pop (some q) (nI k) h) (fun v g => rcv g (some q) 11 <| cl (FX12_push (some q) (nI p) g) (fun _ g2 => bz v (some (v, g2))))) (WkR q h σ l [k] p d) := by
  refine w_seq lm mv w hk (fun g hle mg wg lg fg => ?_) (fun g d' hd' mg lg fg => ?_)
  · rw [rcv_ok lg.1]; exact w_push lg mg (by omega) hp
  · rw [rcv_ok lg.1]; exact z_push lg mg (by omega) hp
theorem z_249 (lm : LM (hT h) (hR h) q) (mv : Mv h q d σ l) (hd : d ≤ 14) {k : Nat} (hk : k < 5) : Ok (BX12_works_248 (some q) (nI k) h) (RZ q h) := by
  unfold BX12_works_248 BX12_works_249
  rw [rcv_ok lm.1]; exact z_push lm mv hd hk
theorem w_223 (lm : LM (hT h) (hR h) q) (mv : Mv h q d σ l) (w : wfS d σ) (hd : d ≤ 14) {k : Nat} (hk : k < 5) : Ok (BX12_works_223 (some q) (nI k) h) (WkR q h σ l [k] k d) := by
  unfold BX12_works_223 BX12_works_228
  rw [if_neg (by decide), rcv_ok lm.1]
  refine w_seq lm mv w hk (fun g hle mg wg lg fg => ?_) (fun g d' hd' mg lg fg => ?_)
  · rw [if_neg (by decide)]
    unfold BX12_works_249
    rw [rcv_ok lg.1]; exact w_push lg mg (by omega) hk
  · rw [if_pos rfl]; exact z_249 lg mg (by omega) hk
theorem w_217 (lm : LM (hT h) (hR h) q) (mv : Mv h q d σ l) (w : wfS d σ) (hd : d ≤ 14) {j k : Nat} (hj : j < 5) (hk : k < 5) : Ok (BX12_works_217 (some q) (nI k) (some q) (nI j) h) (WkR q h σ l [j, k] k d) := by
  unfold BX12_works_217
  rw [rcv_ok lm.1]
  refine w_seq lm mv w hj (fun g hle mg wg lg fg => ?_) (fun g d' hd' mg lg fg => ?_)
  · rw [if_neg (by decide)]
    exact w_223 lg mg wg (by omega) hk
  · rw [if_pos rfl]
    unfold BX12_works_228
    rw [if_pos rfl]; exact z_249 lg mg (by omega) hk
theorem w_271 (lm : LM (hT h) (hR h) q) (mv : Mv h q d σ l) (w : wfS d σ) (hd : d ≤ 14) {a j : Nat} (ha : a < 5) (hj : j < 5) : Ok (BX12_works_271 (some q) (nI a) (some q) (nI j) h) (WkR q h σ l [j] (if a = 4 then 1 else 0) d) := by
  unfold BX12_works_271 BX12_works_287
  have e : ∀ (v : Int32) (g : Hp), (if nI a = 4 then rcv g (some q) 11 <| cl (FX12_push (some q) 1 g) fun _ h2 => bz v (some (v, h2)) else rcv g (some q) 11 <| cl (FX12_push (some q) 0 g) fun _ h2 => bz v (some (v, h2))) = rcv g (some q) 11 (cl (FX12_push (some q) (nI (if a = 4 then 1 else 0)) g) fun _ h2 => bz v (some (v, h2))) := by
    intro v g
    rw [nl_4, if_eq (by omega) (by decide)]
    by_cases c : a = 4
    · rw [if_pos c, if_pos c]; rfl
    · rw [if_neg c, if_neg c]; rfl
  simp only [e]
  rw [rcv_ok lm.1]
  exact w_pp lm mv w hd hj (by split <;> omega)
theorem w_311 (lm : LM (hT h) (hR h) q) (mv : Mv h q d σ l) (w : wfS d σ) (hd : d ≤ 14) {k : Nat} (hk : k < 5) : Ok (BX12_works_311 (some q) (nI k) h) (WkR q h σ l [k, k] 0 d) := by
  have z : ∀ {g : Hp} {d' : Nat}, LM (hT g) (hR g) q → Mv g q d' σ l → d' ≤ 14 → Ok (BX12_works_335 (some q) g) (RZ q g) := by
    intro g d' lg mg hd'
    unfold BX12_works_335 BX12_works_336
    rw [rcv_ok lg.1]; exact z_push (k := 0) lg mg hd' (by decide)
  unfold BX12_works_311
  rw [rcv_ok lm.1]
  refine w_seq lm mv w hk (fun g hle mg wg lg fg => ?_) (fun g d' hd' mg lg fg => ?_)
  · rw [if_neg (by decide), rcv_ok lg.1]
    refine w_seq lg mg wg hk (fun g2 hle2 mg2 wg2 lg2 fg2 => ?_) (fun g2 d2 hd2 mg2 lg2 fg2 => ?_)
    · rw [if_neg (by decide)]
      unfold BX12_works_336
      rw [rcv_ok lg2.1]; exact w_push (k := 0) lg2 mg2 (by omega) (by decide)
    · rw [if_pos rfl]; exact z lg2 mg2 (by omega)
  · rw [if_pos rfl]; exact z lg mg (by omega)
theorem kcl_b {b : Nat} : kcl b < 5 := by unfold kcl; split <;> omega
theorem wk_0 (lm : LM (hT h) (hR h) q) (pm : PM h q P) (pw : PW P) (mv : Mv h q d σ l) (w : wfS d σ) (hd : d ≤ 12) {a b s0 : Int32} (hod : j_od P 0 a b = true) : Ok (BX12_works_15 (some q) (nI 0) a b 1 s0 h) (WkR q h σ l (j_tk P 0 (cN a) (cN b)) (j_pt P 0 (cN a) (cN b)) d) := by
  unfold BX12_works_15
  rw [if_pos (by decide)]
  unfold BX12_works_176
  rw [rcv_ok lm.1]
  exact w_push (k := 0) lm mv (by omega) (by decide)
theorem wk_1 (lm : LM (hT h) (hR h) q) (pm : PM h q P) (pw : PW P) (mv : Mv h q d σ l) (w : wfS d σ) (hd : d ≤ 12) {a b s0 : Int32} (hod : j_od P 1 a b = true) : Ok (BX12_works_15 (some q) (nI 1) a b 1 s0 h) (WkR q h σ l (j_tk P 1 (cN a) (cN b)) (j_pt P 1 (cN a) (cN b)) d) := by
  unfold BX12_works_15
  rw [if_neg (by decide), if_pos (by decide)]
  unfold BX12_works_176
  rw [rcv_ok lm.1]
  exact w_push (k := 1) lm mv (by omega) (by decide)
theorem wk_2 (lm : LM (hT h) (hR h) q) (pm : PM h q P) (pw : PW P) (mv : Mv h q d σ l) (w : wfS d σ) (hd : d ≤ 12) {a b s0 : Int32} (hod : j_od P 2 a b = true) : Ok (BX12_works_15 (some q) (nI 2) a b 1 s0 h) (WkR q h σ l (j_tk P 2 (cN a) (cN b)) (j_pt P 2 (cN a) (cN b)) d) := by
  unfold BX12_works_15
  rw [if_neg (by decide), if_neg (by decide), if_pos (by decide)]
  unfold BX12_works_176
  rw [rcv_ok lm.1]
  exact w_push (k := 2) lm mv (by omega) (by decide)
theorem wk_3 (lm : LM (hT h) (hR h) q) (pm : PM h q P) (pw : PW P) (mv : Mv h q d σ l) (w : wfS d σ) (hd : d ≤ 12) {a b s0 : Int32} (hod : j_od P 3 a b = true) : Ok (BX12_works_15 (some q) (nI 3) a b 1 s0 h) (WkR q h σ l (j_tk P 3 (cN a) (cN b)) (j_pt P 3 (cN a) (cN b)) d) := by
  unfold BX12_works_15
  rw [if_neg (by decide), if_neg (by decide), if_neg (by decide), if_pos (by decide)]
  unfold BX12_works_176
  rw [rcv_ok lm.1]
  exact w_push (k := 3) lm mv (by omega) (by decide)
theorem wk_4 (lm : LM (hT h) (hR h) q) (pm : PM h q P) (pw : PW P) (mv : Mv h q d σ l) (w : wfS d σ) (hd : d ≤ 12) {a b s0 : Int32} (hod : j_od P 4 a b = true) : Ok (BX12_works_15 (some q) (nI 4) a b 1 s0 h) (WkR q h σ l (j_tk P 4 (cN a) (cN b)) (j_pt P 4 (cN a) (cN b)) d) := by
  unfold BX12_works_15
  rw [if_neg (by decide), if_neg (by decide), if_neg (by decide), if_neg (by decide), if_pos (by decide)]
  unfold BX12_works_176
  rw [rcv_ok lm.1]
  exact w_push (k := 4) lm mv (by omega) (by decide)
theorem wk_5 (lm : LM (hT h) (hR h) q) (pm : PM h q P) (pw : PW P) (mv : Mv h q d σ l) (w : wfS d σ) (hd : d ≤ 12) {a b s0 : Int32} (hod : j_od P 5 a b = true) : Ok (BX12_works_15 (some q) (nI 5) a b 1 s0 h) (WkR q h σ l (j_tk P 5 (cN a) (cN b)) (j_pt P 5 (cN a) (cN b)) d) := by
  unfold BX12_works_15
  rw [if_neg (by decide), if_neg (by decide), if_neg (by decide), if_neg (by decide), if_neg (by decide), if_pos (by decide)]
  have hod : (wi b 5 && wi a (17 - wd (cN b))) = true := hod
  rw [Bool.and_eq_true] at hod
  obtain ⟨k, hk, rfl, ek⟩ := wi_ex (n := 5) (by decide) hod.1
  rw [ek]
  rw [rcv_ok lm.1]
  exact w_push lm mv (by omega) hk
theorem wk_6 (lm : LM (hT h) (hR h) q) (pm : PM h q P) (pw : PW P) (mv : Mv h q d σ l) (w : wfS d σ) (hd : d ≤ 12) {a b s0 : Int32} (hod : j_od P 6 a b = true) : Ok (BX12_works_15 (some q) (nI 6) a b 1 s0 h) (WkR q h σ l (j_tk P 6 (cN a) (cN b)) (j_pt P 6 (cN a) (cN b)) d) := by
  unfold BX12_works_15
  rw [if_neg (by decide), if_neg (by decide), if_neg (by decide), if_neg (by decide), if_neg (by decide), if_neg (by decide), if_pos (by decide)]
  have hod : (wi b 5 && wi a (17 - wd (cN b))) = true := hod
  rw [Bool.and_eq_true] at hod
  obtain ⟨k, hk, rfl, ek⟩ := wi_ex (n := 5) (by decide) hod.1
  rw [ek]
  rw [rcv_ok lm.1]
  exact w_p1 lm mv w hk
theorem wk_7 (lm : LM (hT h) (hR h) q) (pm : PM h q P) (pw : PW P) (mv : Mv h q d σ l) (w : wfS d σ) (hd : d ≤ 12) {a b s0 : Int32} (hod : j_od P 7 a b = true) : Ok (BX12_works_15 (some q) (nI 7) a b 1 s0 h) (WkR q h σ l (j_tk P 7 (cN a) (cN b)) (j_pt P 7 (cN a) (cN b)) d) := by
  unfold BX12_works_15
  rw [if_neg (by decide), if_neg (by decide), if_neg (by decide), if_neg (by decide), if_neg (by decide), if_neg (by decide), if_neg (by decide), if_neg (by decide), if_neg (by decide), if_neg (by decide), if_neg (by decide), if_neg (by decide), if_neg (by decide), if_neg (by decide), if_neg (by decide), if_neg (by decide), if_neg (by decide), if_neg (by decide), if_neg (by decide), if_neg (by decide), if_neg (by decide), if_neg (by decide), if_neg (by decide), if_neg (by decide), if_neg (by decide)]
  exact w_nil mv
theorem wk_17 (lm : LM (hT h) (hR h) q) (pm : PM h q P) (pw : PW P) (mv : Mv h q d σ l) (w : wfS d σ) (hd : d ≤ 12) {a b s0 : Int32} (hod : j_od P 17 a b = true) : Ok (BX12_works_15 (some q) (nI 17) a b 1 s0 h) (WkR q h σ l (j_tk P 17 (cN a) (cN b)) (j_pt P 17 (cN a) (cN b)) d) := by
  unfold BX12_works_15
  rw [if_neg (by decide), if_neg (by decide), if_neg (by decide), if_neg (by decide), if_neg (by decide), if_neg (by decide), if_neg (by decide), if_pos (by decide)]
  have hod : (wi a 12 && wi b 2) = true := hod
  rw [Bool.and_eq_true] at hod
  obtain ⟨k, hk, rfl, ek⟩ := wi_ex (n := 2) (by decide) hod.2
  obtain ⟨j, hj, rfl, ej⟩ := wi_ex (n := 12) (by decide) hod.1
  rw [ek, ej, nl_11, nl_8, if_eq (by omega) (by decide), if_lt (by omega) (by decide)]
  show Ok _ (WkR q h σ l (if j < 8 then [k, k] else if j = 11 then [k] else [0, k]) k d)
  by_cases c : j = 11
  · rw [if_pos c, if_neg (by omega), if_pos c]; exact w_223 lm mv w (by omega) (by omega)
  · rw [if_neg c]
    by_cases c8 : j < 8
    · rw [if_pos c8, if_pos c8]; exact w_217 lm mv w (by omega) (by omega) (by omega)
    · rw [if_neg c8, if_neg c8, if_neg c]; exact w_217 (j := 0) lm mv w (by omega) (by omega) (by omega)
theorem wk_18 (lm : LM (hT h) (hR h) q) (pm : PM h q P) (pw : PW P) (mv : Mv h q d σ l) (w : wfS d σ) (hd : d ≤ 12) {a b s0 : Int32} (hod : j_od P 18 a b = true) : Ok (BX12_works_15 (some q) (nI 18) a b 1 s0 h) (WkR q h σ l (j_tk P 18 (cN a) (cN b)) (j_pt P 18 (cN a) (cN b)) d) := by
  unfold BX12_works_15
  rw [if_neg (by decide), if_neg (by decide), if_neg (by decide), if_neg (by decide), if_neg (by decide), if_neg (by decide), if_neg (by decide), if_neg (by decide), if_pos (by decide)]
  obtain ⟨j, hj, rfl, ej⟩ := wi_ex (n := 5) (by decide) hod
  rw [ej, nl_3, if_eq (by omega) (by decide)]
  show Ok _ (WkR q h σ l [if j = 3 then 1 else 0] (if j = 4 then 1 else 0) d)
  by_cases c : j = 3
  · rw [if_pos c, if_pos c]; exact w_271 (j := 1) lm mv w (by omega) hj (by omega)
  · rw [if_neg c, if_neg c]; exact w_271 (j := 0) lm mv w (by omega) hj (by omega)
theorem wk_19 (lm : LM (hT h) (hR h) q) (pm : PM h q P) (pw : PW P) (mv : Mv h q d σ l) (w : wfS d σ) (hd : d ≤ 12) {a b s0 : Int32} (hod : j_od P 19 a b = true) : Ok (BX12_works_15 (some q) (nI 19) a b 1 s0 h) (WkR q h σ l (j_tk P 19 (cN a) (cN b)) (j_pt P 19 (cN a) (cN b)) d) := by
  unfold BX12_works_15
  rw [if_neg (by decide), if_neg (by decide), if_neg (by decide), if_neg (by decide), if_neg (by decide), if_neg (by decide), if_neg (by decide), if_neg (by decide), if_neg (by decide), if_pos (by decide)]
  obtain ⟨j, hj, rfl, ej⟩ := wi_ex (n := 5) (by decide) hod
  rw [ej, ie_0 (by omega), nl_3, if_lt (by omega) (by decide)]
  show Ok _ (WkR q h σ l [kcm j, kcm j] 0 d)
  unfold kcm
  by_cases c : j = 0
  · rw [if_pos c, if_pos c]; exact w_311 (k := 1) lm mv w (by omega) (by omega)
  · rw [if_neg c, if_neg c]
    by_cases c8 : j < 3
    · rw [if_pos c8, if_pos (by omega)]; exact w_311 (k := 2) lm mv w (by omega) (by omega)
    · rw [if_neg c8, if_neg (by omega)]; exact w_311 (k := 3) lm mv w (by omega) (by omega)
theorem wk_20 (lm : LM (hT h) (hR h) q) (pm : PM h q P) (pw : PW P) (mv : Mv h q d σ l) (w : wfS d σ) (hd : d ≤ 12) {a b s0 : Int32} (hod : j_od P 20 a b = true) : Ok (BX12_works_15 (some q) (nI 20) a b 1 s0 h) (WkR q h σ l (j_tk P 20 (cN a) (cN b)) (j_pt P 20 (cN a) (cN b)) d) := by
  unfold BX12_works_15
  rw [if_neg (by decide), if_neg (by decide), if_neg (by decide), if_neg (by decide), if_neg (by decide), if_neg (by decide), if_neg (by decide), if_neg (by decide), if_neg (by decide), if_neg (by decide), if_neg (by decide), if_neg (by decide), if_neg (by decide), if_neg (by decide), if_neg (by decide), if_neg (by decide), if_neg (by decide), if_neg (by decide), if_neg (by decide), if_neg (by decide), if_neg (by decide), if_neg (by decide), if_neg (by decide), if_neg (by decide), if_neg (by decide)]
  exact w_nil mv
theorem wk_21 (lm : LM (hT h) (hR h) q) (pm : PM h q P) (pw : PW P) (mv : Mv h q d σ l) (w : wfS d σ) (hd : d ≤ 12) {a b s0 : Int32} (hod : j_od P 21 a b = true) : Ok (BX12_works_15 (some q) (nI 21) a b 1 s0 h) (WkR q h σ l (j_tk P 21 (cN a) (cN b)) (j_pt P 21 (cN a) (cN b)) d) := by
  unfold BX12_works_15
  rw [if_neg (by decide), if_neg (by decide), if_neg (by decide), if_neg (by decide), if_neg (by decide), if_neg (by decide), if_neg (by decide), if_neg (by decide), if_neg (by decide), if_neg (by decide), if_pos (by decide)]
  unfold BX12_works_346
  rw [rcv_ok lm.1]
  exact w_p1 (k := 0) lm mv w (by decide)
theorem wk_22 (lm : LM (hT h) (hR h) q) (pm : PM h q P) (pw : PW P) (mv : Mv h q d σ l) (w : wfS d σ) (hd : d ≤ 12) {a b s0 : Int32} (hod : j_od P 22 a b = true) : Ok (BX12_works_15 (some q) (nI 22) a b 1 s0 h) (WkR q h σ l (j_tk P 22 (cN a) (cN b)) (j_pt P 22 (cN a) (cN b)) d) := by
  unfold BX12_works_15
  rw [if_neg (by decide), if_neg (by decide), if_neg (by decide), if_neg (by decide), if_neg (by decide), if_neg (by decide), if_neg (by decide), if_neg (by decide), if_neg (by decide), if_neg (by decide), if_neg (by decide), if_pos (by decide)]
  unfold BX12_works_352
  rw [rcv_ok lm.1]
  exact w_p1 (k := 4) lm mv w (by decide)
theorem wk_23 (lm : LM (hT h) (hR h) q) (pm : PM h q P) (pw : PW P) (mv : Mv h q d σ l) (w : wfS d σ) (hd : d ≤ 12) {a b s0 : Int32} (hod : j_od P 23 a b = true) : Ok (BX12_works_15 (some q) (nI 23) a b 1 s0 h) (WkR q h σ l (j_tk P 23 (cN a) (cN b)) (j_pt P 23 (cN a) (cN b)) d) := by
  unfold BX12_works_15
  rw [if_neg (by decide), if_neg (by decide), if_neg (by decide), if_neg (by decide), if_neg (by decide), if_neg (by decide), if_neg (by decide), if_neg (by decide), if_neg (by decide), if_neg (by decide), if_neg (by decide), if_neg (by decide), if_pos (by decide)]
  unfold BX12_works_346
  rw [rcv_ok lm.1]
  exact w_p1 (k := 0) lm mv w (by decide)
theorem wk_24 (lm : LM (hT h) (hR h) q) (pm : PM h q P) (pw : PW P) (mv : Mv h q d σ l) (w : wfS d σ) (hd : d ≤ 12) {a b s0 : Int32} (hod : j_od P 24 a b = true) : Ok (BX12_works_15 (some q) (nI 24) a b 1 s0 h) (WkR q h σ l (j_tk P 24 (cN a) (cN b)) (j_pt P 24 (cN a) (cN b)) d) := by
  unfold BX12_works_15
  rw [if_neg (by decide), if_neg (by decide), if_neg (by decide), if_neg (by decide), if_neg (by decide), if_neg (by decide), if_neg (by decide), if_neg (by decide), if_neg (by decide), if_neg (by decide), if_neg (by decide), if_neg (by decide), if_neg (by decide), if_pos (by decide)]
  have hod : (ity a && decide (1 ≤ b.toInt ∧ b.toInt ≤ a.toInt / 8)) = true := hod
  rw [Bool.and_eq_true] at hod
  have h1 := of_decide_eq_true hod.1
  have h2 := of_decide_eq_true hod.2
  obtain ⟨k, hk, rfl⟩ := nI_lt_of (x := b) (n := 4) (by decide) (by omega) (by omega)
  rw [cN_n (by omega), nI_c0]
  exact ws_loop (by omega) 100000 0 d h (by omega) (by omega) lm mv w (by omega)
theorem wk_25 (lm : LM (hT h) (hR h) q) (pm : PM h q P) (pw : PW P) (mv : Mv h q d σ l) (w : wfS d σ) (hd : d ≤ 12) {a b s0 : Int32} (hod : j_od P 25 a b = true) (hs : 25 ≤ 26 → s0 = nI (kcl (cN b))) : Ok (BX12_works_15 (some q) (nI 25) a b 1 s0 h) (WkR q h σ l (j_tk P 25 (cN a) (cN b)) (j_pt P 25 (cN a) (cN b)) d) := by
  unfold BX12_works_15
  rw [if_neg (by decide), if_neg (by decide), if_neg (by decide), if_neg (by decide), if_neg (by decide), if_neg (by decide), if_neg (by decide), if_neg (by decide), if_neg (by decide), if_neg (by decide), if_neg (by decide), if_neg (by decide), if_neg (by decide), if_neg (by decide), if_pos (by decide)]
  have hs := hs (by decide)
  subst hs
  have z : ∀ {g : Hp} {d' : Nat}, LM (hT g) (hR g) q → Mv g q d' σ l → d' ≤ 14 → Ok (BX12_works_414 (some q) (nI (kcl (cN b))) g) (RZ q g) := by
    intro g d' lg mg hd'
    unfold BX12_works_414 BX12_works_415
    rw [rcv_ok lg.1]; exact z_push lg mg hd' kcl_b
  rw [rcv_ok lm.1]
  refine w_seq (k := 0) lm mv w (by decide) (fun g hle mg wg lg fg => ?_) (fun g d' hd' mg lg fg => ?_)
  · rw [if_neg (by decide), rcv_ok lg.1]
    refine w_seq (k := 4) lg mg wg (by decide) (fun g2 hle2 mg2 wg2 lg2 fg2 => ?_) (fun g2 d2 hd2 mg2 lg2 fg2 => ?_)
    · rw [if_neg (by decide)]
      unfold BX12_works_415
      rw [rcv_ok lg2.1]; exact w_push lg2 mg2 (by omega) kcl_b
    · rw [if_pos rfl]; exact z lg2 mg2 (by omega)
  · rw [if_pos rfl]; exact z lg mg (by omega)
theorem wk_26 (lm : LM (hT h) (hR h) q) (pm : PM h q P) (pw : PW P) (mv : Mv h q d σ l) (w : wfS d σ) (hd : d ≤ 12) {a b s0 : Int32} (hod : j_od P 26 a b = true) (hs : 25 ≤ 26 → s0 = nI (kcl (cN b))) : Ok (BX12_works_15 (some q) (nI 26) a b 1 s0 h) (WkR q h σ l (j_tk P 26 (cN a) (cN b)) (j_pt P 26 (cN a) (cN b)) d) := by
  unfold BX12_works_15
  rw [if_neg (by decide), if_neg (by decide), if_neg (by decide), if_neg (by decide), if_neg (by decide), if_neg (by decide), if_neg (by decide), if_neg (by decide), if_neg (by decide), if_neg (by decide), if_neg (by decide), if_neg (by decide), if_neg (by decide), if_neg (by decide), if_neg (by decide), if_pos (by decide)]
  have hs := hs (by decide)
  subst hs
  rw [rcv_ok lm.1]
  refine w_seq lm mv w kcl_b (fun g hle mg wg lg fg => ?_) (fun g d' hd' mg lg fg => ?_)
  · rw [if_neg (by decide), rcv_ok lg.1]
    refine w_seq (k := 0) lg mg wg (by decide) (fun g2 hle2 mg2 wg2 lg2 fg2 => ?_) (fun g2 d2 hd2 mg2 lg2 fg2 => ?_)
    · rw [if_neg (by decide), rcv_ok lg2.1]
      refine w_seq (k := 4) lg2 mg2 wg2 (by decide) (fun g3 hle3 mg3 wg3 lg3 fg3 => ?_) (fun g3 d3 hd3 mg3 lg3 fg3 => ?_)
      · rw [if_neg (by decide)]; exact w_nil mg3
      · rw [if_pos rfl]; exact z_nil
    · rw [if_pos rfl]; exact z_nil
  · rw [if_pos rfl]; exact z_nil
theorem wk_27 (lm : LM (hT h) (hR h) q) (pm : PM h q P) (pw : PW P) (mv : Mv h q d σ l) (w : wfS d σ) (hd : d ≤ 12) {a b s0 : Int32} (hod : j_od P 27 a b = true) : Ok (BX12_works_15 (some q) (nI 27) a b 1 s0 h) (WkR q h σ l (j_tk P 27 (cN a) (cN b)) (j_pt P 27 (cN a) (cN b)) d) := by
  unfold BX12_works_15
  rw [if_neg (by decide), if_neg (by decide), if_neg (by decide), if_neg (by decide), if_neg (by decide), if_neg (by decide), if_neg (by decide), if_neg (by decide), if_neg (by decide), if_neg (by decide), if_neg (by decide), if_neg (by decide), if_neg (by decide), if_neg (by decide), if_neg (by decide), if_neg (by decide), if_pos (by decide)]
  unfold BX12_works_457
  rw [rcv_ok lm.1]
  exact w_pp (k := 4) (p := 0) lm mv w (by omega) (by decide) (by decide)
theorem wk_28 (lm : LM (hT h) (hR h) q) (pm : PM h q P) (pw : PW P) (mv : Mv h q d σ l) (w : wfS d σ) (hd : d ≤ 12) {a b s0 : Int32} (hod : j_od P 28 a b = true) : Ok (BX12_works_15 (some q) (nI 28) a b 1 s0 h) (WkR q h σ l (j_tk P 28 (cN a) (cN b)) (j_pt P 28 (cN a) (cN b)) d) := by
  unfold BX12_works_15
  rw [if_neg (by decide), if_neg (by decide), if_neg (by decide), if_neg (by decide), if_neg (by decide), if_neg (by decide), if_neg (by decide), if_neg (by decide), if_neg (by decide), if_neg (by decide), if_neg (by decide), if_neg (by decide), if_neg (by decide), if_neg (by decide), if_neg (by decide), if_neg (by decide), if_neg (by decide), if_pos (by decide)]
  unfold BX12_works_457
  rw [rcv_ok lm.1]
  exact w_pp (k := 4) (p := 0) lm mv w (by omega) (by decide) (by decide)
theorem wk_29 (lm : LM (hT h) (hR h) q) (pm : PM h q P) (pw : PW P) (mv : Mv h q d σ l) (w : wfS d σ) (hd : d ≤ 12) {a b s0 : Int32} (hod : j_od P 29 a b = true) : Ok (BX12_works_15 (some q) (nI 29) a b 1 s0 h) (WkR q h σ l (j_tk P 29 (cN a) (cN b)) (j_pt P 29 (cN a) (cN b)) d) := by
  unfold BX12_works_15
  rw [if_neg (by decide), if_neg (by decide), if_neg (by decide), if_neg (by decide), if_neg (by decide), if_neg (by decide), if_neg (by decide), if_neg (by decide), if_neg (by decide), if_neg (by decide), if_neg (by decide), if_neg (by decide), if_neg (by decide), if_neg (by decide), if_neg (by decide), if_neg (by decide), if_neg (by decide), if_neg (by decide), if_pos (by decide)]
  rw [rcv_ok lm.1]
  exact w_pp (k := 4) (p := 4) lm mv w (by omega) (by decide) (by decide)
theorem wk_30 (lm : LM (hT h) (hR h) q) (pm : PM h q P) (pw : PW P) (mv : Mv h q d σ l) (w : wfS d σ) (hd : d ≤ 12) {a b s0 : Int32} (hod : j_od P 30 a b = true) : Ok (BX12_works_15 (some q) (nI 30) a b 1 s0 h) (WkR q h σ l (j_tk P 30 (cN a) (cN b)) (j_pt P 30 (cN a) (cN b)) d) := by
  unfold BX12_works_15
  rw [if_neg (by decide), if_neg (by decide), if_neg (by decide), if_neg (by decide), if_neg (by decide), if_neg (by decide), if_neg (by decide), if_neg (by decide), if_neg (by decide), if_neg (by decide), if_neg (by decide), if_neg (by decide), if_neg (by decide), if_neg (by decide), if_neg (by decide), if_neg (by decide), if_neg (by decide), if_neg (by decide), if_neg (by decide), if_pos (by decide)]
  rw [rcv_ok lm.1]
  exact w_push (k := 4) lm mv (by omega) (by decide)
theorem wk_31 (lm : LM (hT h) (hR h) q) (pm : PM h q P) (pw : PW P) (mv : Mv h q d σ l) (w : wfS d σ) (hd : d ≤ 12) {a b s0 : Int32} (hod : j_od P 31 a b = true) : Ok (BX12_works_15 (some q) (nI 31) a b 1 s0 h) (WkR q h σ l (j_tk P 31 (cN a) (cN b)) (j_pt P 31 (cN a) (cN b)) d) := by
  unfold BX12_works_15
  rw [if_neg (by decide), if_neg (by decide), if_neg (by decide), if_neg (by decide), if_neg (by decide), if_neg (by decide), if_neg (by decide), if_neg (by decide), if_neg (by decide), if_neg (by decide), if_neg (by decide), if_neg (by decide), if_neg (by decide), if_neg (by decide), if_neg (by decide), if_neg (by decide), if_neg (by decide), if_neg (by decide), if_neg (by decide), if_neg (by decide), if_pos (by decide)]
  unfold BX12_works_352
  rw [rcv_ok lm.1]
  exact w_p1 (k := 4) lm mv w (by decide)
theorem wk_32 (lm : LM (hT h) (hR h) q) (pm : PM h q P) (pw : PW P) (mv : Mv h q d σ l) (w : wfS d σ) (hd : d ≤ 12) {a b s0 : Int32} (hod : j_od P 32 a b = true) : Ok (BX12_works_15 (some q) (nI 32) a b 1 s0 h) (WkR q h σ l (j_tk P 32 (cN a) (cN b)) (j_pt P 32 (cN a) (cN b)) d) := by
  unfold BX12_works_15
  rw [if_neg (by decide), if_neg (by decide), if_neg (by decide), if_neg (by decide), if_neg (by decide), if_neg (by decide), if_neg (by decide), if_neg (by decide), if_neg (by decide), if_neg (by decide), if_neg (by decide), if_neg (by decide), if_neg (by decide), if_neg (by decide), if_neg (by decide), if_neg (by decide), if_neg (by decide), if_neg (by decide), if_neg (by decide), if_neg (by decide), if_neg (by decide), if_pos (by decide)]
  unfold BX12_works_352
  rw [rcv_ok lm.1]
  exact w_p1 (k := 4) lm mv w (by decide)
theorem wk_33 (lm : LM (hT h) (hR h) q) (pm : PM h q P) (pw : PW P) (mv : Mv h q d σ l) (w : wfS d σ) (hd : d ≤ 12) {a b s0 : Int32} (hod : j_od P 33 a b = true) : Ok (BX12_works_15 (some q) (nI 33) a b 1 s0 h) (WkR q h σ l (j_tk P 33 (cN a) (cN b)) (j_pt P 33 (cN a) (cN b)) d) := by
  unfold BX12_works_15
  rw [if_neg (by decide), if_neg (by decide), if_neg (by decide), if_neg (by decide), if_neg (by decide), if_neg (by decide), if_neg (by decide), if_neg (by decide), if_neg (by decide), if_neg (by decide), if_neg (by decide), if_neg (by decide), if_neg (by decide), if_neg (by decide), if_neg (by decide), if_neg (by decide), if_neg (by decide), if_neg (by decide), if_neg (by decide), if_neg (by decide), if_neg (by decide), if_neg (by decide), if_pos (by decide)]
  unfold BX12_works_352
  rw [rcv_ok lm.1]
  exact w_p1 (k := 4) lm mv w (by decide)
theorem wk_34 (lm : LM (hT h) (hR h) q) (pm : PM h q P) (pw : PW P) (mv : Mv h q d σ l) (w : wfS d σ) (hd : d ≤ 12) {a b s0 : Int32} (hod : j_od P 34 a b = true) : Ok (BX12_works_15 (some q) (nI 34) a b 1 s0 h) (WkR q h σ l (j_tk P 34 (cN a) (cN b)) (j_pt P 34 (cN a) (cN b)) d) := by
  unfold BX12_works_15
  rw [if_neg (by decide), if_neg (by decide), if_neg (by decide), if_neg (by decide), if_neg (by decide), if_neg (by decide), if_neg (by decide), if_neg (by decide), if_neg (by decide), if_neg (by decide), if_neg (by decide), if_neg (by decide), if_neg (by decide), if_neg (by decide), if_neg (by decide), if_neg (by decide), if_neg (by decide), if_neg (by decide), if_neg (by decide), if_neg (by decide), if_neg (by decide), if_neg (by decide), if_neg (by decide), if_pos (by decide)]
  obtain ⟨j, hj, rfl, ej⟩ := wi_ex (n := 6) (by decide) hod
  rw [ej, nl_5, if_eq (by omega) (by decide)]
  show Ok _ (WkR q h σ l (if j = 5 then [] else [j]) 5 d)
  by_cases c : j = 5
  · rw [if_pos c, if_pos c]; exact w_nil mv
  · rw [if_neg c, if_neg c, rcv_ok lm.1]
    refine w_seq lm mv w (by omega) (fun g hle mg wg lg fg => ?_) (fun g d' hd' mg lg fg => ?_)
    · rw [if_neg (by decide)]; exact w_nil mg
    · rw [if_pos rfl]; exact z_nil
theorem wk_35 (lm : LM (hT h) (hR h) q) (pm : PM h q P) (pw : PW P) (mv : Mv h q d σ l) (w : wfS d σ) (hd : d ≤ 12) {a b s0 : Int32} (hod : j_od P 35 a b = true) : Ok (BX12_works_15 (some q) (nI 35) a b 1 s0 h) (WkR q h σ l (j_tk P 35 (cN a) (cN b)) (j_pt P 35 (cN a) (cN b)) d) := by
  unfold BX12_works_15
  rw [if_neg (by decide), if_neg (by decide), if_neg (by decide), if_neg (by decide), if_neg (by decide), if_neg (by decide), if_neg (by decide), if_neg (by decide), if_neg (by decide), if_neg (by decide), if_neg (by decide), if_neg (by decide), if_neg (by decide), if_neg (by decide), if_neg (by decide), if_neg (by decide), if_neg (by decide), if_neg (by decide), if_neg (by decide), if_neg (by decide), if_neg (by decide), if_neg (by decide), if_neg (by decide), if_neg (by decide), if_pos (by decide)]
  have hn8 := pw.1
  obtain ⟨c, hc, rfl, ec⟩ := wi_ex (n := p_nm P) (by omega) hod
  have r2 : hR h q 2 = some (q + 2) := by obtain ⟨mt0, ⟨mr1, mt1⟩, ⟨mr2, mt2⟩, ⟨mr3, mt3⟩, ⟨mr4, mt4⟩, ⟨mr5, mt5⟩, ⟨mr6, mt6⟩, ⟨mr7, mt7⟩, ⟨mr8, mt8⟩, ⟨mr9, mt9⟩, ⟨mr10, mt10⟩, ⟨mr11, mt11⟩, ⟨mr12, mt12⟩, ⟨mr13, mt13⟩, ⟨mr14, mt14⟩, ⟨mr15, mt15⟩, ⟨mr16, mt16⟩, ⟨mr17, mt17⟩, ⟨mr18, mt18⟩, ⟨mr19, mt19⟩, ⟨mr20, mt20⟩, ⟨mr21, mt21⟩, ⟨mr22, mt22⟩, ⟨mr23, mt23⟩, ⟨mr24, mt24⟩, ⟨mr25, mt25⟩, ⟨mr26, mt26⟩, ⟨mr27, mt27⟩, ⟨mr28, mt28⟩, ⟨mr29, mt29⟩, ⟨mr30, mt30⟩, ⟨mr31, mt31⟩, ⟨mr32, mt32⟩, ⟨mr33, mt33⟩, ⟨mr34, mt34⟩, ⟨mr35, mt35⟩, ⟨mr36, mt36⟩, ⟨mr37, mt37⟩, ⟨mr38, mt38⟩, ⟨mr39, mt39⟩, ⟨mr40, mt40⟩, ⟨mr41, mt41⟩, ⟨mr42, mt42⟩, ⟨mr43, mt43⟩⟩ := id lm; exact mr2
  have t2 : hT h (q + 2) = some (.inr (.int, 8)) := by obtain ⟨mt0, ⟨mr1, mt1⟩, ⟨mr2, mt2⟩, ⟨mr3, mt3⟩, ⟨mr4, mt4⟩, ⟨mr5, mt5⟩, ⟨mr6, mt6⟩, ⟨mr7, mt7⟩, ⟨mr8, mt8⟩, ⟨mr9, mt9⟩, ⟨mr10, mt10⟩, ⟨mr11, mt11⟩, ⟨mr12, mt12⟩, ⟨mr13, mt13⟩, ⟨mr14, mt14⟩, ⟨mr15, mt15⟩, ⟨mr16, mt16⟩, ⟨mr17, mt17⟩, ⟨mr18, mt18⟩, ⟨mr19, mt19⟩, ⟨mr20, mt20⟩, ⟨mr21, mt21⟩, ⟨mr22, mt22⟩, ⟨mr23, mt23⟩, ⟨mr24, mt24⟩, ⟨mr25, mt25⟩, ⟨mr26, mt26⟩, ⟨mr27, mt27⟩, ⟨mr28, mt28⟩, ⟨mr29, mt29⟩, ⟨mr30, mt30⟩, ⟨mr31, mt31⟩, ⟨mr32, mt32⟩, ⟨mr33, mt33⟩, ⟨mr34, mt34⟩, ⟨mr35, mt35⟩, ⟨mr36, mt36⟩, ⟨mr37, mt37⟩, ⟨mr38, mt38⟩, ⟨mr39, mt39⟩, ⟨mr40, mt40⟩, ⟨mr41, mt41⟩, ⟨mr42, mt42⟩, ⟨mr43, mt43⟩⟩ := id lm; exact mt2
  have hna := (pw.2.2.2.1 c hc).2.1
  rw [gR_ok lm.1, r2, aI_n t2 (by omega) (by decide), (pm.2.1 c hc).1.2.1]
  show Ok _ (WkR q h σ l (argL P (cN (nI c)) (p_na P (cN (nI c)))) (p_re P (cN (nI c))) d)
  rw [ec]
  exact wa_loop pw hc 99999 (p_na P c) d h (by omega) (by omega) lm pm mv w (by omega)
theorem m_works (lm : LM (hT h) (hR h) q) (pm : PM h q P) (pw : PW P) (mv : Mv h q d σ l) (w : wfS d σ) (hd : d ≤ 12) {op : Nat} (hop : op < 36) {x : Int32} {a b : Int32} (hod : j_od P op a b = true) (hmv : ¬ (8 ≤ op ∧ op ≤ 16)) : Ok (FX12_works (some q) x (nI op) a b h) (WkR q h σ l (j_tk P op (cN a) (cN b)) (j_pt P op (cN a) (cN b)) d) := by
  unfold FX12_works
  rcases op36 hop with rfl | rfl | rfl | rfl | rfl | rfl | rfl | rfl | rfl | rfl | rfl | rfl | rfl | rfl | rfl | rfl | rfl | rfl | rfl | rfl | rfl | rfl | rfl | rfl | rfl | rfl | rfl | rfl | rfl | rfl | rfl | rfl | rfl | rfl | rfl | rfl
  · split <;> exact wk_0 lm pm pw mv w hd hod
  · split <;> exact wk_1 lm pm pw mv w hd hod
  · split <;> exact wk_2 lm pm pw mv w hd hod
  · split <;> exact wk_3 lm pm pw mv w hd hod
  · split <;> exact wk_4 lm pm pw mv w hd hod
  · split <;> exact wk_5 lm pm pw mv w hd hod
  · split <;> exact wk_6 lm pm pw mv w hd hod
  · split <;> exact wk_7 lm pm pw mv w hd hod
  · omega
  · omega
  · omega
  · omega
  · omega
  · omega
  · omega
  · omega
  · omega
  · split <;> exact wk_17 lm pm pw mv w hd hod
  · split <;> exact wk_18 lm pm pw mv w hd hod
  · split <;> exact wk_19 lm pm pw mv w hd hod
  · split <;> exact wk_20 lm pm pw mv w hd hod
  · split <;> exact wk_21 lm pm pw mv w hd hod
  · split <;> exact wk_22 lm pm pw mv w hd hod
  · split <;> exact wk_23 lm pm pw mv w hd hod
  · split <;> exact wk_24 lm pm pw mv w hd hod
  · obtain ⟨j, hj, rfl, ej⟩ := wi_ex (n := 8) (by decide) hod
    rw [nl_5, if_lt (by omega) (by decide)]
    by_cases c : j < 5
    · rw [if_pos c]; exact wk_25 lm pm pw mv w hd hod (fun _ => by rw [ej]; unfold kcl; rw [if_neg (by omega)])
    · rw [if_neg c]; exact wk_25 lm pm pw mv w hd hod (fun _ => by rw [ej]; unfold kcl; rw [if_pos (by omega)]; rfl)
  · obtain ⟨j, hj, rfl, ej⟩ := wi_ex (n := 8) (by decide) hod
    rw [nl_5, if_lt (by omega) (by decide)]
    by_cases c : j < 5
    · rw [if_pos c]; exact wk_26 lm pm pw mv w hd hod (fun _ => by rw [ej]; unfold kcl; rw [if_neg (by omega)])
    · rw [if_neg c]; exact wk_26 lm pm pw mv w hd hod (fun _ => by rw [ej]; unfold kcl; rw [if_pos (by omega)]; rfl)
  · split <;> exact wk_27 lm pm pw mv w hd hod
  · split <;> exact wk_28 lm pm pw mv w hd hod
  · split <;> exact wk_29 lm pm pw mv w hd hod
  · split <;> exact wk_30 lm pm pw mv w hd hod
  · split <;> exact wk_31 lm pm pw mv w hd hod
  · split <;> exact wk_32 lm pm pw mv w hd hod
  · split <;> exact wk_33 lm pm pw mv w hd hod
  · split <;> exact wk_34 lm pm pw mv w hd hod
  · split <;> exact wk_35 lm pm pw mv w hd hod
end ME
