/-! the model: sendOn -/
section MI
variable {h g : Hp} {q m : Nat} {P : Pg} {t : Tab} {s : Sh}
theorem wf_4 : wfS 1 (fun _ => 4) := fun p hp => ⟨fun z => (by cases z), fun z => (by cases z), fun z => (by cases z), fun z => (by cases z)⟩
theorem so_253 (js : JS h q P m t) (mb : Mb h q s) (w1 : wfS s.1 s.2.1) (w2 : wfS 16 s.2.2) (hm : m < 8) {i : Nat} (b : Bool) (hi : b = true → i + 1 < 60) : Ok (BX12_sendOn_253 (some q) (nI m) (nI i) (b2i b) 0 h) (SnQ q P m s h (j_send t (if b = true then [(i + 1, s)] else []))) := by
  unfold BX12_sendOn_253
  rw [if_pos rfl, b2i_if]
  cases b with
  | false =>
    rw [if_neg (by decide), if_neg (by decide)]
    exact sq_nil js mb
  | true =>
    rw [if_pos rfl, if_pos rfl, rcv_ok js.1.1, nI_1]
    exact sq_go js mb w1 w2 hm (hi rfl) (fun g t' j1 m1 => sq_nil j1 m1) (fun g _ _ => rfl)
theorem so_253n (i : Nat) (x : Int32) : BX12_sendOn_253 (some q) (nI m) (nI i) x (-16) h = some (-16, h) := by
  unfold BX12_sendOn_253
  rw [if_neg (by decide)]
theorem so_229 (js : JS h q P m t) (mb : Mb h q s) (pw : PW P) (w1 : wfS s.1 s.2.1) (w2 : wfS 16 s.2.2) (hm : m < 8) {i x : Nat} (hx : x < p_nt P) : Ok (BX12_sendOn_229 (some q) (nI m) (nI i) (nI x) 0 0 h) (SnQ q P m s h (j_send t [(p_ot P x, s)])) := by
  have lm := js.1
  have t0 : hT h q = some (.inl 11) := lm.1
  have r20 : hR h q 20 = some (q + 18) := by obtain ⟨mt0, ⟨mr1, mt1⟩, ⟨mr2, mt2⟩, ⟨mr3, mt3⟩, ⟨mr4, mt4⟩, ⟨mr5, mt5⟩, ⟨mr6, mt6⟩, ⟨mr7, mt7⟩, ⟨mr8, mt8⟩, ⟨mr9, mt9⟩, ⟨mr10, mt10⟩, ⟨mr11, mt11⟩, ⟨mr12, mt12⟩, ⟨mr13, mt13⟩, ⟨mr14, mt14⟩, ⟨mr15, mt15⟩, ⟨mr16, mt16⟩, ⟨mr17, mt17⟩, ⟨mr18, mt18⟩, ⟨mr19, mt19⟩, ⟨mr20, mt20⟩, ⟨mr21, mt21⟩, ⟨mr22, mt22⟩, ⟨mr23, mt23⟩, ⟨mr24, mt24⟩, ⟨mr25, mt25⟩, ⟨mr26, mt26⟩, ⟨mr27, mt27⟩, ⟨mr28, mt28⟩, ⟨mr29, mt29⟩, ⟨mr30, mt30⟩, ⟨mr31, mt31⟩, ⟨mr32, mt32⟩, ⟨mr33, mt33⟩, ⟨mr34, mt34⟩, ⟨mr35, mt35⟩, ⟨mr36, mt36⟩, ⟨mr37, mt37⟩, ⟨mr38, mt38⟩, ⟨mr39, mt39⟩, ⟨mr40, mt40⟩, ⟨mr41, mt41⟩, ⟨mr42, mt42⟩, ⟨mr43, mt43⟩⟩ := id lm; exact mr18
  have t18 : hT h (q + 18) = some (.inr (.int, 8)) := by obtain ⟨mt0, ⟨mr1, mt1⟩, ⟨mr2, mt2⟩, ⟨mr3, mt3⟩, ⟨mr4, mt4⟩, ⟨mr5, mt5⟩, ⟨mr6, mt6⟩, ⟨mr7, mt7⟩, ⟨mr8, mt8⟩, ⟨mr9, mt9⟩, ⟨mr10, mt10⟩, ⟨mr11, mt11⟩, ⟨mr12, mt12⟩, ⟨mr13, mt13⟩, ⟨mr14, mt14⟩, ⟨mr15, mt15⟩, ⟨mr16, mt16⟩, ⟨mr17, mt17⟩, ⟨mr18, mt18⟩, ⟨mr19, mt19⟩, ⟨mr20, mt20⟩, ⟨mr21, mt21⟩, ⟨mr22, mt22⟩, ⟨mr23, mt23⟩, ⟨mr24, mt24⟩, ⟨mr25, mt25⟩, ⟨mr26, mt26⟩, ⟨mr27, mt27⟩, ⟨mr28, mt28⟩, ⟨mr29, mt29⟩, ⟨mr30, mt30⟩, ⟨mr31, mt31⟩, ⟨mr32, mt32⟩, ⟨mr33, mt33⟩, ⟨mr34, mt34⟩, ⟨mr35, mt35⟩, ⟨mr36, mt36⟩, ⟨mr37, mt37⟩, ⟨mr38, mt38⟩, ⟨mr39, mt39⟩, ⟨mr40, mt40⟩, ⟨mr41, mt41⟩, ⟨mr42, mt42⟩, ⟨mr43, mt43⟩⟩ := id lm; exact mt18
  have e18 := (js.2.1.2.2.1 x hx).1.2.2.1
  have b1 := (pw.2.2.2.2 x hx).1
  have b2 := pw.2.2.1
  unfold BX12_sendOn_229
  rw [if_pos rfl, gR_ok t0, r20, aI_n t18 (by omega) (by decide), e18, rcv_ok t0]
  refine sq_go js mb w1 w2 hm b1 (fun g t' j1 m1 => ?_) (fun g t' j1 => ?_)
  · exact so_253 (b := false) j1 m1 w1 w2 hm (fun z => by cases z)
  · exact so_253n i 0
theorem so_186 (pw : PW P) (w1 : wfS s.1 s.2.1) (w2 : wfS 16 s.2.2) (hm : m < 8) {i x : Nat} (hx : x < p_nt P) : ∀ (n e : Nat) (h : Hp) (t : Tab), e ≤ p_ne P x → p_ne P x - e < n → JS h q P m t → Mb h q s → Ok (BX12_sendOn_186 n (some q) (nI m) (nI i) (nI x) 0 0 (nI e) h) (SnQ q P m s h (j_send t ((List.range' e (p_ne P x - e)).map (fun e => (p_tt P x e, s)) ++ [(p_ot P x, s)]))) := by
  have wt := pw.2.2.2.2 x hx
  have b2 := pw.2.2.1
  have b5 := wt.2.1
  intro n
  induction n with
  | zero => intro e h t h1 h2; omega
  | succ n ih =>
    intro e h t h1 h2 js mb
    have lm := js.1
    have t0 : hT h q = some (.inl 11) := lm.1
    have r21 : hR h q 21 = some (q + 19) := by obtain ⟨mt0, ⟨mr1, mt1⟩, ⟨mr2, mt2⟩, ⟨mr3, mt3⟩, ⟨mr4, mt4⟩, ⟨mr5, mt5⟩, ⟨mr6, mt6⟩, ⟨mr7, mt7⟩, ⟨mr8, mt8⟩, ⟨mr9, mt9⟩, ⟨mr10, mt10⟩, ⟨mr11, mt11⟩, ⟨mr12, mt12⟩, ⟨mr13, mt13⟩, ⟨mr14, mt14⟩, ⟨mr15, mt15⟩, ⟨mr16, mt16⟩, ⟨mr17, mt17⟩, ⟨mr18, mt18⟩, ⟨mr19, mt19⟩, ⟨mr20, mt20⟩, ⟨mr21, mt21⟩, ⟨mr22, mt22⟩, ⟨mr23, mt23⟩, ⟨mr24, mt24⟩, ⟨mr25, mt25⟩, ⟨mr26, mt26⟩, ⟨mr27, mt27⟩, ⟨mr28, mt28⟩, ⟨mr29, mt29⟩, ⟨mr30, mt30⟩, ⟨mr31, mt31⟩, ⟨mr32, mt32⟩, ⟨mr33, mt33⟩, ⟨mr34, mt34⟩, ⟨mr35, mt35⟩, ⟨mr36, mt36⟩, ⟨mr37, mt37⟩, ⟨mr38, mt38⟩, ⟨mr39, mt39⟩, ⟨mr40, mt40⟩, ⟨mr41, mt41⟩, ⟨mr42, mt42⟩, ⟨mr43, mt43⟩⟩ := id lm; exact mr19
    have t19 : hT h (q + 19) = some (.inr (.int, 8)) := by obtain ⟨mt0, ⟨mr1, mt1⟩, ⟨mr2, mt2⟩, ⟨mr3, mt3⟩, ⟨mr4, mt4⟩, ⟨mr5, mt5⟩, ⟨mr6, mt6⟩, ⟨mr7, mt7⟩, ⟨mr8, mt8⟩, ⟨mr9, mt9⟩, ⟨mr10, mt10⟩, ⟨mr11, mt11⟩, ⟨mr12, mt12⟩, ⟨mr13, mt13⟩, ⟨mr14, mt14⟩, ⟨mr15, mt15⟩, ⟨mr16, mt16⟩, ⟨mr17, mt17⟩, ⟨mr18, mt18⟩, ⟨mr19, mt19⟩, ⟨mr20, mt20⟩, ⟨mr21, mt21⟩, ⟨mr22, mt22⟩, ⟨mr23, mt23⟩, ⟨mr24, mt24⟩, ⟨mr25, mt25⟩, ⟨mr26, mt26⟩, ⟨mr27, mt27⟩, ⟨mr28, mt28⟩, ⟨mr29, mt29⟩, ⟨mr30, mt30⟩, ⟨mr31, mt31⟩, ⟨mr32, mt32⟩, ⟨mr33, mt33⟩, ⟨mr34, mt34⟩, ⟨mr35, mt35⟩, ⟨mr36, mt36⟩, ⟨mr37, mt37⟩, ⟨mr38, mt38⟩, ⟨mr39, mt39⟩, ⟨mr40, mt40⟩, ⟨mr41, mt41⟩, ⟨mr42, mt42⟩, ⟨mr43, mt43⟩⟩ := id lm; exact mt19
    have r23 : hR h q 23 = some (q + 21) := by obtain ⟨mt0, ⟨mr1, mt1⟩, ⟨mr2, mt2⟩, ⟨mr3, mt3⟩, ⟨mr4, mt4⟩, ⟨mr5, mt5⟩, ⟨mr6, mt6⟩, ⟨mr7, mt7⟩, ⟨mr8, mt8⟩, ⟨mr9, mt9⟩, ⟨mr10, mt10⟩, ⟨mr11, mt11⟩, ⟨mr12, mt12⟩, ⟨mr13, mt13⟩, ⟨mr14, mt14⟩, ⟨mr15, mt15⟩, ⟨mr16, mt16⟩, ⟨mr17, mt17⟩, ⟨mr18, mt18⟩, ⟨mr19, mt19⟩, ⟨mr20, mt20⟩, ⟨mr21, mt21⟩, ⟨mr22, mt22⟩, ⟨mr23, mt23⟩, ⟨mr24, mt24⟩, ⟨mr25, mt25⟩, ⟨mr26, mt26⟩, ⟨mr27, mt27⟩, ⟨mr28, mt28⟩, ⟨mr29, mt29⟩, ⟨mr30, mt30⟩, ⟨mr31, mt31⟩, ⟨mr32, mt32⟩, ⟨mr33, mt33⟩, ⟨mr34, mt34⟩, ⟨mr35, mt35⟩, ⟨mr36, mt36⟩, ⟨mr37, mt37⟩, ⟨mr38, mt38⟩, ⟨mr39, mt39⟩, ⟨mr40, mt40⟩, ⟨mr41, mt41⟩, ⟨mr42, mt42⟩, ⟨mr43, mt43⟩⟩ := id lm; exact mr21
    have t21 : hT h (q + 21) = some (.inr (.int, 64)) := by obtain ⟨mt0, ⟨mr1, mt1⟩, ⟨mr2, mt2⟩, ⟨mr3, mt3⟩, ⟨mr4, mt4⟩, ⟨mr5, mt5⟩, ⟨mr6, mt6⟩, ⟨mr7, mt7⟩, ⟨mr8, mt8⟩, ⟨mr9, mt9⟩, ⟨mr10, mt10⟩, ⟨mr11, mt11⟩, ⟨mr12, mt12⟩, ⟨mr13, mt13⟩, ⟨mr14, mt14⟩, ⟨mr15, mt15⟩, ⟨mr16, mt16⟩, ⟨mr17, mt17⟩, ⟨mr18, mt18⟩, ⟨mr19, mt19⟩, ⟨mr20, mt20⟩, ⟨mr21, mt21⟩, ⟨mr22, mt22⟩, ⟨mr23, mt23⟩, ⟨mr24, mt24⟩, ⟨mr25, mt25⟩, ⟨mr26, mt26⟩, ⟨mr27, mt27⟩, ⟨mr28, mt28⟩, ⟨mr29, mt29⟩, ⟨mr30, mt30⟩, ⟨mr31, mt31⟩, ⟨mr32, mt32⟩, ⟨mr33, mt33⟩, ⟨mr34, mt34⟩, ⟨mr35, mt35⟩, ⟨mr36, mt36⟩, ⟨mr37, mt37⟩, ⟨mr38, mt38⟩, ⟨mr39, mt39⟩, ⟨mr40, mt40⟩, ⟨mr41, mt41⟩, ⟨mr42, mt42⟩, ⟨mr43, mt43⟩⟩ := id lm; exact mt21
    have vt := js.2.1.2.2.1 x hx
    have e19 := vt.1.2.2.2
    unfold BX12_sendOn_186
    rw [gR_ok t0, r21, aI_n t19 (by omega) (by decide), e19, if_lt (by omega) (by omega)]
    by_cases c : e < p_ne P x
    · have e21 := (vt.2 e c).2
      have b3 := wt.2.2.2.1 e c
      rw [if_pos c, if_pos rfl, gR_ok t0, r23, nl_8, pk_mul, nI_add, aI_n t21 (by omega) (by decide), e21, rcv_ok t0, nI_1, show p_ne P x - e = (p_ne P x - (e + 1)) + 1 by omega, List.range'_succ, List.map_cons, List.cons_append]
      refine sq_go js mb w1 w2 hm b3 (fun g t' j1 m1 => ?_) (fun g t' j1 => ?_)
      · exact ih (e + 1) g t' (by omega) (by omega) j1 m1
      · obtain ⟨n', rfl⟩ : ∃ n', n = n' + 1 := ⟨n - 1, by omega⟩
        have lg := j1.1
        have t0g : hT g q = some (.inl 11) := lg.1
        have r21g : hR g q 21 = some (q + 19) := by have lm := lg; obtain ⟨mt0, ⟨mr1, mt1⟩, ⟨mr2, mt2⟩, ⟨mr3, mt3⟩, ⟨mr4, mt4⟩, ⟨mr5, mt5⟩, ⟨mr6, mt6⟩, ⟨mr7, mt7⟩, ⟨mr8, mt8⟩, ⟨mr9, mt9⟩, ⟨mr10, mt10⟩, ⟨mr11, mt11⟩, ⟨mr12, mt12⟩, ⟨mr13, mt13⟩, ⟨mr14, mt14⟩, ⟨mr15, mt15⟩, ⟨mr16, mt16⟩, ⟨mr17, mt17⟩, ⟨mr18, mt18⟩, ⟨mr19, mt19⟩, ⟨mr20, mt20⟩, ⟨mr21, mt21⟩, ⟨mr22, mt22⟩, ⟨mr23, mt23⟩, ⟨mr24, mt24⟩, ⟨mr25, mt25⟩, ⟨mr26, mt26⟩, ⟨mr27, mt27⟩, ⟨mr28, mt28⟩, ⟨mr29, mt29⟩, ⟨mr30, mt30⟩, ⟨mr31, mt31⟩, ⟨mr32, mt32⟩, ⟨mr33, mt33⟩, ⟨mr34, mt34⟩, ⟨mr35, mt35⟩, ⟨mr36, mt36⟩, ⟨mr37, mt37⟩, ⟨mr38, mt38⟩, ⟨mr39, mt39⟩, ⟨mr40, mt40⟩, ⟨mr41, mt41⟩, ⟨mr42, mt42⟩, ⟨mr43, mt43⟩⟩ := id lm; exact mr19
        have t19g : hT g (q + 19) = some (.inr (.int, 8)) := by have lm := lg; obtain ⟨mt0, ⟨mr1, mt1⟩, ⟨mr2, mt2⟩, ⟨mr3, mt3⟩, ⟨mr4, mt4⟩, ⟨mr5, mt5⟩, ⟨mr6, mt6⟩, ⟨mr7, mt7⟩, ⟨mr8, mt8⟩, ⟨mr9, mt9⟩, ⟨mr10, mt10⟩, ⟨mr11, mt11⟩, ⟨mr12, mt12⟩, ⟨mr13, mt13⟩, ⟨mr14, mt14⟩, ⟨mr15, mt15⟩, ⟨mr16, mt16⟩, ⟨mr17, mt17⟩, ⟨mr18, mt18⟩, ⟨mr19, mt19⟩, ⟨mr20, mt20⟩, ⟨mr21, mt21⟩, ⟨mr22, mt22⟩, ⟨mr23, mt23⟩, ⟨mr24, mt24⟩, ⟨mr25, mt25⟩, ⟨mr26, mt26⟩, ⟨mr27, mt27⟩, ⟨mr28, mt28⟩, ⟨mr29, mt29⟩, ⟨mr30, mt30⟩, ⟨mr31, mt31⟩, ⟨mr32, mt32⟩, ⟨mr33, mt33⟩, ⟨mr34, mt34⟩, ⟨mr35, mt35⟩, ⟨mr36, mt36⟩, ⟨mr37, mt37⟩, ⟨mr38, mt38⟩, ⟨mr39, mt39⟩, ⟨mr40, mt40⟩, ⟨mr41, mt41⟩, ⟨mr42, mt42⟩, ⟨mr43, mt43⟩⟩ := id lm; exact mt19
        have z : BX12_sendOn_229 (some q) (nI m) (nI i) (nI x) 0 (-16) g = some (-16, g) := by
          unfold BX12_sendOn_229
          rw [if_neg (by decide)]
          exact so_253n i 0
        unfold BX12_sendOn_186
        rw [gR_ok t0g, r21g, aI_n t19g (by omega) (by decide), if_neg (show ¬ ((-16 : Int32) = 0) by decide), z]
        split <;> rfl
    · rw [if_neg c, show p_ne P x - e = 0 by omega]
      exact so_229 js mb pw w1 w2 hm hx
/-- the operation's own ways -/
theorem so_own (js : JS h q P m t) (mb : Mb h q s) (pw : PW P) (w1 : wfS s.1 s.2.1) (w2 : wfS 16 s.2.2) (hm : m < p_nm P) {i : Nat} (hi : i < p_no P m) (hod : j_od P (p_op P m i) (p_A P m i) (p_B P m i) = true) (htg : j_tg P m i = true) (hnx : j_nx (p_op P m i) = true → i + 1 < p_no P m) :
    Ok (cl (FX12_in (Int32.toInt64 (nI (p_op P m i))) 20 22 h) fun v35 h36 => if v35 = 0 then BX12_sendOn_175 (some q) (nI m) (nI i) (nI (p_op P m i)) (p_A P m i) (b2i (j_nx (p_op P m i))) 0 h36 else rcv h36 (some q) 11 <| cl (FX12_goOn (some q) (nI m) (p_A P m i) h36) fun v39 h40 => BX12_sendOn_175 (some q) (nI m) (nI i) (nI (p_op P m i)) (p_A P m i) (b2i (j_nx (p_op P m i))) v39 h40) (SnQ q P m s h (j_send t (j_on P m i s))) := by
  have hm8 : m < 8 := by have := pw.1; omega
  have wm := pw.2.2.2.1 m hm
  have b4 := wm.2.2.2.1
  have e4 := wm.2.2.2.2.2.2.2.1 i hi
  have hnt := pw.2.2.1
  unfold j_tg at htg
  rw [Bool.and_eq_true, Bool.and_eq_true] at htg
  obtain ⟨⟨htg1, htg2⟩, -⟩ := htg
  rw [g_in20 e4, cl_ok, b2i_if]
  unfold j_on
  by_cases c20 : p_op P m i = 20 ∨ p_op P m i = 21 ∨ p_op P m i = 22
  · have c23 : ¬ p_op P m i = 23 := by omega
    rw [decide_eq_true c20, if_pos rfl, if_neg c23, if_pos c20, rcv_ok js.1.1]
    rw [if_pos c20] at htg1
    obtain ⟨x, hx, ex, ec⟩ := wi_ex (by omega) htg1
    rw [ec, ex, List.singleton_append]
    have e175 : ∀ (v : Int32) (g : Hp), BX12_sendOn_175 (some q) (nI m) (nI i) (nI (p_op P m i)) (nI x) (b2i (j_nx (p_op P m i))) v g = BX12_sendOn_253 (some q) (nI m) (nI i) (b2i (j_nx (p_op P m i))) v g := by
      intro v g
      unfold BX12_sendOn_175
      rw [nl_23, if_eq (by omega) (by decide), if_neg c23]
    refine sq_go js mb w1 w2 hm8 (by omega) (fun g t' j1 m1 => ?_) (fun g t' j1 => ?_)
    · rw [e175]
      exact so_253 j1 m1 w1 w2 hm8 _ (fun z => by have := hnx z; omega)
    · rw [e175]; exact so_253n i _
  · rw [decide_eq_false c20, if_neg (by decide)]
    unfold BX12_sendOn_175
    rw [nl_23, if_eq (by omega) (by decide)]
    by_cases c23 : p_op P m i = 23
    · rw [if_pos c23, if_pos c23]
      have hod2 : wi (p_A P m i) (p_nt P) = true := by rw [c23] at hod; exact hod
      obtain ⟨x, hx, ex, ec⟩ := wi_ex (by omega) hod2
      have e0 : b2i (j_nx (p_op P m i)) = 0 := by rw [c23]; rfl
      rw [ec, ex, e0, nI_c0]
      have := so_186 (q := q) (i := i) pw w1 w2 hm8 hx 100000 0 h t (by omega) (by have := (pw.2.2.2.2 x hx).2.1; omega) js mb
      rw [Nat.sub_zero, ← List.range_eq_range'] at this
      exact this
    · rw [if_neg c23, if_neg c23, if_neg c20, List.nil_append]
      exact so_253 js mb w1 w2 hm8 _ (fun z => by have := hnx z; omega)
/-- the locals ahead of the operation -/
def Ah (h : Hp) (q : Nat) (l : Nat → Nat) : Prop := ∀ j, j < 16 → hI h (q + 30) j = nI (l j) ∧ l j < 8
theorem Ah.fq {F A : Nat → Prop} {l : Nat → Nat} (v : Ah h q l) (f : Fq q F A h g) (h1 : ¬ A (q + 30)) : Ah g q l := by
  unfold Ah at v ⊢
  rw [f.2.2.2.2.1 _ (by omega) h1]
  exact v
def hsF (P : Pg) (m i : Nat) (l : Nat → Nat) (k : Nat) : List (Nat × Sh) := ((List.range' k (p_nh P m - k)).filter (fun k => pcov P m k i)).map (fun k => (p_hg P m k, (1, (fun _ => 4), l)))
theorem hsF_0 (P : Pg) (m i : Nat) (l : Nat → Nat) : hsF P m i l 0 = j_hs P m i l := by
  unfold hsF j_hs
  rw [Nat.sub_zero, ← List.range_eq_range']
theorem hsF_s {P : Pg} {m i k : Nat} {l : Nat → Nat} (hk : k < p_nh P m) : hsF P m i l k = (if pcov P m k i = true then [(p_hg P m k, (1, (fun _ => 4), l))] else []) ++ hsF P m i l (k + 1) := by
  unfold hsF
  rw [show p_nh P m - k = (p_nh P m - (k + 1)) + 1 by omega, List.range'_succ, List.filter_cons]
  cases pcov P m k i with
  | true => rw [if_pos rfl, if_pos rfl]; rfl
  | false => rw [if_neg (by decide), if_neg (by decide)]; rfl
theorem so_87 (lm : LM (hT h) (hR h) q) (K : Option Nat → Int32 → Int32 → Int32 → Int32 → Int32 → Int32 → Hp → Option (Int32 × Hp)) (x1 x2 x3 x4 x5 x6 : Int32) : BX12_sendOn_87 100000 K (some q) x1 x2 x3 x4 x5 x6 0 h = (fun g => gR g (some q) 11 12 fun v23 => aI g v23 .int x6 fun v27 => rcv g (some q) 11 <| cl (FX12_come (some q) x1 v27 g) fun v33 h34 => if v33 = 0 then BX12_sendOn_144 K (some q) x1 x2 x3 x4 x5 x6 h34 else gR h34 (some q) 11 12 fun v40 => aI h34 v40 .int x6 fun v44 => rcv h34 (some q) 11 <| cl (FX12_wrong (some q) x1 v44 6 h34) fun v50 h51 => some (v50, h51)) (wIr h (q + 28) (ic (hI h (q + 30)) (hI h (q + 28)) 0 0 16)) := by
  obtain ⟨mt0, ⟨mr1, mt1⟩, ⟨mr2, mt2⟩, ⟨mr3, mt3⟩, ⟨mr4, mt4⟩, ⟨mr5, mt5⟩, ⟨mr6, mt6⟩, ⟨mr7, mt7⟩, ⟨mr8, mt8⟩, ⟨mr9, mt9⟩, ⟨mr10, mt10⟩, ⟨mr11, mt11⟩, ⟨mr12, mt12⟩, ⟨mr13, mt13⟩, ⟨mr14, mt14⟩, ⟨mr15, mt15⟩, ⟨mr16, mt16⟩, ⟨mr17, mt17⟩, ⟨mr18, mt18⟩, ⟨mr19, mt19⟩, ⟨mr20, mt20⟩, ⟨mr21, mt21⟩, ⟨mr22, mt22⟩, ⟨mr23, mt23⟩, ⟨mr24, mt24⟩, ⟨mr25, mt25⟩, ⟨mr26, mt26⟩, ⟨mr27, mt27⟩, ⟨mr28, mt28⟩, ⟨mr29, mt29⟩, ⟨mr30, mt30⟩, ⟨mr31, mt31⟩, ⟨mr32, mt32⟩, ⟨mr33, mt33⟩, ⟨mr34, mt34⟩, ⟨mr35, mt35⟩, ⟨mr36, mt36⟩, ⟨mr37, mt37⟩, ⟨mr38, mt38⟩, ⟨mr39, mt39⟩, ⟨mr40, mt40⟩, ⟨mr41, mt41⟩, ⟨mr42, mt42⟩, ⟨mr43, mt43⟩⟩ := id lm
  refine cpl (fun n k h => BX12_sendOn_87 n K (some q) x1 x2 x3 x4 x5 x6 k h) (fun g => gR g (some q) 11 12 fun v23 => aI g v23 .int x6 fun v27 => rcv g (some q) 11 <| cl (FX12_come (some q) x1 v27 g) fun v33 h34 => if v33 = 0 then BX12_sendOn_144 K (some q) x1 x2 x3 x4 x5 x6 h34 else gR h34 (some q) 11 12 fun v40 => aI h34 v40 .int x6 fun v44 => rcv h34 (some q) 11 <| cl (FX12_wrong (some q) x1 v44 6 h34) fun v50 h51 => some (v50, h51)) 0 0 16 (hI h (q + 30)) (by omega) (fun n k g hk e1 e2 e3 => ?_) (fun n g e1 e2 e3 => ?_)
  · show BX12_sendOn_87 (n + 1) _ _ _ _ _ _ _ _ _ _ = _
    rw [BX12_sendOn_87]
    have t0 : hT g q = some (.inl 11) := by rw [e1]; exact mt0
    have t28 : hT g (q + 28) = some (.inr (.int, 18)) := by rw [e1]; exact mt28
    have t30 : hT g (q + 30) = some (.inr (.int, 16)) := by rw [e1]; exact mt30
    rw [nl_16, if_lt (by omega) (by decide), if_pos hk, gR_ok t0, e2, mr28, gR_ok t0, e2, mr30, aI_n t30 (by omega) (by decide), sI_n t28 (by omega) (by decide), nI_1, e3 _ (by omega), Nat.zero_add]
  · show BX12_sendOn_87 (n + 1) _ _ _ _ _ _ _ _ _ _ = _
    rw [BX12_sendOn_87]
    rw [if_neg (by decide)]
theorem so_46 (pw : PW P) {i : Nat} {l : Nat → Nat} (w3 : wfS 16 l) (hm : m < p_nm P) (hi : i < 60) (hb : j_hb P m i = true) {op A x5 : Int32} {ys : List (Nat × Sh)} (rest : ∀ g t', JS g q P m t' → Mb g q s → Ok (cl (FX12_in (Int32.toInt64 op) 20 22 g) fun v35 h36 => if v35 = 0 then BX12_sendOn_175 (some q) (nI m) (nI i) op A x5 0 h36 else rcv h36 (some q) 11 <| cl (FX12_goOn (some q) (nI m) A h36) fun v39 h40 => BX12_sendOn_175 (some q) (nI m) (nI i) op A x5 v39 h40) (SnQ q P m s g (j_send t' ys))) :
    ∀ (n k : Nat) (h : Hp) (t : Tab), k ≤ p_nh P m → p_nh P m - k < n → JS h q P m t → Mb h q s → Ah h q l → Ok (BX12_sendOn_46 n (some q) (nI m) (nI i) op A x5 (nI (6 * m + k)) h) (SnQ q P m s h (j_send t (hsF P m i l k ++ ys))) := by
  have hm8 : m < 8 := by have := pw.1; omega
  have wm := pw.2.2.2.1 m hm
  have b6 := wm.2.2.2.2.1
  have b4 := wm.2.2.2.1
  intro n
  induction n with
  | zero => intro k h t h1 h2; omega
  | succ n ih =>
    intro k h t h1 h2 js mb ah
    have lm := js.1
    have t0 : hT h q = some (.inl 11) := lm.1
    have r9 : hR h q 9 = some (q + 9) := by obtain ⟨mt0, ⟨mr1, mt1⟩, ⟨mr2, mt2⟩, ⟨mr3, mt3⟩, ⟨mr4, mt4⟩, ⟨mr5, mt5⟩, ⟨mr6, mt6⟩, ⟨mr7, mt7⟩, ⟨mr8, mt8⟩, ⟨mr9, mt9⟩, ⟨mr10, mt10⟩, ⟨mr11, mt11⟩, ⟨mr12, mt12⟩, ⟨mr13, mt13⟩, ⟨mr14, mt14⟩, ⟨mr15, mt15⟩, ⟨mr16, mt16⟩, ⟨mr17, mt17⟩, ⟨mr18, mt18⟩, ⟨mr19, mt19⟩, ⟨mr20, mt20⟩, ⟨mr21, mt21⟩, ⟨mr22, mt22⟩, ⟨mr23, mt23⟩, ⟨mr24, mt24⟩, ⟨mr25, mt25⟩, ⟨mr26, mt26⟩, ⟨mr27, mt27⟩, ⟨mr28, mt28⟩, ⟨mr29, mt29⟩, ⟨mr30, mt30⟩, ⟨mr31, mt31⟩, ⟨mr32, mt32⟩, ⟨mr33, mt33⟩, ⟨mr34, mt34⟩, ⟨mr35, mt35⟩, ⟨mr36, mt36⟩, ⟨mr37, mt37⟩, ⟨mr38, mt38⟩, ⟨mr39, mt39⟩, ⟨mr40, mt40⟩, ⟨mr41, mt41⟩, ⟨mr42, mt42⟩, ⟨mr43, mt43⟩⟩ := id lm; exact mr9
    have t9 : hT h (q + 9) = some (.inr (.int, 8)) := by obtain ⟨mt0, ⟨mr1, mt1⟩, ⟨mr2, mt2⟩, ⟨mr3, mt3⟩, ⟨mr4, mt4⟩, ⟨mr5, mt5⟩, ⟨mr6, mt6⟩, ⟨mr7, mt7⟩, ⟨mr8, mt8⟩, ⟨mr9, mt9⟩, ⟨mr10, mt10⟩, ⟨mr11, mt11⟩, ⟨mr12, mt12⟩, ⟨mr13, mt13⟩, ⟨mr14, mt14⟩, ⟨mr15, mt15⟩, ⟨mr16, mt16⟩, ⟨mr17, mt17⟩, ⟨mr18, mt18⟩, ⟨mr19, mt19⟩, ⟨mr20, mt20⟩, ⟨mr21, mt21⟩, ⟨mr22, mt22⟩, ⟨mr23, mt23⟩, ⟨mr24, mt24⟩, ⟨mr25, mt25⟩, ⟨mr26, mt26⟩, ⟨mr27, mt27⟩, ⟨mr28, mt28⟩, ⟨mr29, mt29⟩, ⟨mr30, mt30⟩, ⟨mr31, mt31⟩, ⟨mr32, mt32⟩, ⟨mr33, mt33⟩, ⟨mr34, mt34⟩, ⟨mr35, mt35⟩, ⟨mr36, mt36⟩, ⟨mr37, mt37⟩, ⟨mr38, mt38⟩, ⟨mr39, mt39⟩, ⟨mr40, mt40⟩, ⟨mr41, mt41⟩, ⟨mr42, mt42⟩, ⟨mr43, mt43⟩⟩ := id lm; exact mt9
    have r30 : hR h q 30 = some (q + 27) := by obtain ⟨mt0, ⟨mr1, mt1⟩, ⟨mr2, mt2⟩, ⟨mr3, mt3⟩, ⟨mr4, mt4⟩, ⟨mr5, mt5⟩, ⟨mr6, mt6⟩, ⟨mr7, mt7⟩, ⟨mr8, mt8⟩, ⟨mr9, mt9⟩, ⟨mr10, mt10⟩, ⟨mr11, mt11⟩, ⟨mr12, mt12⟩, ⟨mr13, mt13⟩, ⟨mr14, mt14⟩, ⟨mr15, mt15⟩, ⟨mr16, mt16⟩, ⟨mr17, mt17⟩, ⟨mr18, mt18⟩, ⟨mr19, mt19⟩, ⟨mr20, mt20⟩, ⟨mr21, mt21⟩, ⟨mr22, mt22⟩, ⟨mr23, mt23⟩, ⟨mr24, mt24⟩, ⟨mr25, mt25⟩, ⟨mr26, mt26⟩, ⟨mr27, mt27⟩, ⟨mr28, mt28⟩, ⟨mr29, mt29⟩, ⟨mr30, mt30⟩, ⟨mr31, mt31⟩, ⟨mr32, mt32⟩, ⟨mr33, mt33⟩, ⟨mr34, mt34⟩, ⟨mr35, mt35⟩, ⟨mr36, mt36⟩, ⟨mr37, mt37⟩, ⟨mr38, mt38⟩, ⟨mr39, mt39⟩, ⟨mr40, mt40⟩, ⟨mr41, mt41⟩, ⟨mr42, mt42⟩, ⟨mr43, mt43⟩⟩ := id lm; exact mr27
    have t27 : hT h (q + 27) = some (.inr (.int, 64)) := by obtain ⟨mt0, ⟨mr1, mt1⟩, ⟨mr2, mt2⟩, ⟨mr3, mt3⟩, ⟨mr4, mt4⟩, ⟨mr5, mt5⟩, ⟨mr6, mt6⟩, ⟨mr7, mt7⟩, ⟨mr8, mt8⟩, ⟨mr9, mt9⟩, ⟨mr10, mt10⟩, ⟨mr11, mt11⟩, ⟨mr12, mt12⟩, ⟨mr13, mt13⟩, ⟨mr14, mt14⟩, ⟨mr15, mt15⟩, ⟨mr16, mt16⟩, ⟨mr17, mt17⟩, ⟨mr18, mt18⟩, ⟨mr19, mt19⟩, ⟨mr20, mt20⟩, ⟨mr21, mt21⟩, ⟨mr22, mt22⟩, ⟨mr23, mt23⟩, ⟨mr24, mt24⟩, ⟨mr25, mt25⟩, ⟨mr26, mt26⟩, ⟨mr27, mt27⟩, ⟨mr28, mt28⟩, ⟨mr29, mt29⟩, ⟨mr30, mt30⟩, ⟨mr31, mt31⟩, ⟨mr32, mt32⟩, ⟨mr33, mt33⟩, ⟨mr34, mt34⟩, ⟨mr35, mt35⟩, ⟨mr36, mt36⟩, ⟨mr37, mt37⟩, ⟨mr38, mt38⟩, ⟨mr39, mt39⟩, ⟨mr40, mt40⟩, ⟨mr41, mt41⟩, ⟨mr42, mt42⟩, ⟨mr43, mt43⟩⟩ := id lm; exact mt27
    have vm := js.2.1.2.1 m hm
    have e9 := vm.1.2.2.2.2
    unfold BX12_sendOn_46
    rw [gR_ok t0, r9, aI_n t9 (by omega) (by decide), e9, nl_6, pk_mul, nI_add, if_lt (by omega) (by omega)]
    by_cases c : k < p_nh P m
    · rw [if_pos (by omega), rcv_ok t0, g_covers lm vm wm hm8 c hi, cl_ok, b2i_if, hsF_s c]
      have e144 : ∀ g, BX12_sendOn_144 (BX12_sendOn_46 n) (some q) (nI m) (nI i) op A x5 (nI (6 * m + k)) g = BX12_sendOn_46 n (some q) (nI m) (nI i) op A x5 (nI (6 * m + (k + 1))) g := by
        intro g
        unfold BX12_sendOn_144
        rw [nI_1]; rfl
      cases hc : pcov P m k i with
      | false =>
        rw [if_neg (by decide), if_neg (by decide), List.nil_append, e144]
        exact ih (k + 1) h t (by omega) (by omega) js mb ah
      | true =>
        obtain ⟨z1, z2, z3, z4⟩ := wm.2.2.2.2.2.2.2.2 k c
        have htk : p_hg P m k < p_no P m := jhb_iff.mp hb k c hc
        rw [if_pos rfl, if_pos rfl, pI_ok t0, gR_ok (show hT (wI h q 29 1) q = _ from t0), show hR (wI h q 29 1) q 30 = _ from r30, nI_c0, sI_n (show hT (wI h q 29 1) (q + 27) = _ from t27) (by omega) (by decide), ← nI_c0]
        have f1 : Fq q F29 (A28 q) h (wIr (wI (wI h q 29 1) (q + 27) 0 4) (q + 28) (ic (hI (wI (wI h q 29 1) (q + 27) 0 4) (q + 30)) (hI (wI (wI h q 29 1) (q + 27) 0 4) (q + 28)) 0 0 16)) := (q29w.trans (Fq.wA (A := A28 q) (Or.inl rfl) (by omega))).trans (Fq.wIr (A := A28 q) (Or.inr rfl) (by omega))
        have mv1 : Mv (wIr (wI (wI h q 29 1) (q + 27) 0 4) (q + 28) (ic (hI (wI (wI h q 29 1) (q + 27) 0 4) (q + 30)) (hI (wI (wI h q 29 1) (q + 27) 0 4) (q + 28)) 0 0 16)) q 1 (fun _ => 4) l := by
          refine ⟨⟨?_, by omega⟩, fun p hp => ?_, fun j hj => ?_⟩
          · rw [hI_wIr_a (by omega), hI_wI_a (by omega), hI_wI_s]; rfl
          · have : p = 0 := by omega
            subst this
            rw [hI_wIr_a (by omega), hI_wI_s]; exact ⟨rfl, by show 4 < 8; omega⟩
          · rw [hI_wIr_s, ic_in0 hj, hI_wI_a (by omega), hI_wI_a (by omega)]; exact ah j hj
        rw [so_87 (h := wI (wI h q 29 1) (q + 27) 0 4) lm]
        generalize (wIr (wI (wI h q 29 1) (q + 27) 0 4) (q + 28) (ic (hI (wI (wI h q 29 1) (q + 27) 0 4) (q + 30)) (hI (wI (wI h q 29 1) (q + 27) 0 4) (q + 28)) 0 0 16)) = g1 at f1 mv1 ⊢
        have js1 : JS g1 q P m t := js.fq f1 n29a (fun b h1 h2 => by unfold A28; omega)
        have mb1 : Mb g1 q s := mb.fq f1 (by unfold F29; omega) (by unfold A28; omega) (by unfold A28; omega)
        have ah1 : Ah g1 q l := ah.fq f1 (by unfold A28; omega)
        have k1 : Fj q m h g1 := Fj.of f1 (fun k z => Or.inl z) (fun b z => by unfold A28 at z; omega)
        have e32 : hI g1 q 32 = hI h q 32 := f1.2.2.2.2.2 32 (by unfold F29; omega)
        have e33 : hI g1 q 33 = hI h q 33 := f1.2.2.2.2.2 33 (by unfold F29; omega)
        have r12 : ∀ {g t'}, JS g q P m t' → hT g q = some (.inl 11) ∧ hR g q 12 = some (q + 12) ∧ hT g (q + 12) = some (.inr (.int, 48)) ∧ hI g (q + 12) (6 * m + k) = nI (p_hg P m k) := fun j => ⟨j.1.1, by have lm := j.1; obtain ⟨mt0, ⟨mr1, mt1⟩, ⟨mr2, mt2⟩, ⟨mr3, mt3⟩, ⟨mr4, mt4⟩, ⟨mr5, mt5⟩, ⟨mr6, mt6⟩, ⟨mr7, mt7⟩, ⟨mr8, mt8⟩, ⟨mr9, mt9⟩, ⟨mr10, mt10⟩, ⟨mr11, mt11⟩, ⟨mr12, mt12⟩, ⟨mr13, mt13⟩, ⟨mr14, mt14⟩, ⟨mr15, mt15⟩, ⟨mr16, mt16⟩, ⟨mr17, mt17⟩, ⟨mr18, mt18⟩, ⟨mr19, mt19⟩, ⟨mr20, mt20⟩, ⟨mr21, mt21⟩, ⟨mr22, mt22⟩, ⟨mr23, mt23⟩, ⟨mr24, mt24⟩, ⟨mr25, mt25⟩, ⟨mr26, mt26⟩, ⟨mr27, mt27⟩, ⟨mr28, mt28⟩, ⟨mr29, mt29⟩, ⟨mr30, mt30⟩, ⟨mr31, mt31⟩, ⟨mr32, mt32⟩, ⟨mr33, mt33⟩, ⟨mr34, mt34⟩, ⟨mr35, mt35⟩, ⟨mr36, mt36⟩, ⟨mr37, mt37⟩, ⟨mr38, mt38⟩, ⟨mr39, mt39⟩, ⟨mr40, mt40⟩, ⟨mr41, mt41⟩, ⟨mr42, mt42⟩, ⟨mr43, mt43⟩⟩ := id lm; exact mr12, by have lm := j.1; obtain ⟨mt0, ⟨mr1, mt1⟩, ⟨mr2, mt2⟩, ⟨mr3, mt3⟩, ⟨mr4, mt4⟩, ⟨mr5, mt5⟩, ⟨mr6, mt6⟩, ⟨mr7, mt7⟩, ⟨mr8, mt8⟩, ⟨mr9, mt9⟩, ⟨mr10, mt10⟩, ⟨mr11, mt11⟩, ⟨mr12, mt12⟩, ⟨mr13, mt13⟩, ⟨mr14, mt14⟩, ⟨mr15, mt15⟩, ⟨mr16, mt16⟩, ⟨mr17, mt17⟩, ⟨mr18, mt18⟩, ⟨mr19, mt19⟩, ⟨mr20, mt20⟩, ⟨mr21, mt21⟩, ⟨mr22, mt22⟩, ⟨mr23, mt23⟩, ⟨mr24, mt24⟩, ⟨mr25, mt25⟩, ⟨mr26, mt26⟩, ⟨mr27, mt27⟩, ⟨mr28, mt28⟩, ⟨mr29, mt29⟩, ⟨mr30, mt30⟩, ⟨mr31, mt31⟩, ⟨mr32, mt32⟩, ⟨mr33, mt33⟩, ⟨mr34, mt34⟩, ⟨mr35, mt35⟩, ⟨mr36, mt36⟩, ⟨mr37, mt37⟩, ⟨mr38, mt38⟩, ⟨mr39, mt39⟩, ⟨mr40, mt40⟩, ⟨mr41, mt41⟩, ⟨mr42, mt42⟩, ⟨mr43, mt43⟩⟩ := id lm; exact mt12, ((j.2.1.2.1 m hm).2.2.2 k c).2.2.1⟩
        obtain ⟨u0, u1, u2, u3⟩ := r12 js1
        try dsimp only
        rw [gR_ok u0, u1, aI_n u2 (by omega) (by decide), u3, rcv_ok u0, List.singleton_append, List.cons_append, j_send]
        refine ok_cl (js_come (s := (1, (fun _ => 4), l)) js1 mv1 (by show 1 ≤ 12; omega) wf_4 w3 hm8 z3) (fun r g2 x => ?_)
        obtain ⟨x1, x2, x3, x4⟩ := x
        have mb2 : Mb g2 q s := mb1.fq x3 (fun z => z) (by unfold A26; omega) (by unfold A26; omega)
        have ah2 : Ah g2 q l := ah1.fq x3 (by unfold A26; omega)
        have k2 : Fj q m h g2 := k1.trans ⟨x3.mono (fun _ z => z.elim) (fun b z => by unfold A26 at z; unfold AJm; omega), x4⟩
        have y32 : hI g2 q 32 = hI h q 32 := by rw [x3.2.2.2.2.2 32 (fun z => z)]; exact e32
        have y33 : hI g2 q 33 = hI h q 33 := by rw [x3.2.2.2.2.2 33 (fun z => z)]; exact e33
        try dsimp only
        cases hcm : (come t (p_hg P m k) (1, (fun _ => 4), l)).1 with
        | true =>
          rw [hcm, if_pos rfl] at x1
          rw [x1, if_pos rfl, if_pos rfl, e144]
          refine (ih (k + 1) g2 _ (by omega) (by omega) x2 mb2 ah2).mono (fun r g3 y => ?_)
          obtain ⟨y1, y2, y3, y4⟩ := y
          refine ⟨y1, y2, k2.trans y3, ?_⟩
          rcases y4 with ⟨u1, u2, u3, u4⟩ | u
          · exact Or.inl ⟨u1, u2, u3.trans y32, u4.trans y33⟩
          · exact Or.inr u
        | false =>
          rw [hcm, if_neg (by decide)] at x1
          obtain ⟨o0, o1, o2, o3⟩ := r12 x2
          rw [x1, if_neg (by decide), if_neg (by decide), gR_ok o0, o1, aI_n o2 (by omega) (by decide), o3, rcv_ok o0, f_wrong o0, cl_ok]
          obtain ⟨y1, y2, y3, y4⟩ := x2.wr (x := nI m) (y := nI (p_hg P m k))
          exact ok_some ⟨y1, mb2.fq q3233 (by unfold F33; omega) (fun z => z) (fun z => z), k2.trans y2, Or.inr ⟨p_hg P m k, rfl, rfl, y3, y4⟩⟩
    · rw [if_neg (by omega)]
      have : hsF P m i l k = [] := by
        unfold hsF
        rw [show p_nh P m - k = 0 by omega]; rfl
      rw [this, List.nil_append]
      exact rest h t js mb
theorem so_3 (lm : LM (hT h) (hR h) q) {i : Nat} (hm : m < 8) (hi : i < 60) (x3 x4 x5 : Int32) : BX12_sendOn_3 100000 (some q) (nI m) (nI i) x3 x4 x5 0 h = BX12_sendOn_46 100000 (some q) (nI m) (nI i) x3 x4 x5 (nI (6 * m)) (wIr h (q + 30) (ic (hI h (q + 26)) (hI h (q + 30)) (16 * (60 * m + i)) 0 16)) := by
  obtain ⟨mt0, ⟨mr1, mt1⟩, ⟨mr2, mt2⟩, ⟨mr3, mt3⟩, ⟨mr4, mt4⟩, ⟨mr5, mt5⟩, ⟨mr6, mt6⟩, ⟨mr7, mt7⟩, ⟨mr8, mt8⟩, ⟨mr9, mt9⟩, ⟨mr10, mt10⟩, ⟨mr11, mt11⟩, ⟨mr12, mt12⟩, ⟨mr13, mt13⟩, ⟨mr14, mt14⟩, ⟨mr15, mt15⟩, ⟨mr16, mt16⟩, ⟨mr17, mt17⟩, ⟨mr18, mt18⟩, ⟨mr19, mt19⟩, ⟨mr20, mt20⟩, ⟨mr21, mt21⟩, ⟨mr22, mt22⟩, ⟨mr23, mt23⟩, ⟨mr24, mt24⟩, ⟨mr25, mt25⟩, ⟨mr26, mt26⟩, ⟨mr27, mt27⟩, ⟨mr28, mt28⟩, ⟨mr29, mt29⟩, ⟨mr30, mt30⟩, ⟨mr31, mt31⟩, ⟨mr32, mt32⟩, ⟨mr33, mt33⟩, ⟨mr34, mt34⟩, ⟨mr35, mt35⟩, ⟨mr36, mt36⟩, ⟨mr37, mt37⟩, ⟨mr38, mt38⟩, ⟨mr39, mt39⟩, ⟨mr40, mt40⟩, ⟨mr41, mt41⟩, ⟨mr42, mt42⟩, ⟨mr43, mt43⟩⟩ := id lm
  refine cpl (fun n k h => BX12_sendOn_3 n (some q) (nI m) (nI i) x3 x4 x5 k h) (fun g => BX12_sendOn_46 100000 (some q) (nI m) (nI i) x3 x4 x5 (nI (6 * m)) g) (16 * (60 * m + i)) 0 16 (hI h (q + 26)) (by omega) (fun n k g hk e1 e2 e3 => ?_) (fun n g e1 e2 e3 => ?_)
  · show BX12_sendOn_3 (n + 1) _ _ _ _ _ _ _ _ = _
    rw [BX12_sendOn_3]
    have t0 : hT g q = some (.inl 11) := by rw [e1]; exact mt0
    have t26 : hT g (q + 26) = some (.inr (.int, 7680)) := by rw [e1]; exact mt26
    have t30 : hT g (q + 30) = some (.inr (.int, 16)) := by rw [e1]; exact mt30
    rw [nl_16, if_lt (by omega) (by decide), if_pos hk, gR_ok t0, e2, mr30, gR_ok t0, e2, mr26, nl_60, pk_mul, nI_add, pk_mul, nI_add, aI_n t26 (by omega) (by decide), sI_n t30 (by omega) (by decide), nI_1, e3 _ (by omega), Nat.zero_add]
  · show BX12_sendOn_3 (n + 1) _ _ _ _ _ _ _ _ = _
    rw [BX12_sendOn_3]
    rw [if_neg (by decide), nl_6, pk_mul]
theorem m_sendOn (js : JS h q P m t) (mb : Mb h q s) (pw : PW P) (w1 : wfS s.1 s.2.1) (w2 : wfS 16 s.2.2) (hm : m < p_nm P) {i e : Nat} (hi : i < p_no P m) (he : t.1 i = some e) (hod : j_od P (p_op P m i) (p_A P m i) (p_B P m i) = true) (htg : j_tg P m i = true) (hnx : j_nx (p_op P m i) = true → i + 1 < p_no P m) :
    Ok (FX12_sendOn (some q) (nI m) (nI i) (nI (p_op P m i)) (p_A P m i) (b2i (j_nx (p_op P m i))) h) (SnQ q P m s h (j_send t (j_hs P m i (t.2.2.1 i) ++ j_on P m i s))) := by
  have hm8 : m < 8 := by have := pw.1; omega
  have wm := pw.2.2.2.1 m hm
  have b4 := wm.2.2.2.1
  have y4 := ((js.2.2.1 i (by omega)).2 e he).2.2.2
  have hb : j_hb P m i = true := by
    unfold j_tg at htg
    rw [Bool.and_eq_true] at htg
    exact htg.2
  unfold FX12_sendOn
  rw [so_3 js.1 hm8 (by omega)]
  have f1 : Fq q Fz (fun b => b = q + 30) h (wIr h (q + 30) (ic (hI h (q + 26)) (hI h (q + 30)) (16 * (60 * m + i)) 0 16)) := Fq.wIr (A := fun b => b = q + 30) rfl (by omega)
  have ah1 : Ah (wIr h (q + 30) (ic (hI h (q + 26)) (hI h (q + 30)) (16 * (60 * m + i)) 0 16)) q (t.2.2.1 i) := by
    intro j hj
    rw [hI_wIr_s]
    have := ic_in (s := hI h (q + 26)) (d := hI h (q + 30)) (sp := 16 * (60 * m + i)) (dp := 0) hj
    rw [Nat.zero_add] at this
    rw [this]
    exact y4 j hj
  generalize wIr h (q + 30) (ic (hI h (q + 26)) (hI h (q + 30)) (16 * (60 * m + i)) 0 16) = g1 at f1 ah1 ⊢
  have js1 : JS g1 q P m t := js.fq f1 ⟨fun z => z, fun z => z, fun z => z⟩ (fun b h1 h2 => by (try dsimp only); omega)
  have mb1 : Mb g1 q s := mb.fq f1 (fun z => z) (by (try dsimp only); omega) (by (try dsimp only); omega)
  have k1 : Fj q m h g1 := Fj.of f1 (fun k z => z.elim) (fun b z => by (try dsimp only at z); omega)
  have := so_46 (q := q) (s := s) (l := t.2.2.1 i) (ys := j_on P m i s) pw (js.2.2.2.2 i e he).2 hm (by omega) hb (fun g t' j1 m1 => so_own j1 m1 pw w1 w2 hm hi hod htg hnx) 100000 0 g1 t (by omega) (by have := wm.2.2.2.2.1; omega) js1 mb1 ah1
  rw [hsF_0, Nat.add_zero] at this
  refine this.mono (fun r g y => ?_)
  obtain ⟨y1, y2, y3, y4⟩ := y
  refine ⟨y1, y2, k1.trans y3, ?_⟩
  rcases y4 with ⟨u1, u2, u3, u4⟩ | u
  · exact Or.inl ⟨u1, u2, by rw [u3]; exact f1.2.2.2.2.2 32 (fun z => z), by rw [u4]; exact f1.2.2.2.2.2 33 (fun z => z)⟩
  · exact Or.inr u
end MI
