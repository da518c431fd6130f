/-! the model: done -/
section MJ
variable {h g : Hp} {q m : Nat} {P : Pg} {t : Tab} {i e : Nat}
def DnQ (q : Nat) (P : Pg) (m : Nat) (h : Hp) (R : Nat × Nat × Tab) : Int32 → Hp → Prop := fun r g => JS g q P m R.2.2 ∧ Fj q m h g ∧ r = (if R.1 = 0 then 0 else -10 - nI R.1) ∧ (R.1 = 0 → hI g q 32 = hI h q 32 ∧ hI g q 33 = hI h q 33) ∧ (¬ R.1 = 0 → hI g q 32 = nI m ∧ hI g q 33 = nI R.2.1)
theorem dn_fj {k : Hp} {R : Nat × Nat × Tab} {r : Int32} (f : Fj q m h k) (e32 : hI k q 32 = hI h q 32) (e33 : hI k q 33 = hI h q 33) (x : DnQ q P m k R r g) : DnQ q P m h R r g := by
  obtain ⟨x1, x2, x3, x4, x5⟩ := x
  exact ⟨x1, f.trans x2, x3, fun z => by rw [← e32, ← e33]; exact x4 z, x5⟩
theorem st_f {f : Nat} (hf : f ≠ 0) (ho : (j_own P m i (t_sh t i)).1 = f) : j_step P m i t = (f, i, t_und t i) := by
  unfold j_step
  rw [if_neg (by rw [ho]; exact hf), ho]
theorem dn_wrong (js : JS h q P m (t_und t i)) {f : Nat} (hf : f ≠ 0) (ho : (j_own P m i (t_sh t i)).1 = f) : Ok (rcv h (some q) 11 <| cl (FX12_wrong (some q) (nI m) (nI i) (nI f) h) fun v h2 => some (v, h2)) (DnQ q P m h (j_step P m i t)) := by
  rw [st_f hf ho, rcv_ok js.1.1, f_wrong js.1.1, cl_ok]
  obtain ⟨y1, y2, y3, y4⟩ := js.wr (x := nI m) (y := nI i)
  exact ok_some ⟨y1, y2, by rw [if_neg hf], fun z => absurd z hf, fun _ => ⟨y3, y4⟩⟩
theorem dn_290 (pw : PW P) (hm : m < p_nm P) (hi : i < p_no P m) (he : t.1 i = some e) (hod : j_od P (p_op P m i) (p_A P m i) (p_B P m i) = true) (htg : j_tg P m i = true) (hnx : j_nx (p_op P m i) = true → i + 1 < p_no P m) {S : Sh} (ho : j_own P m i (t_sh t i) = (0, S)) (js : JS h q P m (t_und t i)) (mv : Mv h q S.1 S.2.1 S.2.2) (hd : S.1 ≤ 12) (w1 : wfS S.1 S.2.1) (w2 : wfS 16 S.2.2) :
    Ok (BX12_done_290 (some q) (nI m) (nI i) (nI (p_op P m i)) (p_A P m i) (b2i (j_nx (p_op P m i))) h) (DnQ q P m h (j_step P m i t)) := by
  unfold BX12_done_290
  rw [rcv_ok js.1.1]
  refine ok_cl (m_keep js.1 mv hd) (fun _ g1 x => ?_)
  obtain ⟨mb, f1⟩ := x
  have js1 : JS g1 q P m (t_und t i) := js.fq f1 ⟨by unfold F37; omega, by unfold F37; omega, by unfold F37; omega⟩ (fun b h1 h2 => by unfold A32; omega)
  have k1 : Fj q m h g1 := Fj.of f1 (fun k z => Or.inr (Or.inr (Or.inr z))) (fun b z => by unfold A32 at z; omega)
  rw [rcv_ok js1.1.1]
  refine ok_cl (m_sendOn js1 mb pw w1 w2 hm hi (show (t_und t i).1 i = some e from he) hod htg hnx) (fun r g2 y => ok_some ?_)
  refine dn_fj k1 (f1.2.2.2.2.2 32 (by unfold F37; omega)) (f1.2.2.2.2.2 33 (by unfold F37; omega)) ?_
  have ej : (t_und t i).2.2.1 i = t.2.2.1 i := rfl
  rw [ej] at y
  obtain ⟨y1, y2, y3, y4⟩ := y
  unfold j_step
  rw [ho, if_pos rfl]
  try dsimp only
  rcases y4 with ⟨u1, u2, u3, u4⟩ | ⟨p, u1, u2, u3, u4⟩
  · rw [if_pos u1]
    exact ⟨y1, y3, by rw [u2]; rfl, fun _ => ⟨u3, u4⟩, fun z => absurd rfl z⟩
  · rw [if_neg (by rw [u1]; simp), u1]
    exact ⟨y1, y3, by rw [u2]; show (-16 : Int32) = -10 - nI 6; decide, fun z => (by cases z), fun _ => ⟨u3, u4⟩⟩
theorem jp_l {op a b d : Nat} {σ l : Nat → Nat} (h6 : ¬ op = 6) : (j_put P op a b d σ l).2.2 = l := by
  unfold j_put
  split
  · rfl
  · first
    | rfl
    | (split <;> rfl)
    | (rw [if_neg h6]; split <;> rfl)
theorem jp_6 {a b d : Nat} {σ l : Nat → Nat} : j_put P 6 a b d σ l = (d, σ, dh (wrl l a b)) := by
  unfold j_put
  rw [if_neg (by omega), if_pos rfl]
theorem dn_275 (pw : PW P) (hm : m < p_nm P) (hi : i < p_no P m) (he : t.1 i = some e) (hod : j_od P (p_op P m i) (p_A P m i) (p_B P m i) = true) (htg : j_tg P m i = true) (hnx : j_nx (p_op P m i) = true → i + 1 < p_no P m) {S : Sh} {d : Nat} (hS : S = j_put P (p_op P m i) (cN (p_A P m i)) (cN (p_B P m i)) d (t.2.1 i) (t.2.2.1 i)) (ho : j_own P m i (t_sh t i) = (0, S)) (js : JS h q P m (t_und t i)) (mv : Mv h q S.1 S.2.1 (t.2.2.1 i)) (hd : S.1 ≤ 12) (w1 : wfS S.1 S.2.1) :
    Ok (BX12_done_275 (some q) (nI m) (nI i) (nI (p_op P m i)) (p_A P m i) (p_B P m i) (b2i (j_nx (p_op P m i))) h) (DnQ q P m h (j_step P m i t)) := by
  have e4 := (pw.2.2.2.1 m hm).2.2.2.2.2.2.2.1 i hi
  have w2 := (js.2.2.2.2 i e he).2
  have w2 : wfS 16 (t.2.2.1 i) := w2
  unfold BX12_done_275
  rw [nl_6, if_eq (by omega) (by decide)]
  by_cases c6 : p_op P m i = 6
  · have hod2 : (wi (p_B P m i) 5 && wi (p_A P m i) (17 - wd (cN (p_B P m i)))) = true := by rw [c6] at hod; exact hod
    rw [Bool.and_eq_true] at hod2
    obtain ⟨b, hb, eb, ecb⟩ := wi_ex (n := 5) (by decide) hod2.1
    have hw := wd_le b
    obtain ⟨a, ha, ea, eca⟩ := wi_ex (by omega) hod2.2
    rw [ecb] at ha
    have eS : S = (d, t.2.1 i, dh (wrl (t.2.2.1 i) a b)) := by rw [hS, c6, jp_6, eca, ecb]
    rw [if_pos c6, rcv_ok js.1.1]
    have st := m_store js.1 mv w2 (a := a) (k := b) hb (by omega)
    rw [← ea, ← eb] at st
    refine ok_cl st (fun _ g1 x => ?_)
    obtain ⟨x1, x2, x3⟩ := x
    have js1 : JS g1 q P m (t_und t i) := js.fq x2 n29a (fun b h1 h2 => by unfold A28o; omega)
    refine (dn_290 pw hm hi he hod htg hnx ho js1 (by rw [eS] at x1 ⊢; exact x1) hd w1 (by rw [eS]; exact wf_dh _)).mono (fun r g2 y => ?_)
    exact dn_fj (Fj.of x2 (fun k z => Or.inl z) (fun b z => by unfold A28o at z; omega)) (x2.2.2.2.2.2 32 (by unfold F29; omega)) (x2.2.2.2.2.2 33 (by unfold F29; omega)) y
  · rw [if_neg c6]
    have e2 : S.2.2 = t.2.2.1 i := by rw [hS]; exact jp_l c6
    exact dn_290 pw hm hi he hod htg hnx ho js (by rw [e2]; exact mv) hd w1 (by rw [e2]; exact w2)
theorem dn_198 (pw : PW P) (hm : m < p_nm P) (hi : i < p_no P m) (he : t.1 i = some e) (hod : j_od P (p_op P m i) (p_A P m i) (p_B P m i) = true) (htg : j_tg P m i = true) {S : Sh} {d : Nat} (hS : S = j_put P (p_op P m i) (cN (p_A P m i)) (cN (p_B P m i)) d (t.2.1 i) (t.2.2.1 i)) (ho : j_own P m i (t_sh t i) = j_end P m i S) (js : JS h q P m (t_und t i)) (mv : Mv h q S.1 S.2.1 (t.2.2.1 i)) (w1 : wfS S.1 S.2.1) :
    Ok (BX12_done_198 (some q) (nI m) (nI i) (nI (p_op P m i)) (p_A P m i) (p_B P m i) h) (DnQ q P m h (j_step P m i t)) := by
  have wm := pw.2.2.2.1 m hm
  have e4 := wm.2.2.2.2.2.2.2.1 i hi
  have b4 := wm.2.2.2.1
  have hm8 : m < 8 := by have := pw.1; omega
  have lm := js.1
  have t0 : hT h q = some (.inl 11) := lm.1
  have r5 : hR h q 5 = some (q + 5) := by obtain ⟨mt0, ⟨mr1, mt1⟩, ⟨mr2, mt2⟩, ⟨mr3, mt3⟩, ⟨mr4, mt4⟩, ⟨mr5, mt5⟩, ⟨mr6, mt6⟩, ⟨mr7, mt7⟩, ⟨mr8, mt8⟩, ⟨mr9, mt9⟩, ⟨mr10, mt10⟩, ⟨mr11, mt11⟩, ⟨mr12, mt12⟩, ⟨mr13, mt13⟩, ⟨mr14, mt14⟩, ⟨mr15, mt15⟩, ⟨mr16, mt16⟩, ⟨mr17, mt17⟩, ⟨mr18, mt18⟩, ⟨mr19, mt19⟩, ⟨mr20, mt20⟩, ⟨mr21, mt21⟩, ⟨mr22, mt22⟩, ⟨mr23, mt23⟩, ⟨mr24, mt24⟩, ⟨mr25, mt25⟩, ⟨mr26, mt26⟩, ⟨mr27, mt27⟩, ⟨mr28, mt28⟩, ⟨mr29, mt29⟩, ⟨mr30, mt30⟩, ⟨mr31, mt31⟩, ⟨mr32, mt32⟩, ⟨mr33, mt33⟩, ⟨mr34, mt34⟩, ⟨mr35, mt35⟩, ⟨mr36, mt36⟩, ⟨mr37, mt37⟩, ⟨mr38, mt38⟩, ⟨mr39, mt39⟩, ⟨mr40, mt40⟩, ⟨mr41, mt41⟩, ⟨mr42, mt42⟩, ⟨mr43, mt43⟩⟩ := id lm; exact mr5
  have t5 : hT h (q + 5) = some (.inr (.int, 8)) := by obtain ⟨mt0, ⟨mr1, mt1⟩, ⟨mr2, mt2⟩, ⟨mr3, mt3⟩, ⟨mr4, mt4⟩, ⟨mr5, mt5⟩, ⟨mr6, mt6⟩, ⟨mr7, mt7⟩, ⟨mr8, mt8⟩, ⟨mr9, mt9⟩, ⟨mr10, mt10⟩, ⟨mr11, mt11⟩, ⟨mr12, mt12⟩, ⟨mr13, mt13⟩, ⟨mr14, mt14⟩, ⟨mr15, mt15⟩, ⟨mr16, mt16⟩, ⟨mr17, mt17⟩, ⟨mr18, mt18⟩, ⟨mr19, mt19⟩, ⟨mr20, mt20⟩, ⟨mr21, mt21⟩, ⟨mr22, mt22⟩, ⟨mr23, mt23⟩, ⟨mr24, mt24⟩, ⟨mr25, mt25⟩, ⟨mr26, mt26⟩, ⟨mr27, mt27⟩, ⟨mr28, mt28⟩, ⟨mr29, mt29⟩, ⟨mr30, mt30⟩, ⟨mr31, mt31⟩, ⟨mr32, mt32⟩, ⟨mr33, mt33⟩, ⟨mr34, mt34⟩, ⟨mr35, mt35⟩, ⟨mr36, mt36⟩, ⟨mr37, mt37⟩, ⟨mr38, mt38⟩, ⟨mr39, mt39⟩, ⟨mr40, mt40⟩, ⟨mr41, mt41⟩, ⟨mr42, mt42⟩, ⟨mr43, mt43⟩⟩ := id lm; exact mt5
  have e5 := (js.2.1.2.1 m hm).1.2.2.2.1
  have v1 := mv.1.1
  have v2 := mv.1.2
  have y248 : ¬ 12 < S.1 → Ok (BX12_done_248 (some q) (nI m) (nI i) (nI (p_op P m i)) (p_A P m i) (p_B P m i) (b2i (j_nx (p_op P m i))) h) (DnQ q P m h (j_step P m i t)) := by
    intro c12
    have go : ¬ (j_nx (p_op P m i) = true ∧ p_no P m ≤ i + 1) → Ok (BX12_done_275 (some q) (nI m) (nI i) (nI (p_op P m i)) (p_A P m i) (p_B P m i) (b2i (j_nx (p_op P m i))) h) (DnQ q P m h (j_step P m i t)) := by
      intro z
      refine dn_275 pw hm hi he hod htg (fun y => by
        by_cases u : i + 1 < p_no P m
        · exact u
        · exact absurd ⟨y, by omega⟩ z) hS ?_ js mv (by omega) w1
      rw [ho]
      unfold j_end
      rw [if_neg c12, if_neg z]
    unfold BX12_done_248
    rw [b2i_if]
    cases hx : j_nx (p_op P m i) with
    | false =>
      rw [hx] at go
      rw [if_neg (by decide)]
      exact go (fun z => by cases z.1)
    | true =>
      rw [hx] at go
      rw [if_pos rfl, gR_ok t0, r5, aI_n t5 hm8 (by decide), e5, nI_1, if_eq (by omega) (by omega)]
      by_cases c : i + 1 = p_no P m
      · rw [if_pos c]
        refine dn_wrong (f := 1) js (by omega) ?_
        rw [ho]
        unfold j_end
        rw [if_neg c12, if_pos ⟨hx, by omega⟩]
      · rw [if_neg c]
        exact go (fun z => by omega)
  unfold BX12_done_198 BX12_done_247
  rw [gI_ok t0, v1, nl_12, if_lt (by decide) (by omega)]
  by_cases c12 : 12 < S.1
  · rw [if_pos c12]
    refine dn_wrong (f := 4) js (by omega) ?_
    rw [ho]
    unfold j_end
    rw [if_pos c12]
  · rw [if_neg c12, nl_20, if_eq (by omega) (by decide), nl_23, if_eq (by omega) (by decide), nl_31, if_eq (by omega) (by decide), nl_34, if_eq (by omega) (by decide)]
    have y := y248 c12
    by_cases cx : p_op P m i = 20 ∨ p_op P m i = 23 ∨ p_op P m i = 31 ∨ p_op P m i = 34
    · have : j_nx (p_op P m i) = false := decide_eq_false (by omega)
      rw [this] at y
      rw [show b2i false = 0 from rfl] at y
      by_cases x1 : p_op P m i = 20
      · rw [if_pos x1]; exact y
      · rw [if_neg x1]
        by_cases x2 : p_op P m i = 23
        · rw [if_pos x2]; exact y
        · rw [if_neg x2]
          by_cases x3 : p_op P m i = 31
          · rw [if_pos x3]; exact y
          · rw [if_neg x3, if_pos (by omega)]; exact y
    · have : j_nx (p_op P m i) = true := decide_eq_true (by omega)
      rw [this] at y
      rw [show b2i true = 1 from rfl] at y
      rw [if_neg (by omega), if_neg (by omega), if_neg (by omega), if_neg (by omega)]
      exact y
theorem dn_129 (pw : PW P) (hm : m < p_nm P) (hi : i < p_no P m) (he : t.1 i = some e) (hod : j_od P (p_op P m i) (p_A P m i) (p_B P m i) = true) (htg : j_tg P m i = true) {S : Sh} {d : Nat} (htk : j_take P (p_op P m i) (cN (p_A P m i)) (cN (p_B P m i)) e (t.2.1 i) = some d) (hS : S = j_put P (p_op P m i) (cN (p_A P m i)) (cN (p_B P m i)) d (t.2.1 i) (t.2.2.1 i)) (js : JS h q P m (t_und t i)) (mv : Mv h q S.1 S.2.1 (t.2.2.1 i)) (w1 : wfS S.1 S.2.1) :
    Ok (BX12_done_129 (some q) (nI m) (nI i) (nI (p_op P m i)) (p_A P m i) (p_B P m i) h) (DnQ q P m h (j_step P m i t)) := by
  have wm := pw.2.2.2.1 m hm
  have e4 := wm.2.2.2.2.2.2.2.1 i hi
  have hm8 : m < 8 := by have := pw.1; omega
  have lm := js.1
  have t0 : hT h q = some (.inl 11) := lm.1
  have r1 : hR h q 1 = some (q + 1) := by obtain ⟨mt0, ⟨mr1, mt1⟩, ⟨mr2, mt2⟩, ⟨mr3, mt3⟩, ⟨mr4, mt4⟩, ⟨mr5, mt5⟩, ⟨mr6, mt6⟩, ⟨mr7, mt7⟩, ⟨mr8, mt8⟩, ⟨mr9, mt9⟩, ⟨mr10, mt10⟩, ⟨mr11, mt11⟩, ⟨mr12, mt12⟩, ⟨mr13, mt13⟩, ⟨mr14, mt14⟩, ⟨mr15, mt15⟩, ⟨mr16, mt16⟩, ⟨mr17, mt17⟩, ⟨mr18, mt18⟩, ⟨mr19, mt19⟩, ⟨mr20, mt20⟩, ⟨mr21, mt21⟩, ⟨mr22, mt22⟩, ⟨mr23, mt23⟩, ⟨mr24, mt24⟩, ⟨mr25, mt25⟩, ⟨mr26, mt26⟩, ⟨mr27, mt27⟩, ⟨mr28, mt28⟩, ⟨mr29, mt29⟩, ⟨mr30, mt30⟩, ⟨mr31, mt31⟩, ⟨mr32, mt32⟩, ⟨mr33, mt33⟩, ⟨mr34, mt34⟩, ⟨mr35, mt35⟩, ⟨mr36, mt36⟩, ⟨mr37, mt37⟩, ⟨mr38, mt38⟩, ⟨mr39, mt39⟩, ⟨mr40, mt40⟩, ⟨mr41, mt41⟩, ⟨mr42, mt42⟩, ⟨mr43, mt43⟩⟩ := id lm; exact mr1
  have t1 : hT h (q + 1) = some (.inr (.int, 8)) := by obtain ⟨mt0, ⟨mr1, mt1⟩, ⟨mr2, mt2⟩, ⟨mr3, mt3⟩, ⟨mr4, mt4⟩, ⟨mr5, mt5⟩, ⟨mr6, mt6⟩, ⟨mr7, mt7⟩, ⟨mr8, mt8⟩, ⟨mr9, mt9⟩, ⟨mr10, mt10⟩, ⟨mr11, mt11⟩, ⟨mr12, mt12⟩, ⟨mr13, mt13⟩, ⟨mr14, mt14⟩, ⟨mr15, mt15⟩, ⟨mr16, mt16⟩, ⟨mr17, mt17⟩, ⟨mr18, mt18⟩, ⟨mr19, mt19⟩, ⟨mr20, mt20⟩, ⟨mr21, mt21⟩, ⟨mr22, mt22⟩, ⟨mr23, mt23⟩, ⟨mr24, mt24⟩, ⟨mr25, mt25⟩, ⟨mr26, mt26⟩, ⟨mr27, mt27⟩, ⟨mr28, mt28⟩, ⟨mr29, mt29⟩, ⟨mr30, mt30⟩, ⟨mr31, mt31⟩, ⟨mr32, mt32⟩, ⟨mr33, mt33⟩, ⟨mr34, mt34⟩, ⟨mr35, mt35⟩, ⟨mr36, mt36⟩, ⟨mr37, mt37⟩, ⟨mr38, mt38⟩, ⟨mr39, mt39⟩, ⟨mr40, mt40⟩, ⟨mr41, mt41⟩, ⟨mr42, mt42⟩, ⟨mr43, mt43⟩⟩ := id lm; exact mt1
  have r31 : hR h q 31 = some (q + 28) := by obtain ⟨mt0, ⟨mr1, mt1⟩, ⟨mr2, mt2⟩, ⟨mr3, mt3⟩, ⟨mr4, mt4⟩, ⟨mr5, mt5⟩, ⟨mr6, mt6⟩, ⟨mr7, mt7⟩, ⟨mr8, mt8⟩, ⟨mr9, mt9⟩, ⟨mr10, mt10⟩, ⟨mr11, mt11⟩, ⟨mr12, mt12⟩, ⟨mr13, mt13⟩, ⟨mr14, mt14⟩, ⟨mr15, mt15⟩, ⟨mr16, mt16⟩, ⟨mr17, mt17⟩, ⟨mr18, mt18⟩, ⟨mr19, mt19⟩, ⟨mr20, mt20⟩, ⟨mr21, mt21⟩, ⟨mr22, mt22⟩, ⟨mr23, mt23⟩, ⟨mr24, mt24⟩, ⟨mr25, mt25⟩, ⟨mr26, mt26⟩, ⟨mr27, mt27⟩, ⟨mr28, mt28⟩, ⟨mr29, mt29⟩, ⟨mr30, mt30⟩, ⟨mr31, mt31⟩, ⟨mr32, mt32⟩, ⟨mr33, mt33⟩, ⟨mr34, mt34⟩, ⟨mr35, mt35⟩, ⟨mr36, mt36⟩, ⟨mr37, mt37⟩, ⟨mr38, mt38⟩, ⟨mr39, mt39⟩, ⟨mr40, mt40⟩, ⟨mr41, mt41⟩, ⟨mr42, mt42⟩, ⟨mr43, mt43⟩⟩ := id lm; exact mr28
  have t28 : hT h (q + 28) = some (.inr (.int, 18)) := by obtain ⟨mt0, ⟨mr1, mt1⟩, ⟨mr2, mt2⟩, ⟨mr3, mt3⟩, ⟨mr4, mt4⟩, ⟨mr5, mt5⟩, ⟨mr6, mt6⟩, ⟨mr7, mt7⟩, ⟨mr8, mt8⟩, ⟨mr9, mt9⟩, ⟨mr10, mt10⟩, ⟨mr11, mt11⟩, ⟨mr12, mt12⟩, ⟨mr13, mt13⟩, ⟨mr14, mt14⟩, ⟨mr15, mt15⟩, ⟨mr16, mt16⟩, ⟨mr17, mt17⟩, ⟨mr18, mt18⟩, ⟨mr19, mt19⟩, ⟨mr20, mt20⟩, ⟨mr21, mt21⟩, ⟨mr22, mt22⟩, ⟨mr23, mt23⟩, ⟨mr24, mt24⟩, ⟨mr25, mt25⟩, ⟨mr26, mt26⟩, ⟨mr27, mt27⟩, ⟨mr28, mt28⟩, ⟨mr29, mt29⟩, ⟨mr30, mt30⟩, ⟨mr31, mt31⟩, ⟨mr32, mt32⟩, ⟨mr33, mt33⟩, ⟨mr34, mt34⟩, ⟨mr35, mt35⟩, ⟨mr36, mt36⟩, ⟨mr37, mt37⟩, ⟨mr38, mt38⟩, ⟨mr39, mt39⟩, ⟨mr40, mt40⟩, ⟨mr41, mt41⟩, ⟨mr42, mt42⟩, ⟨mr43, mt43⟩⟩ := id lm; exact mt28
  have e1 := (js.2.1.2.1 m hm).1.1
  have hre := wm.1
  have w2 : wfS 16 (t.2.2.1 i) := (js.2.2.2.2 i e he).2
  have v4 := mv.2.2
  have es : t_sh t i = (e, t.2.1 i, t.2.2.1 i) := by unfold t_sh; rw [he]; rfl
  have ho : j_own P m i (t_sh t i) = if p_op P m i = 5 ∧ ¬ t.2.2.1 i (cN (p_A P m i)) = cN (p_B P m i) ∨ p_op P m i = 7 ∧ ¬ t.2.2.1 i (cN (p_A P m i)) = 0 then (5, t_sh t i) else if p_op P m i = 34 ∧ ¬ cN (p_A P m i) = p_re P m then (8, t_sh t i) else j_end P m i S := by
    unfold j_own
    rw [hod, if_neg (by decide), htg, if_neg (by decide), es]
    try dsimp only
    rw [htk, hS]
  have y198 : ¬ (p_op P m i = 5 ∧ ¬ t.2.2.1 i (cN (p_A P m i)) = cN (p_B P m i) ∨ p_op P m i = 7 ∧ ¬ t.2.2.1 i (cN (p_A P m i)) = 0) → ¬ (p_op P m i = 34 ∧ ¬ cN (p_A P m i) = p_re P m) → Ok (BX12_done_198 (some q) (nI m) (nI i) (nI (p_op P m i)) (p_A P m i) (p_B P m i) h) (DnQ q P m h (j_step P m i t)) := by
    intro z1 z2
    rw [if_neg z1, if_neg z2] at ho
    exact dn_198 pw hm hi he hod htg hS ho js mv w1
  have y171 : ¬ (p_op P m i = 5 ∧ ¬ t.2.2.1 i (cN (p_A P m i)) = cN (p_B P m i) ∨ p_op P m i = 7 ∧ ¬ t.2.2.1 i (cN (p_A P m i)) = 0) → Ok (BX12_done_171 (some q) (nI m) (nI i) (nI (p_op P m i)) (p_A P m i) (p_B P m i) h) (DnQ q P m h (j_step P m i t)) := by
    intro z1
    unfold BX12_done_171
    rw [nl_34, if_eq (by omega) (by decide)]
    by_cases c34 : p_op P m i = 34
    · have hod2 : wi (p_A P m i) 6 = true := by rw [c34] at hod; exact hod
      obtain ⟨a, ha, ea, eca⟩ := wi_ex (n := 6) (by decide) hod2
      have y := y198 z1
      rw [if_pos c34, gR_ok t0, r1, aI_n t1 hm8 (by decide), e1]
      have z1' := z1
      rw [eca] at y ho z1'
      by_cases c : p_re P m = a
      · rw [if_pos (by rw [ea, c])]
        exact y (fun z => z.2 c.symm)
      · rw [if_neg (fun z => c (by rw [ea] at z; exact (nI_eq (by omega) (by omega)).mp z))]
        refine dn_wrong (f := 8) js (by omega) ?_
        rw [ho, if_neg z1', if_pos ⟨c34, fun z => c z.symm⟩]
    · rw [if_neg c34]
      exact y198 z1 (fun z => c34 z.1)
  have y163 : (p_op P m i = 5 ∧ ¬ t.2.2.1 i (cN (p_A P m i)) = cN (p_B P m i) ∨ p_op P m i = 7 ∧ ¬ t.2.2.1 i (cN (p_A P m i)) = 0) → Ok (BX12_done_163 (some q) (nI m) (nI i) h) (DnQ q P m h (j_step P m i t)) := by
    intro z
    unfold BX12_done_163
    refine dn_wrong (f := 5) js (by omega) ?_
    rw [ho, if_pos z]
  have y146 : ¬ (p_op P m i = 5 ∧ ¬ t.2.2.1 i (cN (p_A P m i)) = cN (p_B P m i)) → Ok (BX12_done_146 (some q) (nI m) (nI i) (nI (p_op P m i)) (p_A P m i) (p_B P m i) h) (DnQ q P m h (j_step P m i t)) := by
    intro z5
    unfold BX12_done_146
    rw [nl_7, if_eq (by omega) (by decide)]
    by_cases c7 : p_op P m i = 7
    · have hod2 : wi (p_A P m i) 16 = true := by rw [c7] at hod; exact hod
      obtain ⟨a, ha, ea, eca⟩ := wi_ex (n := 16) (by decide) hod2
      have hla := v4 a ha
      rw [eca] at y163 y171
      rw [if_pos c7, gR_ok t0, r31, ea, aI_n t28 (by omega) (by decide), hla.1, ie_0 (by omega), ← ea]
      by_cases c : t.2.2.1 i a = 0
      · rw [if_pos c]
        exact y171 (fun z => z.elim (fun z => by have := z.1; omega) (fun z => z.2 c))
      · rw [if_neg c]
        exact y163 (Or.inr ⟨c7, c⟩)
    · rw [if_neg c7]
      exact y171 (fun z => z.elim z5 (fun z => c7 z.1))
  unfold BX12_done_129
  rw [nl_5, if_eq (by omega) (by decide)]
  by_cases c5 : p_op P m i = 5
  · have hod2 : (wi (p_B P m i) 5 && wi (p_A P m i) (17 - wd (cN (p_B P m i)))) = true := by rw [c5] at hod; exact hod
    rw [Bool.and_eq_true] at hod2
    obtain ⟨b, hb, eb, ecb⟩ := wi_ex (n := 5) (by decide) hod2.1
    have hw := wd_le b
    obtain ⟨a, ha, ea, eca⟩ := wi_ex (by omega) hod2.2
    rw [ecb] at ha
    have isn := m_isIn js.1 mv w2 (a := a) (k := b) hb (by omega)
    rw [← ea, ← eb] at isn
    rw [if_pos c5, rcv_ok t0, isn, cl_ok, b2i_if]
    by_cases c : t.2.2.1 i a = b
    · rw [decide_eq_true c, if_pos rfl]
      exact y146 (fun z => z.2 (by rw [eca, ecb]; exact c))
    · rw [decide_eq_false c, if_neg (by decide)]
      exact y163 (Or.inl ⟨c5, by rw [eca, ecb]; exact c⟩)
  · rw [if_neg c5]
    exact y146 (fun z => c5 z.1)
theorem g_in8 {op : Nat} (hop : op < 36) (g : Hp) : FX12_in (Int32.toInt64 (nI op)) 8 16 g = some (b2i (decide (8 ≤ op ∧ op ≤ 16)), g) := by
  have h1 : (8 : Int64).toInt = 8 := rfl
  have h2 : (16 : Int64).toInt = 16 := rfl
  rw [f_in, i64_of32, nI_tI (by omega), h1, h2]
  by_cases c : 8 ≤ op ∧ op ≤ 16
  · rw [if_pos (by omega), decide_eq_true c]; rfl
  · rw [if_neg (by omega), decide_eq_false c]; rfl
theorem argL_lt {c : Nat} (w : PWm P c) : ∀ n, n ≤ p_na P c → ∀ k ∈ argL P c n, k < 5 := by
  intro n
  induction n with
  | zero => intro _ k hk; cases hk
  | succ n ih =>
    intro hn k hk
    rw [argL, List.mem_cons] at hk
    rcases hk with rfl | hk
    · exact w.2.2.2.2.2.2.1 n (by omega)
    · exact ih (by omega) k hk
theorem jk_lt (pw : PW P) {op : Nat} (hop : op < 36) {a b : Int32} (hod : j_od P op a b = true) : (∀ k ∈ j_tk P op (cN a) (cN b), k < 5) ∧ (j_pt P op (cN a) (cN b) < 6) := by
  rcases op36 hop with rfl | rfl | rfl | rfl | rfl | rfl | rfl | rfl | rfl | rfl | rfl | rfl | rfl | rfl | rfl | rfl | rfl | rfl | rfl | rfl | rfl | rfl | rfl | rfl | rfl | rfl | rfl | rfl | rfl | rfl | rfl | rfl | rfl | rfl | rfl | rfl
  · exact ⟨fun k hk => (by cases hk), by show 0 < 6; omega⟩
  · exact ⟨fun k hk => (by cases hk), by show 1 < 6; omega⟩
  · exact ⟨fun k hk => (by cases hk), by show 2 < 6; omega⟩
  · exact ⟨fun k hk => (by cases hk), by show 3 < 6; omega⟩
  · exact ⟨fun k hk => (by cases hk), by show 4 < 6; omega⟩
  · obtain ⟨x, hx, rfl, ex⟩ := wi_ex (n := 5) (by decide) (Bool.and_eq_true .. ▸ (show (wi b 5 && wi a (17 - wd (cN b))) = true from hod)).1
    exact ⟨fun k hk => (by cases hk), by show cN (nI x) < 6; omega⟩
  · obtain ⟨x, hx, rfl, ex⟩ := wi_ex (n := 5) (by decide) (Bool.and_eq_true .. ▸ (show (wi b 5 && wi a (17 - wd (cN b))) = true from hod)).1
    refine ⟨fun k hk => ?_, by show 5 < 6; omega⟩
    have hk : k ∈ [cN (nI x)] := hk
    rw [List.mem_singleton] at hk
    omega
  · exact ⟨fun k hk => (by cases hk), by show 5 < 6; omega⟩
  · exact ⟨fun k hk => (by cases hk), by show 5 < 6; omega⟩
  · exact ⟨fun k hk => (by cases hk), by show 5 < 6; omega⟩
  · exact ⟨fun k hk => (by cases hk), by show 5 < 6; omega⟩
  · exact ⟨fun k hk => (by cases hk), by show 5 < 6; omega⟩
  · exact ⟨fun k hk => (by cases hk), by show 5 < 6; omega⟩
  · exact ⟨fun k hk => (by cases hk), by show 5 < 6; omega⟩
  · exact ⟨fun k hk => (by cases hk), by show 5 < 6; omega⟩
  · exact ⟨fun k hk => (by cases hk), by show 5 < 6; omega⟩
  · exact ⟨fun k hk => (by cases hk), by show 5 < 6; omega⟩
  · have h2 : (wi a 12 && wi b 2) = true := hod
    rw [Bool.and_eq_true] at h2
    obtain ⟨x, hx, rfl, ex⟩ := wi_ex (n := 2) (by decide) h2.2
    refine ⟨fun k hk => ?_, by show cN (nI x) < 6; omega⟩
    have hk : k ∈ (if cN a < 8 then [cN (nI x), cN (nI x)] else if cN a = 11 then [cN (nI x)] else [0, cN (nI x)]) := hk
    have : k = cN (nI x) ∨ k = 0 := by
      split at hk
      · simp at hk; exact Or.inl hk
      · split at hk
        · simp at hk; exact Or.inl hk
        · simp at hk; omega
    omega
  · refine ⟨fun k hk => ?_, ?_⟩
    · have hk : k ∈ [if cN a = 3 then 1 else 0] := hk
      rw [List.mem_singleton] at hk
      split at hk <;> omega
    · show (if cN a = 4 then 1 else 0) < 6
      split <;> omega
  · refine ⟨fun k hk => ?_, by show 0 < 6; omega⟩
    have hk : k ∈ [kcm (cN a), kcm (cN a)] := hk
    have hq : kcm (cN a) < 5 := by unfold kcm; split <;> first | omega | (split <;> omega)
    simp at hk
    omega
  · exact ⟨fun k hk => (by cases hk), by show 5 < 6; omega⟩
  · exact ⟨fun k hk => by have hk : k ∈ [0] := hk; simp at hk; omega, by show 5 < 6; omega⟩
  · exact ⟨fun k hk => by have hk : k ∈ [4] := hk; simp at hk; omega, by show 5 < 6; omega⟩
  · exact ⟨fun k hk => by have hk : k ∈ [0] := hk; simp at hk; omega, by show 5 < 6; omega⟩
  · refine ⟨fun k hk => ?_, by show 4 < 6; omega⟩
    have hk : k ∈ List.replicate (cN b) 0 := hk
    have := List.eq_of_mem_replicate hk
    omega
  · refine ⟨fun k hk => ?_, ?_⟩
    · have hk : k ∈ [0, 4] := hk
      simp at hk
      omega
    · show kcl (cN b) < 6
      have := kcl_b (b := cN b)
      omega
  · refine ⟨fun k hk => ?_, by show 5 < 6; omega⟩
    have hk : k ∈ [kcl (cN b), 0, 4] := hk
    have := kcl_b (b := cN b)
    simp at hk
    omega
  · exact ⟨fun k hk => by have hk : k ∈ [4] := hk; simp at hk; omega, by show 0 < 6; omega⟩
  · exact ⟨fun k hk => by have hk : k ∈ [4] := hk; simp at hk; omega, by show 0 < 6; omega⟩
  · exact ⟨fun k hk => by have hk : k ∈ [4] := hk; simp at hk; omega, by show 4 < 6; omega⟩
  · exact ⟨fun k hk => (by cases hk), by show 4 < 6; omega⟩
  · exact ⟨fun k hk => by have hk : k ∈ [4] := hk; simp at hk; omega, by show 5 < 6; omega⟩
  · exact ⟨fun k hk => by have hk : k ∈ [4] := hk; simp at hk; omega, by show 5 < 6; omega⟩
  · exact ⟨fun k hk => by have hk : k ∈ [4] := hk; simp at hk; omega, by show 5 < 6; omega⟩
  · obtain ⟨x, hx, rfl, ex⟩ := wi_ex (n := 6) (by decide) hod
    refine ⟨fun k hk => ?_, by show 5 < 6; omega⟩
    have hk : k ∈ (if cN (nI x) = 5 then [] else [cN (nI x)]) := hk
    split at hk
    · cases hk
    · rw [List.mem_singleton] at hk; omega
  · have hn8 := pw.1
    obtain ⟨x, hx, rfl, ex⟩ := wi_ex (n := p_nm P) (by omega) hod
    have wx := pw.2.2.2.1 x hx
    refine ⟨fun k hk => ?_, ?_⟩
    · have hk : k ∈ argL P (cN (nI x)) (p_na P (cN (nI x))) := hk
      rw [ex] at hk
      exact argL_lt wx _ (by omega) k hk
    · show p_re P (cN (nI x)) < 6
      rw [ex]; exact wx.1
theorem m_done (js : JS h q P m (t_und t i)) (pw : PW P) (hm : m < p_nm P) (hi : i < p_no P m) (he : t.1 i = some e) : Ok (FX12_done (some q) (nI m) (nI i) h) (DnQ q P m h (j_step P m i t)) := by
  have wm := pw.2.2.2.1 m hm
  have e4 := wm.2.2.2.2.2.2.2.1 i hi
  have b4 := wm.2.2.2.1
  have hm8 : m < 8 := by have := pw.1; omega
  have lm := js.1
  have t0 : hT h q = some (.inl 11) := lm.1
  have r6 : hR h q 6 = some (q + 6) := by obtain ⟨mt0, ⟨mr1, mt1⟩, ⟨mr2, mt2⟩, ⟨mr3, mt3⟩, ⟨mr4, mt4⟩, ⟨mr5, mt5⟩, ⟨mr6, mt6⟩, ⟨mr7, mt7⟩, ⟨mr8, mt8⟩, ⟨mr9, mt9⟩, ⟨mr10, mt10⟩, ⟨mr11, mt11⟩, ⟨mr12, mt12⟩, ⟨mr13, mt13⟩, ⟨mr14, mt14⟩, ⟨mr15, mt15⟩, ⟨mr16, mt16⟩, ⟨mr17, mt17⟩, ⟨mr18, mt18⟩, ⟨mr19, mt19⟩, ⟨mr20, mt20⟩, ⟨mr21, mt21⟩, ⟨mr22, mt22⟩, ⟨mr23, mt23⟩, ⟨mr24, mt24⟩, ⟨mr25, mt25⟩, ⟨mr26, mt26⟩, ⟨mr27, mt27⟩, ⟨mr28, mt28⟩, ⟨mr29, mt29⟩, ⟨mr30, mt30⟩, ⟨mr31, mt31⟩, ⟨mr32, mt32⟩, ⟨mr33, mt33⟩, ⟨mr34, mt34⟩, ⟨mr35, mt35⟩, ⟨mr36, mt36⟩, ⟨mr37, mt37⟩, ⟨mr38, mt38⟩, ⟨mr39, mt39⟩, ⟨mr40, mt40⟩, ⟨mr41, mt41⟩, ⟨mr42, mt42⟩, ⟨mr43, mt43⟩⟩ := id lm; exact mr6
  have t6 : hT h (q + 6) = some (.inr (.int, 480)) := by obtain ⟨mt0, ⟨mr1, mt1⟩, ⟨mr2, mt2⟩, ⟨mr3, mt3⟩, ⟨mr4, mt4⟩, ⟨mr5, mt5⟩, ⟨mr6, mt6⟩, ⟨mr7, mt7⟩, ⟨mr8, mt8⟩, ⟨mr9, mt9⟩, ⟨mr10, mt10⟩, ⟨mr11, mt11⟩, ⟨mr12, mt12⟩, ⟨mr13, mt13⟩, ⟨mr14, mt14⟩, ⟨mr15, mt15⟩, ⟨mr16, mt16⟩, ⟨mr17, mt17⟩, ⟨mr18, mt18⟩, ⟨mr19, mt19⟩, ⟨mr20, mt20⟩, ⟨mr21, mt21⟩, ⟨mr22, mt22⟩, ⟨mr23, mt23⟩, ⟨mr24, mt24⟩, ⟨mr25, mt25⟩, ⟨mr26, mt26⟩, ⟨mr27, mt27⟩, ⟨mr28, mt28⟩, ⟨mr29, mt29⟩, ⟨mr30, mt30⟩, ⟨mr31, mt31⟩, ⟨mr32, mt32⟩, ⟨mr33, mt33⟩, ⟨mr34, mt34⟩, ⟨mr35, mt35⟩, ⟨mr36, mt36⟩, ⟨mr37, mt37⟩, ⟨mr38, mt38⟩, ⟨mr39, mt39⟩, ⟨mr40, mt40⟩, ⟨mr41, mt41⟩, ⟨mr42, mt42⟩, ⟨mr43, mt43⟩⟩ := id lm; exact mt6
  have r7 : hR h q 7 = some (q + 7) := by obtain ⟨mt0, ⟨mr1, mt1⟩, ⟨mr2, mt2⟩, ⟨mr3, mt3⟩, ⟨mr4, mt4⟩, ⟨mr5, mt5⟩, ⟨mr6, mt6⟩, ⟨mr7, mt7⟩, ⟨mr8, mt8⟩, ⟨mr9, mt9⟩, ⟨mr10, mt10⟩, ⟨mr11, mt11⟩, ⟨mr12, mt12⟩, ⟨mr13, mt13⟩, ⟨mr14, mt14⟩, ⟨mr15, mt15⟩, ⟨mr16, mt16⟩, ⟨mr17, mt17⟩, ⟨mr18, mt18⟩, ⟨mr19, mt19⟩, ⟨mr20, mt20⟩, ⟨mr21, mt21⟩, ⟨mr22, mt22⟩, ⟨mr23, mt23⟩, ⟨mr24, mt24⟩, ⟨mr25, mt25⟩, ⟨mr26, mt26⟩, ⟨mr27, mt27⟩, ⟨mr28, mt28⟩, ⟨mr29, mt29⟩, ⟨mr30, mt30⟩, ⟨mr31, mt31⟩, ⟨mr32, mt32⟩, ⟨mr33, mt33⟩, ⟨mr34, mt34⟩, ⟨mr35, mt35⟩, ⟨mr36, mt36⟩, ⟨mr37, mt37⟩, ⟨mr38, mt38⟩, ⟨mr39, mt39⟩, ⟨mr40, mt40⟩, ⟨mr41, mt41⟩, ⟨mr42, mt42⟩, ⟨mr43, mt43⟩⟩ := id lm; exact mr7
  have t7 : hT h (q + 7) = some (.inr (.int, 480)) := by obtain ⟨mt0, ⟨mr1, mt1⟩, ⟨mr2, mt2⟩, ⟨mr3, mt3⟩, ⟨mr4, mt4⟩, ⟨mr5, mt5⟩, ⟨mr6, mt6⟩, ⟨mr7, mt7⟩, ⟨mr8, mt8⟩, ⟨mr9, mt9⟩, ⟨mr10, mt10⟩, ⟨mr11, mt11⟩, ⟨mr12, mt12⟩, ⟨mr13, mt13⟩, ⟨mr14, mt14⟩, ⟨mr15, mt15⟩, ⟨mr16, mt16⟩, ⟨mr17, mt17⟩, ⟨mr18, mt18⟩, ⟨mr19, mt19⟩, ⟨mr20, mt20⟩, ⟨mr21, mt21⟩, ⟨mr22, mt22⟩, ⟨mr23, mt23⟩, ⟨mr24, mt24⟩, ⟨mr25, mt25⟩, ⟨mr26, mt26⟩, ⟨mr27, mt27⟩, ⟨mr28, mt28⟩, ⟨mr29, mt29⟩, ⟨mr30, mt30⟩, ⟨mr31, mt31⟩, ⟨mr32, mt32⟩, ⟨mr33, mt33⟩, ⟨mr34, mt34⟩, ⟨mr35, mt35⟩, ⟨mr36, mt36⟩, ⟨mr37, mt37⟩, ⟨mr38, mt38⟩, ⟨mr39, mt39⟩, ⟨mr40, mt40⟩, ⟨mr41, mt41⟩, ⟨mr42, mt42⟩, ⟨mr43, mt43⟩⟩ := id lm; exact mt7
  have r8 : hR h q 8 = some (q + 8) := by obtain ⟨mt0, ⟨mr1, mt1⟩, ⟨mr2, mt2⟩, ⟨mr3, mt3⟩, ⟨mr4, mt4⟩, ⟨mr5, mt5⟩, ⟨mr6, mt6⟩, ⟨mr7, mt7⟩, ⟨mr8, mt8⟩, ⟨mr9, mt9⟩, ⟨mr10, mt10⟩, ⟨mr11, mt11⟩, ⟨mr12, mt12⟩, ⟨mr13, mt13⟩, ⟨mr14, mt14⟩, ⟨mr15, mt15⟩, ⟨mr16, mt16⟩, ⟨mr17, mt17⟩, ⟨mr18, mt18⟩, ⟨mr19, mt19⟩, ⟨mr20, mt20⟩, ⟨mr21, mt21⟩, ⟨mr22, mt22⟩, ⟨mr23, mt23⟩, ⟨mr24, mt24⟩, ⟨mr25, mt25⟩, ⟨mr26, mt26⟩, ⟨mr27, mt27⟩, ⟨mr28, mt28⟩, ⟨mr29, mt29⟩, ⟨mr30, mt30⟩, ⟨mr31, mt31⟩, ⟨mr32, mt32⟩, ⟨mr33, mt33⟩, ⟨mr34, mt34⟩, ⟨mr35, mt35⟩, ⟨mr36, mt36⟩, ⟨mr37, mt37⟩, ⟨mr38, mt38⟩, ⟨mr39, mt39⟩, ⟨mr40, mt40⟩, ⟨mr41, mt41⟩, ⟨mr42, mt42⟩, ⟨mr43, mt43⟩⟩ := id lm; exact mr8
  have t8 : hT h (q + 8) = some (.inr (.int, 480)) := by obtain ⟨mt0, ⟨mr1, mt1⟩, ⟨mr2, mt2⟩, ⟨mr3, mt3⟩, ⟨mr4, mt4⟩, ⟨mr5, mt5⟩, ⟨mr6, mt6⟩, ⟨mr7, mt7⟩, ⟨mr8, mt8⟩, ⟨mr9, mt9⟩, ⟨mr10, mt10⟩, ⟨mr11, mt11⟩, ⟨mr12, mt12⟩, ⟨mr13, mt13⟩, ⟨mr14, mt14⟩, ⟨mr15, mt15⟩, ⟨mr16, mt16⟩, ⟨mr17, mt17⟩, ⟨mr18, mt18⟩, ⟨mr19, mt19⟩, ⟨mr20, mt20⟩, ⟨mr21, mt21⟩, ⟨mr22, mt22⟩, ⟨mr23, mt23⟩, ⟨mr24, mt24⟩, ⟨mr25, mt25⟩, ⟨mr26, mt26⟩, ⟨mr27, mt27⟩, ⟨mr28, mt28⟩, ⟨mr29, mt29⟩, ⟨mr30, mt30⟩, ⟨mr31, mt31⟩, ⟨mr32, mt32⟩, ⟨mr33, mt33⟩, ⟨mr34, mt34⟩, ⟨mr35, mt35⟩, ⟨mr36, mt36⟩, ⟨mr37, mt37⟩, ⟨mr38, mt38⟩, ⟨mr39, mt39⟩, ⟨mr40, mt40⟩, ⟨mr41, mt41⟩, ⟨mr42, mt42⟩, ⟨mr43, mt43⟩⟩ := id lm; exact mt8
  obtain ⟨o1, o2, o3⟩ := (js.2.1.2.1 m hm).2.2.1 i hi
  have hr : 60 * m + i < 480 := by omega
  have es : t_sh t i = (e, t.2.1 i, t.2.2.1 i) := by unfold t_sh; rw [he]; rfl
  have w1 : wfS e (t.2.1 i) := (js.2.2.2.2 i e he).1
  have hd : e ≤ 12 := ((js.2.2.1 i (by omega)).2 e he).1
  unfold FX12_done
  rw [gR_ok t0, r6, nl_60, pk_mul, nI_add, aI_n t6 hr (by decide), o1, gR_ok t0, r7, aI_n t7 hr (by decide), o2, gR_ok t0, r8, aI_n t8 hr (by decide), o3, rcv_ok t0]
  refine ok_cl (m_load (t := t_und t i) js.1 js.2.2.1 hm8 (by omega) he) (fun _ g1 x => ?_)
  obtain ⟨mv1, f1⟩ := x
  have mv1 : Mv g1 q e (t.2.1 i) (t.2.2.1 i) := mv1
  have js1 : JS g1 q P m (t_und t i) := js.fq f1 n29a (fun b h1 h2 => by unfold A28; omega)
  have k1 : Fj q m h g1 := Fj.of f1 (fun k z => Or.inl z) (fun b z => by unfold A28 at z; omega)
  have back : ∀ r g, DnQ q P m g1 (j_step P m i t) r g → DnQ q P m h (j_step P m i t) r g := fun r g y => dn_fj k1 (f1.2.2.2.2.2 32 (by unfold F29; omega)) (f1.2.2.2.2.2 33 (by unfold F29; omega)) y
  refine Ok.mono ?_ back
  rw [rcv_ok js1.1.1, g_od js1.1 js1.2.1 pw e4, cl_ok, b2i_if]
  cases hod : j_od P (p_op P m i) (p_A P m i) (p_B P m i) with
  | false =>
    rw [if_pos (by rfl)]
    refine dn_wrong (f := 7) js1 (by omega) ?_
    unfold j_own
    rw [hod, if_pos rfl]
  | true =>
    rw [if_neg (by decide), rcv_ok js1.1.1, g_tg js1.1 js1.2.1 pw hm hi (fun z => by rw [z] at hod; exact hod), cl_ok, b2i_if]
    cases htg : j_tg P m i with
    | false =>
      rw [if_pos (by rfl)]
      refine dn_wrong (f := 2) js1 (by omega) ?_
      unfold j_own
      rw [hod, if_neg (by decide), htg, if_pos rfl]
    | true =>
      rw [if_neg (by decide), g_in8 e4, cl_ok, b2i_if]
      have y121 : ∀ {g : Hp}, JS g q P m (t_und t i) → j_take P (p_op P m i) (cN (p_A P m i)) (cN (p_B P m i)) e (t.2.1 i) = none → Ok (BX12_done_121 (some q) (nI m) (nI i) g) (DnQ q P m g (j_step P m i t)) := by
        intro g jg hn
        unfold BX12_done_121
        refine dn_wrong (f := 3) jg (by omega) ?_
        unfold j_own
        rw [hod, if_neg (by decide), htg, if_neg (by decide), es]
        try dsimp only
        rw [hn]
      by_cases c8 : 8 ≤ p_op P m i ∧ p_op P m i ≤ 16
      · rw [decide_eq_true c8, if_pos rfl, rcv_ok js1.1.1]
        refine ok_cl (m_moves js1.1 mv1 hd c8.1 c8.2) (fun r g2 x => ?_)
        obtain ⟨f2, x⟩ := x
        have js2 : JS g2 q P m (t_und t i) := js1.fq f2 n29a (fun b h1 h2 => by unfold A27; omega)
        have k2 : Fj q m g1 g2 := Fj.of f2 (fun k z => Or.inl z) (fun b z => by unfold A27 at z; omega)
        have back2 : ∀ r g, DnQ q P m g2 (j_step P m i t) r g → DnQ q P m g1 (j_step P m i t) r g := fun r g y => dn_fj k2 (f2.2.2.2.2.2 32 (by unfold F29; omega)) (f2.2.2.2.2.2 33 (by unfold F29; omega)) y
        refine Ok.mono ?_ back2
        rcases x with ⟨x1, rfl, x3⟩ | ⟨x1, rfl⟩
        · rw [if_neg (by decide)]
          have ep : j_put P (p_op P m i) (cN (p_A P m i)) (cN (p_B P m i)) e (t.2.1 i) (t.2.2.1 i) = (mvD (p_op P m i) e, mvG (p_op P m i) e (t.2.1 i), t.2.2.1 i) := by unfold j_put; rw [if_pos c8]
          refine dn_129 (S := (mvD (p_op P m i) e, mvG (p_op P m i) e (t.2.1 i), t.2.2.1 i)) (d := e) pw hm hi he hod htg ?_ ep.symm js2 x3 (wf_mv c8.1 c8.2 w1 x1)
          unfold j_take
          rw [if_pos c8, if_pos x1]
        · rw [if_pos rfl]
          refine y121 js2 ?_
          unfold j_take
          rw [if_pos c8, if_neg (by rw [x1]; decide)]
      · rw [decide_eq_false c8, if_neg (by decide), rcv_ok js1.1.1]
        refine ok_cl (m_works js1.1 js1.2.1 pw mv1 w1 hd e4 hod c8) (fun r g2 x => ?_)
        obtain ⟨f2, x⟩ := x
        have js2 : JS g2 q P m (t_und t i) := js1.fq f2 n29a (fun b h1 h2 => by unfold A27; omega)
        have k2 : Fj q m g1 g2 := Fj.of f2 (fun k z => Or.inl z) (fun b z => by unfold A27 at z; omega)
        have back2 : ∀ r g, DnQ q P m g2 (j_step P m i t) r g → DnQ q P m g1 (j_step P m i t) r g := fun r g y => dn_fj k2 (f2.2.2.2.2.2 32 (by unfold F29; omega)) (f2.2.2.2.2.2 33 (by unfold F29; omega)) y
        refine Ok.mono ?_ back2
        have etk : j_take P (p_op P m i) (cN (p_A P m i)) (cN (p_B P m i)) e (t.2.1 i) = takeL (t.2.1 i) (j_tk P (p_op P m i) (cN (p_A P m i)) (cN (p_B P m i))) e := by unfold j_take; rw [if_neg c8]
        obtain ⟨hk, hp⟩ := jk_lt pw e4 hod
        rcases x with ⟨d', x1, rfl, x3⟩ | ⟨x1, rfl⟩
        · rw [if_neg (by decide)]
          have wd' := wf_takes _ hk x1 w1
          have eD : (j_put P (p_op P m i) (cN (p_A P m i)) (cN (p_B P m i)) d' (t.2.1 i) (t.2.2.1 i)).1 = (if j_pt P (p_op P m i) (cN (p_A P m i)) (cN (p_B P m i)) = 5 then d' else d' + wd (j_pt P (p_op P m i) (cN (p_A P m i)) (cN (p_B P m i)))) ∧ (j_put P (p_op P m i) (cN (p_A P m i)) (cN (p_B P m i)) d' (t.2.1 i) (t.2.2.1 i)).2.1 = (if j_pt P (p_op P m i) (cN (p_A P m i)) (cN (p_B P m i)) = 5 then t.2.1 i else spu (t.2.1 i) d' (j_pt P (p_op P m i) (cN (p_A P m i)) (cN (p_B P m i)))) := by
            by_cases c6 : p_op P m i = 6
            · rw [c6, jp_6]
              exact ⟨rfl, rfl⟩
            · unfold j_put
              rw [if_neg c8, if_neg c6]
              by_cases c5 : j_pt P (p_op P m i) (cN (p_A P m i)) (cN (p_B P m i)) = 5
              · rw [if_pos c5, if_pos c5, if_pos c5]; exact ⟨rfl, rfl⟩
              · rw [if_neg c5, if_neg c5, if_neg c5]; exact ⟨rfl, rfl⟩
          refine dn_129 (d := d') pw hm hi he hod htg (by rw [etk]; exact x1) rfl js2 (by rw [eD.1, eD.2]; exact x3) ?_
          rw [eD.1, eD.2]
          by_cases c5 : j_pt P (p_op P m i) (cN (p_A P m i)) (cN (p_B P m i)) = 5
          · rw [if_pos c5, if_pos c5]; exact wd'
          · rw [if_neg c5, if_neg c5]; exact wf_spu wd' (by omega)
        · rw [if_pos rfl]
          exact y121 js2 (by rw [etk]; exact x1)
end MJ
