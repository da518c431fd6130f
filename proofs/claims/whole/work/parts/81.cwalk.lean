/-! the class: a whole walk -/
def w_ans (W : Wk) : Nat := if 0 < W.1.1 then 2 else if W.2.2.1.1 = -1 then 0 else 1
def w_0 (P : Pg) (m : Nat) (gv : Nat → Int64) (L : Nat → Nat → Int64) : Wk := ((1, fun c => if c = 0 then (m, 0, 0, (fun _ => 0), argG P m gv (p_na P m) (L 0), (fun _ => 0)) else (0, 0, 0, (fun _ => 0), L c, (fun _ => 0))), (0, (fun _ => 0), (fun _ => 0), (fun _ => 0), (fun _ _ => 0)), (-1, -1, -1), (1, 0, 0), 0)
section CWk
variable {o : Nat} {ma ta : Nat → Nat} {P : Pg} {tt : Nat → Tab}
theorem cr_out {h : Hp} {W : Wk} (cw : CW h o ma W) : BX9_run_159 (some (o + 14)) h = some (nI (w_ans W), h) := by
  obtain ⟨n1, n2⟩ := cw.2.2.1
  have t14 := cw.1.1.1
  unfold BX9_run_159 w_ans
  rw [gI_ok t14, n1, ir_0 (by omega)]
  by_cases c : 0 < W.1.1
  · rw [if_pos c, if_pos c]; rfl
  · rw [if_neg c, if_neg c, gI_ok t14, cw.2.2.2.2.2.1.1]
    by_cases z : W.2.2.1.1 = -1
    · rw [if_pos z, if_pos z]; rfl
    · rw [if_neg z, if_neg z]; rfl
theorem cr_loop (pw : PW P) (ap : Apt o ma ta P) (st : ST P tt) {steps : Nat} (hs : steps ≤ 3000) : ∀ (f r k : Nat) (W : Wk) (h : Hp), k + r = steps → r < f → WI P tt k W → PC h o ma ta P → CW h o ma W → hI h (o + 14) 10 = nI k → Ok (BX9_run_5 f (some (o + 14)) (nI steps) h) (fun res g => res = nI (w_ans (w_run P r k W).2) ∧ CW g o ma (w_run P r k W).2 ∧ hI g (o + 14) 10 = nI (w_run P r k W).1 ∧ PC g o ma ta P ∧ Fu o h g ∧ WI P tt (w_run P r k W).1 (w_run P r k W).2) := by
  intro f
  induction f with
  | zero => intro r k W h h1 h2; omega
  | succ f ih =>
    intro r k W h h1 h2 wi pc cw h10
    have t14 := cw.1.1.1
    obtain ⟨n1, n2⟩ := cw.2.2.1
    cases r with
    | zero =>
      unfold BX9_run_5
      rw [gI_ok t14, h10, if_lt (by omega) (by omega), if_neg (by omega), cr_out cw]
      exact ok_some ⟨rfl, cw, h10, pc, Fu.refl, wi⟩
    | succ r =>
      by_cases c0 : W.1.1 = 0
      · unfold BX9_run_5
        rw [gI_ok t14, h10, if_lt (by omega) (by omega), if_pos (by omega), gI_ok t14, n1, c0, if_neg (by decide), cr_out cw, w_run, if_pos c0]
        exact ok_some ⟨rfl, cw, h10, pc, Fu.refl, wi⟩
      · obtain ⟨⟨n', C⟩, T, R⟩ := W
        have c0 : ¬ n' = 0 := c0
        obtain ⟨n, rfl⟩ : ∃ n, n' = n + 1 := ⟨n' - 1, by omega⟩
        have hR := (wi_one pw st wi).2
        have hR14 : R.2.1.2.1 ≤ 14 := wi.2.1.2
        rw [w_run, if_neg (show ¬ n + 1 = 0 by omega)]
        refine cr_step pw ap st wi (by rw [hR]; exact hR14) pc cw h10 (by omega) hs (fun g cw' e10 pc' fu => ?_)
        exact (ih r (k + 1) _ g (by omega) (by omega) (wi_step pw st wi) pc' cw' e10).mono (fun res g' q => ⟨q.1, q.2.1, q.2.2.1, q.2.2.2.1, fu.trans q.2.2.2.2.1, q.2.2.2.2.2⟩)
theorem f_asA {k : Nat} (hk : k < 5) (v : Int64) (h : Hp) : FX9_asArgument (nI k) v h = some (asA k v, h) := by
  unfold FX9_asArgument asA
  rw [nl_4, if_eq (by omega) (by decide)]
  by_cases c4 : k = 4
  · rw [if_pos c4, if_pos c4]
  · rw [if_neg c4, if_neg c4, f_isWide (by omega), cl_ok]
    unfold wd
    by_cases c : k = 1 ∨ k = 3
    · rw [if_pos c, if_neg (by decide), if_pos c, if_pos rfl]
    · rw [if_neg c, if_pos rfl, if_neg c, if_neg (by decide)]
theorem st_69 (pw : PW P) (ap : Apt o ma ta P) {m : Nat} {gv : Nat → Int64} {l0 : Nat → Int64} (hm : m < p_nm P) : ∀ (f k : Nat) (h : Hp), k ≤ p_na P m → p_na P m - k < f → PC h o ma ta P → WT (hT h) (hR h) o → hT h (o + 52) = some (.inr (.long, 8)) → (∀ j, j < 8 → hL h (o + 52) j = gv j) → (∀ j, j < 16 → hL h (o + 25) j = argG P m gv k l0 j) →
    Ok (BX9_start_69 f (some (o + 14)) (some (ma m)) (some (o + 52)) (nI (p_aw P m k)) (nI k) h) (fun _ g => (∀ j, j < 16 → hL g (o + 25) j = argG P m gv (p_na P m) l0 j) ∧ Fr (fun b => b = o + 25) h g) := by
  have wm := pw.2.2.2.1 m hm
  intro f
  induction f with
  | zero => intro k h h1 h2; omega
  | succ f ih =>
    intro k h h1 h2 pc wt t52 hg hl
    obtain ⟨x1, x2, x3⟩ := pc.2.2.1 m hm
    obtain ⟨a0, ⟨m1, -⟩, u1, -⟩ := id x2
    have hna := wm.2.1
    unfold BX9_start_69
    rw [gI_ok a0, x3.1.2.1, if_lt (by omega) (by omega)]
    by_cases ck : k < p_na P m
    · have hka := x3.2.1 k ck
      have hk5 := wm.2.2.2.2.2.2.1 k ck
      have hw := wd_le (p_ka P m k)
      have e1 : p_aw P m (k + 1) = p_aw P m k + wd (p_ka P m k) := rfl
      have hle : p_aw P m (k + 1) ≤ p_aw P m (p_na P m) := aw_mn ck
      have hnw : p_aw P m (p_na P m) ≤ 8 := by rw [wm.2.2.2.2.2.1]; exact wm.2.2.1
      obtain ⟨⟨r20, t22⟩, -⟩ := wt.2.2.2.2 0 (by decide)
      have r20 : hR h (o + 20) 0 = some (o + 22 + 5 * 0) := r20
      rw [if_pos ck, gR_ok wt.1.1, wt.1.2.2.2.1, nI_c0, aR_n wt.2.2.2.1.1 (by decide) (by decide), r20, gR_ok a0, m1, aI_n u1 (by omega) (by decide), hka, aL_n t52 (by omega) (by decide), hg k (by omega), f_asA hk5, cl_ok, rcv_ok t22, f_wrL wt (by decide) (by omega), cl_ok]
      have fr1 : Fr (fun b => b = o + 25) h (wL h (o + 25 + 5 * 0) (p_aw P m k) (asA (p_ka P m k) (gv k))) := Fr.wL rfl
      have ls : ∀ j, hL (wL h (o + 25 + 5 * 0) (p_aw P m k) (asA (p_ka P m k) (gv k))) (o + 25) j = vp_updL (hL h (o + 25)) (p_aw P m k) (asA (p_ka P m k) (gv k)) j := fun j => by rw [show o + 25 = o + 25 + 5 * 0 by omega, hL_wL_row]
      generalize wL h (o + 25 + 5 * 0) (p_aw P m k) (asA (p_ka P m k) (gv k)) = g at fr1 ls ⊢
      have fw : Fw o h g := Fw.of' fr1 (fun b z => by omega)
      have pcg := pc.fw ap fw
      obtain ⟨y1, y2, y3⟩ := pcg.2.2.1 m hm
      obtain ⟨b0, ⟨n1, -⟩, v1, -⟩ := id y2
      rw [gR_ok b0, n1, aI_n v1 (by omega) (by decide), y3.2.1 k ck, f_width (by omega), cl_ok, nI_add, nI_1]
      refine (ih (k + 1) g (by omega) (by omega) pcg (wt.fr fr1) (by rw [fr1.1]; exact t52) (fun j hj => by rw [(fr1.2.2.2 (o + 52) (by omega)).2]; exact hg j hj) (fun j hj => ?_)).mono (fun _ g2 q => ⟨q.1, fr1.trans q.2⟩)
      rw [ls j, argG]
      unfold vp_updL
      by_cases z : j = p_aw P m k
      · rw [if_pos z, if_pos z]
      · rw [if_neg z, if_neg z]; exact hl j hj
    · rw [if_neg ck]
      have : k = p_na P m := by omega
      subst this
      exact ok_some ⟨hl, Fr.refl _ _⟩
theorem f_start (pw : PW P) (ap : Apt o ma ta P) {h : Hp} {m : Nat} (hm : m < p_nm P) (pc : PC h o ma ta P) (wt : WT (hT h) (hR h) o) (t52 : hT h (o + 52) = some (.inr (.long, 8))) :
    Ok (FX9_start (some (o + 14)) (nI m) (some (ma m)) (some (o + 52)) h) (fun _ g => CW g o ma (w_0 P m (hL h (o + 52)) (fun c => hL h (o + 25 + 5 * c))) ∧ hI g (o + 14) 6 = 1 ∧ PC g o ma ta P ∧ (hT g = hT h ∧ hz g = hz h ∧ (∀ b, ¬ (o + 14 ≤ b ∧ b ≤ o + 51) → hI g b = hI h b ∧ hL g b = hL h b ∧ hR g b = hR h b) ∧ (∀ b k, (∀ c, c < 6 → ¬ (b = o + 22 + 5 * c ∧ k = 1)) → hR g b k = hR h b k))) := by
  have t14 := wt.1.1
  have t15 := wt.2.1.1
  unfold FX9_start FX8_clear
  rw [pZ1_ok t14, gR_ok (show hT (wI h (o + 14) 6 1) (o + 14) = _ from t14), show hR (wI h (o + 14) 6 1) (o + 14) 1 = _ from wt.1.2.2.1, rcv_ok (show hT (wI h (o + 14) 6 1) (o + 15) = _ from t15), pI_ok (show hT (wI h (o + 14) 6 1) (o + 15) = _ from t15), cl_ok]
  have E : ∃ g : Hp, g = wI (wI (wI (wI (wI (wI (wI (wL (wI (wI h (o + 14) 6 1) (o + 15) 4 0) (o + 14) 5 0) (o + 14) 7 (-1)) (o + 14) 8 (-1)) (o + 14) 9 (-1)) (o + 14) 11 1) (o + 14) 12 0) (o + 14) 13 0) (o + 14) 4 1 := ⟨_, rfl⟩
  obtain ⟨g, eg⟩ := E
  rw [pL_ok (show hT (wI (wI h (o + 14) 6 1) (o + 15) 4 0) (o + 14) = _ from t14)]
  rw [pI_ok (show hT (wL (wI (wI h (o + 14) 6 1) (o + 15) 4 0) (o + 14) 5 0) (o + 14) = _ from t14)]
  rw [pI_ok (show hT (wI (wL (wI (wI h (o + 14) 6 1) (o + 15) 4 0) (o + 14) 5 0) (o + 14) 7 (-1)) (o + 14) = _ from t14)]
  rw [pI_ok (show hT (wI (wI (wL (wI (wI h (o + 14) 6 1) (o + 15) 4 0) (o + 14) 5 0) (o + 14) 7 (-1)) (o + 14) 8 (-1)) (o + 14) = _ from t14)]
  rw [pI_ok (show hT (wI (wI (wI (wL (wI (wI h (o + 14) 6 1) (o + 15) 4 0) (o + 14) 5 0) (o + 14) 7 (-1)) (o + 14) 8 (-1)) (o + 14) 9 (-1)) (o + 14) = _ from t14)]
  rw [pI_ok (show hT (wI (wI (wI (wI (wL (wI (wI h (o + 14) 6 1) (o + 15) 4 0) (o + 14) 5 0) (o + 14) 7 (-1)) (o + 14) 8 (-1)) (o + 14) 9 (-1)) (o + 14) 11 1) (o + 14) = _ from t14)]
  rw [pI_ok (show hT (wI (wI (wI (wI (wI (wL (wI (wI h (o + 14) 6 1) (o + 15) 4 0) (o + 14) 5 0) (o + 14) 7 (-1)) (o + 14) 8 (-1)) (o + 14) 9 (-1)) (o + 14) 11 1) (o + 14) 12 0) (o + 14) = _ from t14)]
  rw [pI_ok (show hT (wI (wI (wI (wI (wI (wI (wL (wI (wI h (o + 14) 6 1) (o + 15) 4 0) (o + 14) 5 0) (o + 14) 7 (-1)) (o + 14) 8 (-1)) (o + 14) 9 (-1)) (o + 14) 11 1) (o + 14) 12 0) (o + 14) 13 0) (o + 14) = _ from t14)]
  rw [← eg]
  have gT : hT g = hT h := by rw [eg]; rfl
  have gR : hR g = hR h := by rw [eg]; rfl
  have gz : hz g = hz h := by rw [eg]; rfl
  have gI : ∀ b, b ≠ o + 14 → b ≠ o + 15 → hI g b = hI h b := fun b h1 h2 => by
    rw [eg, hI_wI_a h1, hI_wI_a h1, hI_wI_a h1, hI_wI_a h1, hI_wI_a h1, hI_wI_a h1, hI_wI_a h1, hI_wL, hI_wI_a h2, hI_wI_a h1]
  have gL : ∀ b, b ≠ o + 14 → hL g b = hL h b := fun b h1 => by
    rw [eg, hL_wI, hL_wI, hL_wI, hL_wI, hL_wI, hL_wI, hL_wI, hL_wL_a h1, hL_wI, hL_wI]
  have g15 : hI g (o + 15) 4 = 0 := by
    rw [eg, hI_wI_a (by omega), hI_wI_a (by omega), hI_wI_a (by omega), hI_wI_a (by omega), hI_wI_a (by omega), hI_wI_a (by omega), hI_wI_a (by omega), hI_wL, hI_wI_s]
  have g5 : hL g (o + 14) 5 = 0 := by
    rw [eg, hL_wI, hL_wI, hL_wI, hL_wI, hL_wI, hL_wI, hL_wI, hL_wL_s]
  have g4 : hI g (o + 14) 4 = 1 := by rw [eg]; exact hI_wI_s
  have g13 : hI g (o + 14) 13 = 0 := by rw [eg, hI_wI_k (by decide)]; exact hI_wI_s
  have g12 : hI g (o + 14) 12 = 0 := by rw [eg, hI_wI_k (by decide), hI_wI_k (by decide)]; exact hI_wI_s
  have g11 : hI g (o + 14) 11 = 1 := by rw [eg, hI_wI_k (by decide), hI_wI_k (by decide), hI_wI_k (by decide)]; exact hI_wI_s
  have g9 : hI g (o + 14) 9 = -1 := by rw [eg, hI_wI_k (by decide), hI_wI_k (by decide), hI_wI_k (by decide), hI_wI_k (by decide)]; exact hI_wI_s
  have g8 : hI g (o + 14) 8 = -1 := by rw [eg, hI_wI_k (by decide), hI_wI_k (by decide), hI_wI_k (by decide), hI_wI_k (by decide), hI_wI_k (by decide)]; exact hI_wI_s
  have g7 : hI g (o + 14) 7 = -1 := by rw [eg, hI_wI_k (by decide), hI_wI_k (by decide), hI_wI_k (by decide), hI_wI_k (by decide), hI_wI_k (by decide), hI_wI_k (by decide)]; exact hI_wI_s
  have g6 : hI g (o + 14) 6 = 1 := by rw [eg, hI_wI_k (by decide), hI_wI_k (by decide), hI_wI_k (by decide), hI_wI_k (by decide), hI_wI_k (by decide), hI_wI_k (by decide), hI_wI_k (by decide), hI_wL, hI_wI_a (by omega)]; exact hI_wI_s
  clear eg
  have wg : WT (hT g) (hR g) o := by rw [gT, gR]; exact wt
  obtain ⟨⟨r20, t22⟩, -⟩ := wg.2.2.2.2 0 (by decide)
  rw [gR_ok wg.1.1, wg.1.2.2.2.1, nI_c0, aR_n wg.2.2.2.1.1 (by decide) (by decide), r20, rcv_ok t22]
  refine ok_cl (k_begin (ma := ma) (c := 0) (m := m) (by decide) wg) (fun _ g2 q => ?_)
  obtain ⟨⟨b1, b2, b3, b4⟩, bL, bm, bs⟩ := q
  have b3' : ∀ b, ¬ (o + 22 ≤ b ∧ b ≤ o + 26) → hI g2 b = hI g b ∧ hL g2 b = hL g b := fun b hb => b3 b (by omega)
  have fx : hT g2 = hT h ∧ hz g2 = hz h ∧ (∀ b, ¬ (o + 14 ≤ b ∧ b ≤ o + 51) → hI g2 b = hI h b ∧ hL g2 b = hL h b ∧ hR g2 b = hR h b) ∧ (∀ b k, (∀ c, c < 6 → ¬ (b = o + 22 + 5 * c ∧ k = 1)) → hR g2 b k = hR h b k) := by
    refine ⟨b1.trans gT, b2.trans gz, fun b hb => ⟨?_, ?_, ?_⟩, fun b k hb => ?_⟩
    · rw [(b3' b (by omega)).1]; exact gI b (by omega) (by omega)
    · rw [(b3' b (by omega)).2]; exact gL b (by omega)
    · funext k; rw [b4 b k (by omega), gR]
    · rw [b4 b k (hb 0 (by decide)), gR]
  have e14 := b3' (o + 14) (by omega)
  have wt2 : WT (hT g2) (hR g2) o := by
    refine wg.fw (g := g2) ⟨b1, b2, fun b hb => ⟨(b3' b (by omega)).1, (b3' b (by omega)).2, ?_⟩, fun b k hb => b4 b k (hb 0 (by decide)), by rw [e14.1], by rw [e14.1]⟩
    funext k; exact b4 b k (by omega)
  have pc2 : PC g2 o ma ta P := pc.ag fx.1 (fun b hb => fx.2.2.1 b (by
    have a1 := ap.1
    have a2 := ap.2.1
    rcases hb with hb | ⟨k, hk, hb⟩ | ⟨k, hk, hb⟩
    · omega
    · have := a1 k hk; omega
    · have := a2 k hk; omega))
  have l25 : hL g2 (o + 25) = hL h (o + 25) := by rw [bL]; exact gL _ (by omega)
  have hl0 : p_aw P m 0 = 0 := rfl
  have s69 := st_69 (P := P) (gv := hL h (o + 52)) (l0 := hL h (o + 25)) pw ap hm 100000 0 g2 (by omega) (by have := (pw.2.2.2.1 m hm).2.1; omega) pc2 wt2 (by rw [fx.1]; exact t52) (fun j _ => by rw [(fx.2.2.1 (o + 52) (by omega)).2.1]) (fun j _ => by rw [l25]; rfl)
  rw [hl0] at s69
  refine s69.mono (fun _ g3 p => ?_)
  obtain ⟨p1, p2⟩ := p
  have c14 := p2.2.2.2 (o + 14) (by omega)
  have fw3 : Fw o g2 g3 := Fw.of' p2 (fun b z => by omega)
  have pc3 := pc2.fw ap fw3
  have d14 : ∀ k, hI g3 (o + 14) k = hI g (o + 14) k := fun k => by rw [c14.1, e14.1]
  refine ⟨⟨wt2.fr p2, ⟨⟨?_, by show 0 ≤ 60; omega⟩, fun t ht => (by cases ht)⟩, ⟨by rw [d14]; exact g4, by show 1 ≤ 6; omega⟩, fun c hc => ?_, fun c hc j hj => ?_, ?_, ?_, ?_⟩, by rw [d14]; exact g6, pc3, fw3.1.trans fx.1, fw3.2.1.trans fx.2.1, fun b hb => ?_, fun b k hb => ?_⟩
  · rw [(p2.2.2.2 (o + 15) (by omega)).1, (b3' (o + 15) (by omega)).1]; exact g15
  · have hc : c < 1 := hc
    have : c = 0 := by omega
    subst this
    show CS g3 o 0 (m, 0, 0, (fun _ => 0), argG P m (hL h (o + 52)) (p_na P m) (hL h (o + 25)), (fun _ => 0)) ∧ CM g3 o ma 0 (m, 0, 0, (fun _ => 0), argG P m (hL h (o + 52)) (p_na P m) (hL h (o + 25)), (fun _ => 0))
    obtain ⟨s1, s2, s3, s4⟩ := bs
    refine ⟨⟨s1.fr p2 (by omega) (by omega), p1, ?_, ?_⟩, ?_, ?_, ?_⟩
    · rw [(p2.2.2.2 (o + 26 + 5 * 0) (by omega)).1]; exact s3
    · rw [(p2.2.2.2 (o + 22 + 5 * 0) (by omega)).1]; exact s4
    · rw [(p2.2.2.2 (o + 22 + 5 * 0) (by omega)).1]; exact bm.1
    · rw [(p2.2.2.2 (o + 22 + 5 * 0) (by omega)).1]; exact bm.2.1
    · rw [p2.2.1]; exact bm.2.2
  · show hL g3 (o + 25 + 5 * c) j = (if c = 0 then (m, 0, 0, (fun _ => 0), argG P m (hL h (o + 52)) (p_na P m) (hL h (o + 25)), (fun _ => 0)) else (0, 0, 0, (fun _ => 0), hL h (o + 25 + 5 * c), (fun _ => 0)) : Cl).2.2.2.2.1 j
    by_cases z : c = 0
    · subst z; rw [if_pos rfl]; exact p1 j hj
    · rw [if_neg z, (p2.2.2.2 (o + 25 + 5 * c) (by omega)).2, bL]
      show hL g (o + 25 + 5 * c) j = hL h (o + 25 + 5 * c) j
      rw [gL _ (by omega)]
  · rw [d14, d14, d14]; exact ⟨g7, g8, g9⟩
  · rw [d14, d14, d14]; exact ⟨g11, g12, g13⟩
  · rw [c14.2, e14.2]; exact g5
  · obtain ⟨y1, y2, y3⟩ := fw3.2.2.1 b hb
    obtain ⟨z1, z2, z3⟩ := fx.2.2.1 b hb
    exact ⟨y1.trans z1, y2.trans z2, y3.trans z3⟩
  · exact (fw3.2.2.2.1 b k hb).trans (fx.2.2.2 b k hb)
theorem wi_0 (pw : PW P) (st : ST P tt) {m : Nat} (hm : m < p_nm P) (gv : Nat → Int64) (L : Nat → Nat → Int64) : WI P tt 0 (w_0 P m gv L) := by
  obtain ⟨sa, -⟩ := st m hm
  have wm := pw.2.2.2.1 m hm
  have targ : TLo 0 (j_arg P m (p_na P m)) (argG P m gv (p_na P m) (L 0)) := tlo_arg (fun q hq => by rw [argG_v _ _ _ hq]; exact ty_asA _ (wm.2.2.2.2.2.2.1 q hq))
  obtain ⟨tq1, tq2⟩ := cmp_ty (T := (0, (fun _ => 0), (fun _ => 0), (fun _ => 0), (fun _ _ => 0))) (s := fun _ => (0 : Int64)) sa.2 (fun p hp => by cases hp) targ
  refine ⟨⟨by show 0 ≤ 60; omega, fun t ht => (by cases ht)⟩, ⟨by show 1 ≤ 6; omega, by show 0 ≤ 14; omega⟩, fun c hc => ?_, fun c hc => ?_, fun c hc => ?_⟩
  · have hc : c < 1 := hc
    have : c = 0 := by omega
    subst this
    exact ⟨hm, tq1, tq2, fun _ _ _ => rfl, by show sm 60 (fun _ => 0) ≤ 0; rw [sm_0]; omega⟩
  · have hc : c + 1 = 1 := hc
    have : c = 0 := by omega
    subst this
    exact sa.2.1
  · have hc : c + 1 < 1 := hc
    omega
end CWk
