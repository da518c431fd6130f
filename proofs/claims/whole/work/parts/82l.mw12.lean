/-! the model: a call is made -/
def A42 (q : Nat) : Nat → Prop := fun b => b = q + 40 ∨ b = q + 41 ∨ b = q + 42
/-- of a call that takes what the next one gets -/
def Fo4 (q n : Nat) (h g : Hp) : Prop := (∀ x, x ≠ n → hI g (q + 40) x = hI h (q + 40) x) ∧ (∀ x p, x ≠ n → p < 32 → hL g (q + 41) (32 * x + p) = hL h (q + 41) (32 * x + p)) ∧ ∀ x j, x ≠ n + 1 → j < 18 → hL g (q + 42) (18 * x + j) = hL h (q + 42) (18 * x + j)
section EN
variable {q : Nat} {P : Pg} {tt : Nat → Tab}
theorem Fo4.refl {n : Nat} {h : Hp} : Fo4 q n h h := ⟨fun _ _ => rfl, fun _ _ _ _ => rfl, fun _ _ _ _ => rfl⟩
theorem Fo4.trans {n : Nat} {h g k : Hp} (a : Fo4 q n h g) (b : Fo4 q n g k) : Fo4 q n h k := ⟨fun x hx => (b.1 x hx).trans (a.1 x hx), fun x p hx hp => (b.2.1 x p hx hp).trans (a.2.1 x p hx hp), fun x j hx hj => (b.2.2 x j hx hj).trans (a.2.2 x j hx hj)⟩
theorem ce_174 (pw : PW P) {n a D : Nat} {σ : Nat → Nat} {s : Nat → Int64} (n5 : n < 5) (hac : a < p_nm P) (hσ : ∀ x, x < p_na P a → σ (D + p_aw P a x) = p_ka P a x) : ∀ (j f : Nat) (h : Hp), j < f → j ≤ p_na P a → LM (hT h) (hR h) q → PM h q P → MSk h q n (D + p_aw P a j) σ s → (∀ x, j ≤ x → x < p_na P a → hL h (q + 42) (18 * (n + 1) + p_aw P a x) = s (D + p_aw P a x)) →
    Ok (BX12_callOrEnd_174 f (some q) (nI n) (nI a) (nI (p_aw P a j)) (nI j - 1) h) (fun _ g => MSk g q n D σ s ∧ (∀ x, x < p_na P a → hL g (q + 42) (18 * (n + 1) + p_aw P a x) = s (D + p_aw P a x)) ∧ Fm q F40 (A42 q) h g ∧ Fo4 q n h g) := by
  have wm := pw.2.2.2.1 a hac
  have hna := wm.2.1
  have hnw : p_aw P a (p_na P a) ≤ 8 := by rw [wm.2.2.2.2.2.1]; exact wm.2.2.1
  have hm8 : a < 8 := by have := pw.1; omega
  intro j
  induction j with
  | zero =>
    intro f h h1 h2 lm pm sk hl
    obtain ⟨f, rfl⟩ : ∃ k, f = k + 1 := ⟨f - 1, by omega⟩
    unfold BX12_callOrEnd_174
    rw [if_pos (show nI 0 - 1 < 0 by decide)]
    exact ok_some ⟨sk, fun x hx => hl x (by omega) hx, Fm.refl, Fo4.refl⟩
  | succ j ih =>
    intro f h h1 h2 lm pm sk hl
    obtain ⟨f, rfl⟩ : ∃ k, f = k + 1 := ⟨f - 1, by omega⟩
    obtain ⟨mt0, ⟨mr1, mt1⟩, ⟨mr2, mt2⟩, ⟨mr3, mt3⟩, ⟨mr4, mt4⟩, ⟨mr5, mt5⟩, ⟨mr6, mt6⟩, ⟨mr7, mt7⟩, ⟨mr8, mt8⟩, ⟨mr9, mt9⟩, ⟨mr10, mt10⟩, ⟨mr11, mt11⟩, ⟨mr12, mt12⟩, ⟨mr13, mt13⟩, ⟨mr14, mt14⟩, ⟨mr15, mt15⟩, ⟨mr16, mt16⟩, ⟨mr17, mt17⟩, ⟨mr18, mt18⟩, ⟨mr19, mt19⟩, ⟨mr20, mt20⟩, ⟨mr21, mt21⟩, ⟨mr22, mt22⟩, ⟨mr23, mt23⟩, ⟨mr24, mt24⟩, ⟨mr25, mt25⟩, ⟨mr26, mt26⟩, ⟨mr27, mt27⟩, ⟨mr28, mt28⟩, ⟨mr29, mt29⟩, ⟨mr30, mt30⟩, ⟨mr31, mt31⟩, ⟨mr32, mt32⟩, ⟨mr33, mt33⟩, ⟨mr34, mt34⟩, ⟨mr35, mt35⟩, ⟨mr36, mt36⟩, ⟨mr37, mt37⟩, ⟨mr38, mt38⟩, ⟨mr39, mt39⟩, ⟨mr40, mt40⟩, ⟨mr41, mt41⟩, ⟨mr42, mt42⟩, ⟨mr43, mt43⟩⟩ := id lm
    have vm := pm.2.1 a hac
    have hka := vm.2.1 j (by omega)
    have hk5 := wm.2.2.2.2.2.2.1 j (by omega)
    have e1 : p_aw P a (j + 1) = p_aw P a j + wd (p_ka P a j) := rfl
    have hle : p_aw P a (j + 1) ≤ p_aw P a (p_na P a) := aw_mn h2
    have hw := wd_le (p_ka P a j)
    unfold BX12_callOrEnd_174
    rw [nI_pred, il_0 (by omega), gR_ok mt0, mr4, nl_8, pk_mul, nI_add, aI_n mt4 (by omega) (by decide), hka, f_wordsOf (by omega), cl_ok, gR_ok mt0, mr42, rcv_ok mt0]
    have ed : D + p_aw P a (j + 1) - wd (p_ka P a j) = D + p_aw P a j := by omega
    refine ok_cl (m_take lm sk (by omega) hk5 (by omega) (by rw [ed]; exact hσ j (by omega))) (fun r g z => ?_)
    obtain ⟨z1, z2, z3, z4⟩ := z
    rw [ed] at z1 z2
    subst z1
    have lg := lm.fm z3
    have t42 : hT g (q + 42) = some (.inr (.long, 108)) := by rw [z3.1]; exact mt42
    rw [nl_18, nI_1, pk_mul, pk_sub (show wd (p_ka P a j) ≤ p_aw P a (j + 1) by omega), show p_aw P a (j + 1) - wd (p_ka P a j) = p_aw P a j by omega, nI_add, sL_n t42 (by omega) (by decide)]
    have f1 : Fm q F40 (A42 q) h (wL g (q + 42) (18 * (n + 1) + p_aw P a j) (s (D + p_aw P a j))) := (z3.mono (fun _ z => z) (fun b z => by unfold A41 at z; unfold A42; omega)).trans (Fm.wb (by unfold A42; omega) (by omega))
    have o1 : Fo4 q n h (wL g (q + 42) (18 * (n + 1) + p_aw P a j) (s (D + p_aw P a j))) := by
      refine ⟨fun x hx => (z4 x hx).1.2.2, fun x p hx hp => ?_, fun x i hx hi => ?_⟩
      · rw [hL_wL_a (by omega)]; exact (z4 x hx).2.1 p hp
      · rw [hL_wL_k (by omega), (z3.2.2.2.1 (q + 42) (by omega) (n41 (by omega) (by omega))).2]
    have s1 : MSk (wL g (q + 42) (18 * (n + 1) + p_aw P a j) (s (D + p_aw P a j))) q n (D + p_aw P a j) σ s := by
      refine ⟨z2.1, fun p hp hs => ?_⟩
      rw [hL_wL_a (by omega)]; exact z2.2 p hp hs
    have l1 : ∀ x, j ≤ x → x < p_na P a → hL (wL g (q + 42) (18 * (n + 1) + p_aw P a j) (s (D + p_aw P a j))) (q + 42) (18 * (n + 1) + p_aw P a x) = s (D + p_aw P a x) := by
      intro x hx hx2
      by_cases z : x = j
      · subst z; exact hL_wL_s
      · have : p_aw P a j < p_aw P a x := aw_lt2 (by omega)
        rw [hL_wL_k (by omega), (z3.2.2.2.1 (q + 42) (by omega) (n41 (by omega) (by omega))).2]
        exact hl x (by omega) hx2
    generalize wL g (q + 42) (18 * (n + 1) + p_aw P a j) (s (D + p_aw P a j)) = g1 at f1 o1 s1 l1 ⊢
    have en : nI j + -1 = nI j - 1 := (Int32.sub_eq_add_neg _ _).symm
    rw [en]
    refine (ih f g1 (by omega) (by omega) (lm.fm f1) (pm.fm f1 (fun b _ _ => by unfold A42; omega) ⟨fun z => z, fun z => z, fun z => z⟩) s1 l1).mono (fun _ g2 z => ⟨z.1, z.2.1, f1.trans z.2.2.1, o1.trans z.2.2.2⟩)
theorem m_enter (pw : PW P) (st : ST P tt) {h : Hp} {k n : Nat} {C : Nat → Cl} {T : Th} {R : (Int32 × Int32 × Int32) × (Nat × Nat × Nat) × Int64} (wi : WI P tt k ((n + 1, C), T, R)) (mw : MW h q P tt ((n + 1, C), T, R)) (e64 : hI h q 64 = -1) (e65 : hI h q 65 = -2) (hop : p_op P (C n).1 (C n).2.1 = 35) : Ok (FX12_callOrEnd (some q) (nI n) (nI 35) (p_A P (C n).1 (C n).2.1) h) (MgQ q P tt h n ((n + 1, C), T, R)) := by
  obtain ⟨f1, f2, f3, f4, f5, f6⟩ := top_f pw st wi
  obtain ⟨lm, pm, mt, ⟨e47, n6⟩, mc, mk, mf⟩ := id mw
  have n6 : n + 1 ≤ 6 := n6
  have e47 : hI h q 47 = nI (n + 1) := e47
  have mt : MTh h q T := mt
  obtain ⟨mt0, ⟨mr1, mt1⟩, ⟨mr2, mt2⟩, ⟨mr3, mt3⟩, ⟨mr4, mt4⟩, ⟨mr5, mt5⟩, ⟨mr6, mt6⟩, ⟨mr7, mt7⟩, ⟨mr8, mt8⟩, ⟨mr9, mt9⟩, ⟨mr10, mt10⟩, ⟨mr11, mt11⟩, ⟨mr12, mt12⟩, ⟨mr13, mt13⟩, ⟨mr14, mt14⟩, ⟨mr15, mt15⟩, ⟨mr16, mt16⟩, ⟨mr17, mt17⟩, ⟨mr18, mt18⟩, ⟨mr19, mt19⟩, ⟨mr20, mt20⟩, ⟨mr21, mt21⟩, ⟨mr22, mt22⟩, ⟨mr23, mt23⟩, ⟨mr24, mt24⟩, ⟨mr25, mt25⟩, ⟨mr26, mt26⟩, ⟨mr27, mt27⟩, ⟨mr28, mt28⟩, ⟨mr29, mt29⟩, ⟨mr30, mt30⟩, ⟨mr31, mt31⟩, ⟨mr32, mt32⟩, ⟨mr33, mt33⟩, ⟨mr34, mt34⟩, ⟨mr35, mt35⟩, ⟨mr36, mt36⟩, ⟨mr37, mt37⟩, ⟨mr38, mt38⟩, ⟨mr39, mt39⟩, ⟨mr40, mt40⟩, ⟨mr41, mt41⟩, ⟨mr42, mt42⟩, ⟨mr43, mt43⟩⟩ := id lm
  obtain ⟨hod, htg, e, htk, h57, h34, hput, hS12, hnx⟩ := j_own_0 f5.1
  obtain ⟨⟨mc1, mc2⟩, mcs, mcl, mch⟩ : MCa h q tt n (C n) := mc n (by show n < n + 1; omega)
  rw [hop] at hod htk
  rw [f6] at htk
  have hnm := pw.1
  obtain ⟨a, ha, ea, eca⟩ := wi_ex (x := p_A P (C n).1 (C n).2.1) (n := p_nm P) (by omega) hod
  rw [eca] at htk
  have htk : takeL ((tt (C n).1).2.1 (C n).2.1) (argL P a (p_na P a)) (C n).2.2.1 = some e := htk
  obtain ⟨q1, q2⟩ := takeL_arg _ _ htk
  have wma := pw.2.2.2.1 a ha
  have hnw : p_aw P a (p_na P a) = p_nw P a := wma.2.2.2.2.2.1
  have hna := wma.2.1
  have ee : (C n).2.2.1 - p_nw P a = e := by omega
  have hone : w_one P ((n + 1, C), T, R) n = w_enter P ((n + 1, C), T, R) n (C n) a := by
    show (if p_op P (C n).1 (C n).2.1 = 34 then _ else if p_op P (C n).1 (C n).2.1 = 35 then _ else _) = _
    rw [if_neg (by omega), if_pos hop, eca]
  rw [ea]
  unfold FX12_callOrEnd
  rw [if_neg (show ¬ nI 35 = 34 by decide), gI_ok mt0, e47, nl_6, if_eq (by omega) (by decide)]
  by_cases c5 : n + 1 = 6
  · rw [if_pos c5, rcv_ok mt0, f_fail mt0, cl_ok]
    have ff : Fm q (fun k => k = 64) (fun _ => False) h (wI h q 64 8) := Fm.fI rfl
    refine ok_some ⟨ff.mono (fun k z => by unfold FWk; omega) (fun _ z => z.elim), Or.inr ⟨8, none, by decide, hI_wI_s, by rw [hI_wI_k (by decide)]; exact e65, fun t z => (by cases z), my_T mw.my ff (fun k z => by omega) (fun _ z => z.elim) (mt.fm ff ⟨by decide, by decide⟩ (fun _ _ _ z => z)), ?_⟩⟩
    rw [hone]
    unfold w_enter
    rw [if_pos (show n = 5 by omega)]
  · rw [if_neg c5, rcv_ok mt0]
    refine ok_cl (m_bCall (a := a) (show n + 1 < 6 by omega) lm e47 mk.1.1) (fun _ g z => ?_)
    obtain ⟨z1, ⟨z2, z3, z4⟩, z5, z6, z7, z8⟩ := z
    have nB : ∀ b, b ≠ q + 38 → b ≠ q + 39 → b ≠ q + 40 → b ≠ q + 43 → ¬ A43 q b := fun b h0 h1 h2 h3 z => by unfold A43 at z; omega
    have nFB : ∀ k, k ≠ 47 → k ≠ 60 → ¬ FB k := fun k h0 h1 z => by unfold FB at z; omega
    have lg := lm.fm z7
    have pg : PM g q P := pm.fm z7 (fun b _ _ => nB _ (by omega) (by omega) (by omega) (by omega)) ⟨nFB 0 (by omega) (by omega), nFB 15 (by omega) (by omega), nFB 17 (by omega) (by omega)⟩
    have w : (hR g q 3 = some (q + 3) ∧ hT g (q + 3) = some (.inr (.int, 8))) ∧ hR g q 2 = some (q + 2) ∧ hT g (q + 2) = some (.inr (.int, 8)) := by
      have lm := lg
      obtain ⟨mt0, ⟨mr1, mt1⟩, ⟨mr2, mt2⟩, ⟨mr3, mt3⟩, ⟨mr4, mt4⟩, ⟨mr5, mt5⟩, ⟨mr6, mt6⟩, ⟨mr7, mt7⟩, ⟨mr8, mt8⟩, ⟨mr9, mt9⟩, ⟨mr10, mt10⟩, ⟨mr11, mt11⟩, ⟨mr12, mt12⟩, ⟨mr13, mt13⟩, ⟨mr14, mt14⟩, ⟨mr15, mt15⟩, ⟨mr16, mt16⟩, ⟨mr17, mt17⟩, ⟨mr18, mt18⟩, ⟨mr19, mt19⟩, ⟨mr20, mt20⟩, ⟨mr21, mt21⟩, ⟨mr22, mt22⟩, ⟨mr23, mt23⟩, ⟨mr24, mt24⟩, ⟨mr25, mt25⟩, ⟨mr26, mt26⟩, ⟨mr27, mt27⟩, ⟨mr28, mt28⟩, ⟨mr29, mt29⟩, ⟨mr30, mt30⟩, ⟨mr31, mt31⟩, ⟨mr32, mt32⟩, ⟨mr33, mt33⟩, ⟨mr34, mt34⟩, ⟨mr35, mt35⟩, ⟨mr36, mt36⟩, ⟨mr37, mt37⟩, ⟨mr38, mt38⟩, ⟨mr39, mt39⟩, ⟨mr40, mt40⟩, ⟨mr41, mt41⟩, ⟨mr42, mt42⟩, ⟨mr43, mt43⟩⟩ := id lm
      exact ⟨⟨mr3, mt3⟩, mr2, mt2⟩
    have vm := pg.2.1 a ha
    have tg : hT g q = some (.inl 11) := lg.1
    have skg : MSk g q n (e + p_aw P a (p_na P a)) ((tt (C n).1).2.1 (C n).2.1) (C n).2.2.2.1 := by
      rw [← q1]
      refine ⟨⟨by rw [(z8 n (by omega)).1.2.2]; exact mcs.1.1, mcs.1.2⟩, fun p hp hs => ?_⟩
      rw [(z7.2.2.2.1 (q + 41) (by omega) (nB _ (by omega) (by omega) (by omega) (by omega))).2]; exact mcs.2 p hp hs
    rw [gR_ok tg, w.1.1, aI_n w.1.2 (by omega) (by decide), vm.1.2.2.1, gR_ok tg, w.2.1, aI_n w.2.2 (by omega) (by decide), vm.1.2.1, ← hnw]
    refine (ce_174 pw (by omega) ha q2 (p_na P a) 100000 g (by omega) (Nat.le_refl _) lg pg skg (fun x h1 h2 => by omega)).mono (fun _ g2 y => ?_)
    obtain ⟨y1, y2, y3, y4⟩ := y
    have nC : ∀ b, b ≠ q + 40 → b ≠ q + 41 → b ≠ q + 42 → ¬ A42 q b := fun b h0 h1 h2 z => by unfold A42 at z; omega
    have ff : Fm q FB (fun b => A43 q b ∨ A42 q b) h g2 := (z7.mono (fun _ z => z) (fun _ z => Or.inl z)).trans (y3.mono (fun _ z => z.elim) (fun _ z => Or.inr z))
    have nD : ∀ b, ¬ (q + 38 ≤ b ∧ b ≤ q + 43) → ¬ (A43 q b ∨ A42 q b) := fun b h0 z => by unfold A43 A42 at z; omega
    have e64' : hI g2 q 64 = -1 := by rw [(ff.2.2.2.2 64 (nFB 64 (by omega) (by omega))).1]; exact e64
    refine ⟨ff.mono (fun k z => by unfold FB at z; unfold FWk; omega) (fun b z => by unfold A43 A42 at z; unfold AW; omega), Or.inl ⟨e64', ?_, by rw [hone]; unfold w_enter; rw [if_neg (show ¬ n = 5 by omega)]⟩⟩
    rw [hone]
    unfold w_enter
    rw [if_neg (show ¬ n = 5 by omega)]
    have fq : ∀ k, k ≠ 47 → k ≠ 60 → hI g2 q k = hI h q k ∧ hL g2 q k = hL h q k := fun k h0 h1 => ff.2.2.2.2 k (nFB k h0 h1)
    refine ⟨lm.fm ff, pm.fm ff (fun b _ _ => nD _ (by omega)) ⟨nFB 0 (by omega) (by omega), nFB 15 (by omega) (by omega), nFB 17 (by omega) (by omega)⟩, mt.fm ff ⟨nFB 40 (by omega) (by omega), nFB 46 (by omega) (by omega)⟩ (fun b _ _ => nD _ (by omega)), ⟨by rw [mw_47 y3 (fun z => z)]; exact z5, by show n + 2 ≤ 6; omega⟩, fun c hc => ?_, ⟨⟨by rw [(y3.2.2.2.2 60 (fun z => z)).1]; exact z6, by rw [(fq 61 (by omega) (by omega)).1]; exact mk.1.2.1, by rw [(fq 62 (by omega) (by omega)).1]; exact mk.1.2.2⟩, by rw [(fq 55 (by omega) (by omega)).2]; exact mk.2⟩, by rw [(fq 56 (by omega) (by omega)).1]; exact mf.1, by rw [(fq 57 (by omega) (by omega)).1]; exact mf.2.1, by rw [(fq 58 (by omega) (by omega)).1]; exact mf.2.2⟩
    have hc : c < n + 2 := hc
    show MCa g2 q tt c (va_up (va_up C n _) (n + 1) _ c)
    have i2 : ∀ b, b = q + 38 ∨ b = q + 39 ∨ b = q + 43 → hI g2 b = hI g b := fun b hb => (y3.2.2.2.1 b (by omega) (nC b (by omega) (by omega) (by omega))).1
    by_cases x1 : c = n + 1
    · subst x1
      rw [va_s]
      refine ⟨⟨by rw [i2 _ (by omega)]; exact z2, by rw [i2 _ (by omega)]; exact z3⟩, ⟨⟨by rw [y4.1 _ (by omega)]; exact z4, by show 0 ≤ 14; omega⟩, fun p hp => (by cases hp)⟩, fun j hj hl => ?_, fun t ht => by rw [i2 _ (by omega)]; exact z1 t ht⟩
      have hl : (tt a).2.2.1 0 j < 5 := hl
      show hL g2 (q + 42) (18 * (n + 1) + j) = argS P a (C n).2.2.2.1 (p_na P a) (C n).2.2.1 (C (n + 1)).2.2.2.2.1 j
      rcases (st a ha).1.2.2.2 j hj with u | u
      · omega
      · have u : (tt a).2.2.1 0 j = j_arg P a (p_na P a) j := u
        rcases jarg_c (P := P) a (p_na P a) j with v | v | ⟨x, hx, rfl, v⟩
        · omega
        · omega
        · rw [y2 x hx, q1, argS_v _ _ _ hx]
    · rw [va_n _ _ x1]
      by_cases x2 : c = n
      · subst x2
        rw [va_s]
        have z8 := z8 c (by omega)
        refine ⟨⟨by rw [i2 _ (by omega), z8.1.1]; exact mc1, by rw [i2 _ (by omega), z8.1.2.1]; exact mc2⟩, ?_, fun j hj hl => ?_, fun t ht => by rw [i2 _ (by omega), z8.2.2.2 t ht]; exact mch t ht⟩
        · show MSk g2 q c ((C c).2.2.1 - p_nw P a) _ _
          rw [ee]; exact y1
        · rw [y4.2.2 c j (by omega) (by omega), z8.2.2.1 j (by omega)]; exact mcl j hj hl
      · rw [va_n _ _ x2]
        have z8 := z8 c x1
        obtain ⟨⟨m1, m2⟩, ⟨⟨m3, m3'⟩, m4⟩, m5, m6⟩ : MCa h q tt c (C c) := mc c (by show c < n + 1; omega)
        refine ⟨⟨by rw [i2 _ (by omega), z8.1.1]; exact m1, by rw [i2 _ (by omega), z8.1.2.1]; exact m2⟩, ⟨⟨by rw [y4.1 c x2, z8.1.2.2]; exact m3, m3'⟩, fun p hp hs => ?_⟩, fun j hj hl => ?_, fun t ht => by rw [i2 _ (by omega), z8.2.2.2 t ht]; exact m6 t ht⟩
        · rw [y4.2.1 c p x2 (by omega), z8.2.1 p (by omega)]; exact m4 p hp hs
        · rw [y4.2.2 c j x1 (by omega), z8.2.2.1 j (by omega)]; exact m5 j hj hl
end EN
