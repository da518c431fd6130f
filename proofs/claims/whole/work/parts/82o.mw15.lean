/-! the model: step after step -/
def FWz : Nat → Prop := fun k => FWk k ∨ k = 59 ∨ k = 63
section ML
variable {q : Nat} {P : Pg} {tt : Nat → Tab}
theorem wr_fn {f m i : Nat} {v : Int64} {C : Nat → Cl} {R : (Int32 × Int32 × Int32) × (Nat × Nat × Nat) × Int64} : ∀ (n : Nat) (T : Th), ((w_fn P ((n, C), T, R) f v m i).1.1 = 0 ∧ (w_fn P ((n, C), T, R) f v m i).2.2.1 = (nI f, nI i, nI m)) ∨ (0 < (w_fn P ((n, C), T, R) f v m i).1.1 ∧ (w_fn P ((n, C), T, R) f v m i).2.2.1 = R.1) := by
  intro n
  induction n with
  | zero => intro T; rw [wfn_0]; exact Or.inl ⟨rfl, rfl⟩
  | succ n ih =>
    intro T
    cases hcat : p_cat P (C n).1 (C n).2.1 f with
    | none => rw [wfn_n hcat]; exact ih _
    | some g => rw [wfn_s hcat]; exact Or.inr ⟨Nat.succ_pos n, rfl⟩
theorem mw_323 {K : Option Nat → Int32 → Hp → Option (Int32 × Hp)} {x2 : Int32} {g : Hp} {W : Wk} {Q : Int32 → Hp → Prop} (mw : MW g q P tt W) (hm : W.2.2.2.1.2.1 ≤ 14) (kk : ∀ g', MW g' q P tt (w_max W) → Fm q (fun k => k = 61) (fun _ => False) g g' → Ok (K (some q) x2 g') Q) : Ok (BX12_walk_323 K (some q) x2 g) Q := by
  obtain ⟨lm, pm, mt, ⟨e47, n6⟩, mc, mk, mf⟩ := id mw
  obtain ⟨mt0, ⟨mr1, mt1⟩, ⟨mr2, mt2⟩, ⟨mr3, mt3⟩, ⟨mr4, mt4⟩, ⟨mr5, mt5⟩, ⟨mr6, mt6⟩, ⟨mr7, mt7⟩, ⟨mr8, mt8⟩, ⟨mr9, mt9⟩, ⟨mr10, mt10⟩, ⟨mr11, mt11⟩, ⟨mr12, mt12⟩, ⟨mr13, mt13⟩, ⟨mr14, mt14⟩, ⟨mr15, mt15⟩, ⟨mr16, mt16⟩, ⟨mr17, mt17⟩, ⟨mr18, mt18⟩, ⟨mr19, mt19⟩, ⟨mr20, mt20⟩, ⟨mr21, mt21⟩, ⟨mr22, mt22⟩, ⟨mr23, mt23⟩, ⟨mr24, mt24⟩, ⟨mr25, mt25⟩, ⟨mr26, mt26⟩, ⟨mr27, mt27⟩, ⟨mr28, mt28⟩, ⟨mr29, mt29⟩, ⟨mr30, mt30⟩, ⟨mr31, mt31⟩, ⟨mr32, mt32⟩, ⟨mr33, mt33⟩, ⟨mr34, mt34⟩, ⟨mr35, mt35⟩, ⟨mr36, mt36⟩, ⟨mr37, mt37⟩, ⟨mr38, mt38⟩, ⟨mr39, mt39⟩, ⟨mr40, mt40⟩, ⟨mr41, mt41⟩, ⟨mr42, mt42⟩, ⟨mr43, mt43⟩⟩ := id lm
  unfold BX12_walk_323
  rw [gI_ok mt0, e47, ir_0 (by omega)]
  by_cases c0 : 0 < W.1.1
  · obtain ⟨n, en⟩ : ∃ n, W.1.1 = n + 1 := ⟨W.1.1 - 1, by omega⟩
    have sk := (mc n (by omega)).2.1
    have hd := sk.1.2
    have hmx : w_max W = (W.1, W.2.1, W.2.2.1, (W.2.2.2.1.1, (if W.2.2.2.1.2.1 < (W.1.2 n).2.2.1 then (W.1.2 n).2.2.1 else W.2.2.2.1.2.1), W.2.2.2.1.2.2), W.2.2.2.2) := by
      unfold w_max
      rw [if_pos c0, show W.1.1 - 1 = n by omega]
    rw [if_pos c0, gR_ok mt0, mr40, gI_ok mt0, e47, en, nI_pred, aI_n mt40 (by omega) (by decide), sk.1.1, gI_ok mt0, mk.1.2.1, if_lt (by omega) (by omega)]
    have fin : ∀ x, x = (if W.2.2.2.1.2.1 < (W.1.2 n).2.2.1 then (W.1.2 n).2.2.1 else W.2.2.2.1.2.1) → Ok (BX12_walk_362 K (some q) x2 (some q) (nI x) g) Q := by
      intro x hx
      unfold BX12_walk_362
      rw [pI_ok mt0]
      have f1 : Fm q (fun k => k = 61) (fun _ => False) g (wI g q 61 (nI x)) := Fm.fI rfl
      have e61 : hI (wI g q 61 (nI x)) q 61 = nI x := hI_wI_s
      generalize wI g q 61 (nI x) = g1 at f1 e61 ⊢
      refine kk g1 ?_ f1
      rw [hmx, ← hx]
      refine ⟨lm.fm f1, pm.fm f1 (fun _ _ _ z => z) ⟨by decide, by decide, by decide⟩, mt.fm f1 ⟨by decide, by decide⟩ (fun _ _ _ z => z), ⟨by rw [(f1.2.2.2.2 47 (by decide)).1]; exact e47, n6⟩, fun c hc => (mc c hc).fm f1 (fun _ _ _ z => z), ⟨⟨by rw [(f1.2.2.2.2 60 (by decide)).1]; exact mk.1.1, e61, by rw [(f1.2.2.2.2 62 (by decide)).1]; exact mk.1.2.2⟩, by rw [(f1.2.2.2.2 55 (by decide)).2]; exact mk.2⟩, MF.fm mf f1 ⟨by decide, by decide, by decide⟩⟩
    by_cases c : W.2.2.2.1.2.1 < (W.1.2 n).2.2.1
    · rw [if_pos c]
      exact fin _ (by rw [if_pos c])
    · rw [if_neg c, gI_ok mt0, mk.1.2.1]
      exact fin _ (by rw [if_neg c])
  · rw [if_neg c0]
    have hmx : w_max W = W := by
      unfold w_max
      rw [if_neg c0]
    exact kk g (by rw [hmx]; exact mw) Fm.refl
theorem wrun_0 {r k : Nat} {W : Wk} (h : W.1.1 = 0) : w_run P r k W = (k, W) := by
  cases r with
  | zero => rfl
  | succ r => rw [w_run, if_pos h]
theorem mw_loop (pw : PW P) (st : ST P tt) {steps : Nat} (hs : steps ≤ 3000) : ∀ (f r k : Nat) (W : Wk) (h : Hp), k + r = steps → r < f → WI P tt k W → W.2.2.1 = (-1, -1, -1) → MW h q P tt W → hI h q 59 = nI k → hI h q 63 = nI 0 → Ok (BX12_walk_250 f (some q) (nI steps) h) (fun res g => res = nI (w_ans (w_run P r k W).2) ∧ MW g q P tt (w_run P r k W).2 ∧ hI g q 59 = nI (w_run P r k W).1 ∧ hI g q 63 = nI (w_run P r k W).2.1.1 ∧ Fm q FWz (AW q) h g) := by
  intro f
  induction f with
  | zero => intro r k W h h1 h2; omega
  | succ f ih =>
    intro r k W h h1 h2 wi hRm mw e59 e63
    obtain ⟨⟨n', C⟩, T, R⟩ := W
    have hRm : R.1 = (-1, -1, -1) := hRm
    have t0 := mw.1.1
    obtain ⟨e47, n6⟩ := mw.2.2.2.1
    have e47 : hI h q 47 = nI n' := e47
    have n6 : n' ≤ 6 := n6
    unfold BX12_walk_250
    rw [gI_ok t0, e47, ir_0 (by omega)]
    by_cases c0 : n' = 0
    · rw [if_neg (by omega), wrun_0 (show (((n', C), T, R) : Wk).1.1 = 0 from c0)]
      refine ok_some ⟨?_, mw, e59, ?_, Fm.refl⟩
      · unfold w_ans
        rw [if_neg (show ¬ 0 < n' by omega)]
        show (0 : Int32) = nI (if R.1.1 = -1 then 0 else 1)
        rw [hRm, if_pos rfl]; rfl
      · show hI h q 63 = nI n'
        rw [c0]; exact e63
    · obtain ⟨n, rfl⟩ : ∃ n, n' = n + 1 := ⟨n' - 1, by omega⟩
      rw [if_pos (by omega), gI_ok t0, e59, if_eq (by omega) (by omega)]
      cases r with
      | zero =>
        rw [if_pos (by omega), gI_ok t0, e47, pI_ok t0]
        have f1 : Fm q (fun k => k = 63) (fun _ => False) h (wI h q 63 (nI (n + 1))) := Fm.fI rfl
        refine ok_some ⟨?_, mw.fm f1 (fun k z => by omega) (fun _ z => z), ?_, hI_wI_s, f1.mono (fun k z => Or.inr (Or.inr z)) (fun _ z => z.elim)⟩
        · show (2 : Int32) = nI (if 0 < n + 1 then 2 else _)
          rw [if_pos (by omega)]; rfl
        · rw [hI_wI_k (by decide)]; exact e59
      | succ r =>
        rw [if_neg (by omega), gI_ok t0, e59, nI_1, pI_ok t0, pI_ok (show hT (wI h q 59 (nI (k + 1))) q = _ from t0), pI_ok (show hT (wI (wI h q 59 (nI (k + 1))) q 64 (-1)) q = _ from t0)]
        have f1 : Fm q (fun k => k = 59 ∨ k = 64 ∨ k = 65) (fun _ => False) h (wI (wI (wI h q 59 (nI (k + 1))) q 64 (-1)) q 65 (-2)) := ((Fm.fI (Or.inl rfl)).trans (Fm.fI (Or.inr (Or.inl rfl)))).trans (Fm.fI (Or.inr (Or.inr rfl)))
        have g59 : hI (wI (wI (wI h q 59 (nI (k + 1))) q 64 (-1)) q 65 (-2)) q 59 = nI (k + 1) := by rw [hI_wI_k (by decide), hI_wI_k (by decide)]; exact hI_wI_s
        have g64 : hI (wI (wI (wI h q 59 (nI (k + 1))) q 64 (-1)) q 65 (-2)) q 64 = -1 := by rw [hI_wI_k (by decide)]; exact hI_wI_s
        have g65 : hI (wI (wI (wI h q 59 (nI (k + 1))) q 64 (-1)) q 65 (-2)) q 65 = -2 := hI_wI_s
        generalize wI (wI (wI h q 59 (nI (k + 1))) q 64 (-1)) q 65 (-2) = g at f1 g59 g64 g65 ⊢
        have mwg := mw.fm f1 (fun k z => by omega) (fun _ z => z)
        have g47 : hI g q 47 = nI (n + 1) := mwg.2.2.2.1.1
        have g63 : hI g q 63 = nI 0 := by rw [(f1.2.2.2.2 63 (by decide)).1]; exact e63
        have fz1 : Fm q FWz (AW q) h g := f1.mono (fun k z => by unfold FWz FWk; omega) (fun _ z => z.elim)
        have tg := mwg.1.1
        rw [gI_ok tg, g47, nI_pred, rcv_ok tg, w_run, if_neg (show ¬ n + 1 = 0 by omega)]
        show Ok _ (fun res g => res = nI (w_ans (w_run P r (k + 1) (w_max (w_one P ((n + 1, C), T, R) n))).2) ∧ MW g q P tt (w_run P r (k + 1) (w_max (w_one P ((n + 1, C), T, R) n))).2 ∧ hI g q 59 = nI (w_run P r (k + 1) (w_max (w_one P ((n + 1, C), T, R) n))).1 ∧ hI g q 63 = nI (w_run P r (k + 1) (w_max (w_one P ((n + 1, C), T, R) n))).2.1.1 ∧ Fm q FWz (AW q) h g)
        have w1 := wi_one pw st wi
        have hR14 : R.2.1.2.1 ≤ 14 := wi.2.1.2
        have ws := wi_step pw st wi
        refine ok_cl (mb_begin pw st wi (by omega) mwg g64 g65) (fun _ g1 z => ?_)
        obtain ⟨z1, z2⟩ := z
        have n59 : ¬ FWk 59 := by unfold FWk; omega
        have n63 : ¬ FWk 63 := by unfold FWk; omega
        have t1 : hT g1 q = some (.inl 11) := by rw [z1.1]; exact tg
        -- one step more
        have go : ∀ g2, MW g2 q P tt (w_one P ((n + 1, C), T, R) n) → (w_one P ((n + 1, C), T, R) n).2.2.1 = (-1, -1, -1) → Fm q FWk (AW q) g g2 → Ok (BX12_walk_323 (BX12_walk_250 f) (some q) (nI steps) g2) (fun res g => res = nI (w_ans (w_run P r (k + 1) (w_max (w_one P ((n + 1, C), T, R) n))).2) ∧ MW g q P tt (w_run P r (k + 1) (w_max (w_one P ((n + 1, C), T, R) n))).2 ∧ hI g q 59 = nI (w_run P r (k + 1) (w_max (w_one P ((n + 1, C), T, R) n))).1 ∧ hI g q 63 = nI (w_run P r (k + 1) (w_max (w_one P ((n + 1, C), T, R) n))).2.1.1 ∧ Fm q FWz (AW q) h g) := by
          intro g2 mw2 hR2 f2
          refine mw_323 mw2 (by rw [w1.2]; exact hR14) (fun g3 mw3 f3 => ?_)
          have hR3 : (w_max (w_one P ((n + 1, C), T, R) n)).2.2.1 = (-1, -1, -1) := by
            unfold w_max
            split
            · exact hR2
            · exact hR2
          have f23 : Fm q FWk (AW q) g g3 := f2.trans (f3.mono (fun k z => by unfold FWk; omega) (fun _ z => z.elim))
          refine (ih r (k + 1) _ g3 (by omega) (by omega) ws hR3 mw3 (by rw [(f23.2.2.2.2 59 n59).1]; exact g59) (by rw [(f23.2.2.2.2 63 n63).1]; exact g63)).mono (fun res g4 y => ⟨y.1, y.2.1, y.2.2.1, y.2.2.2.1, (fz1.trans (f23.mono (fun _ z => Or.inl z) (fun _ z => z))).trans y.2.2.2.2⟩)
        rw [gI_ok t1]
        rcases z2 with ⟨y1, y2, y3⟩ | ⟨fa, th, y1, y2, y3, y4, y5, y6⟩
        · rw [y1, if_pos rfl]
          exact go g1 y2 (by rw [y3]; exact hRm) z1
        · rw [y2, ie_m (by omega), rcv_ok t1]
          have y6 : w_one P ((n + 1, C), T, R) n = w_raise P ((n + 1, C), T, R) fa th (C n).1 (C n).2.1 := y6
          refine ok_cl (m_caught pw st wi hRm y5 y2 y3 y4) (fun rr g2 x => ?_)
          obtain ⟨x1, x2, x3⟩ := x
          rw [← y6] at x1 x2
          have f2 : Fm q FWk (AW q) g g2 := z1.trans x3
          have wr : ((w_one P ((n + 1, C), T, R) n).1.1 = 0 ∧ (w_one P ((n + 1, C), T, R) n).2.2.1 = (nI fa, nI (C n).2.1, nI (C n).1)) ∨ (0 < (w_one P ((n + 1, C), T, R) n).1.1 ∧ (w_one P ((n + 1, C), T, R) n).2.2.1 = R.1) := by
            rw [y6]
            unfold w_raise
            exact wr_fn _ _
          rcases wr with ⟨u1, u2⟩ | ⟨u1, u2⟩
          · have x0 : rr = 0 := by rw [x1, if_neg (by omega)]
            rw [x0, if_pos rfl]
            have hmx : w_max (w_one P ((n + 1, C), T, R) n) = w_one P ((n + 1, C), T, R) n := by
              unfold w_max
              rw [if_neg (by omega)]
            rw [hmx, wrun_0 u1]
            refine ok_some ⟨?_, x2, by rw [(f2.2.2.2.2 59 n59).1]; exact g59, ?_, fz1.trans (f2.mono (fun _ z => Or.inl z) (fun _ z => z))⟩
            · unfold w_ans
              rw [u1, if_neg (by decide), u2]
              show (1 : Int32) = nI (if nI fa = -1 then 0 else 1)
              rw [if_neg (nI_nm1 (by omega))]; rfl
            · show hI g2 q 63 = nI (w_one P ((n + 1, C), T, R) n).1.1
              rw [u1, (f2.2.2.2.2 63 n63).1]; exact g63
          · have x0 : rr = 1 := by rw [x1, if_pos u1]
            rw [x0, if_neg (by decide)]
            exact go g2 x2 (by rw [u2]; exact hRm) f2
end ML
