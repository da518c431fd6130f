/-! the model: the end of a call -/
def MgQ (q : Nat) (P : Pg) (tt : Nat → Tab) (h : Hp) (n : Nat) (W : Wk) : Unit → Hp → Prop := fun _ g => Fm q FWk (AW q) h g ∧ ((hI g q 64 = -1 ∧ MW g q P tt (w_one P W n) ∧ (w_one P W n).2.2.1 = W.2.2.1) ∨ ∃ f th, f < 16 ∧ hI g q 64 = nI f ∧ hI g q 65 = o2m th ∧ (∀ t, th = some t → t < W.2.1.1) ∧ MY g q P tt W ∧ w_one P W n = w_raise P W f th (W.1.2 n).1 (W.1.2 n).2.1)
section LV
variable {q : Nat} {P : Pg} {tt : Nat → Tab}
theorem f40k : ∀ k, F40 k → FWk k := fun _ z => z.elim
theorem mw_47 {g g' : Hp} {F A : Nat → Prop} (f : Fm q F A g g') (hF : ¬ F 47) : hI g' q 47 = hI g q 47 := (f.2.2.2.2 47 hF).1
theorem ce_81 (st : ST P tt) {h g : Hp} {k n re : Nat} {v : Int64} {C : Nat → Cl} {T : Th} {R : (Int32 × Int32 × Int32) × (Nat × Nat × Nat) × Int64} (wi : WI P tt k ((n + 1, C), T, R)) (mw : MW h q P tt ((n + 1, C), T, R)) (f : Fm q F40 (A41 q) h g) (fo : Fo2 q n h g) (hre : p_re P (C n).1 = re) (re6 : re < 6) (e64 : hI h q 64 = -1) : Ok (BX12_callOrEnd_81 (some q) (nI n) (nI re) v g) (fun _ g' => Fm q FWk (AW q) h g' ∧ hI g' q 64 = -1 ∧ MW g' q P tt (if n = 0 then ((0, C), T, R.1, R.2.1, v) else ((n, va_up C (n - 1) ((C (n - 1)).1, (C (n - 1)).2.1 + 1, (if re = 5 then (C (n - 1)).2.2.1 else (C (n - 1)).2.2.1 + wd re), (if re = 5 then (C (n - 1)).2.2.2.1 else pushS (C (n - 1)).2.2.2.1 (C (n - 1)).2.2.1 re v), (C (n - 1)).2.2.2.2.1, (C (n - 1)).2.2.2.2.2)), T, R))) := by
  obtain ⟨lm, pm, mt, ⟨e47, n6⟩, mc, mk, mf⟩ := id mw
  have n6 : n + 1 ≤ 6 := n6
  have mt : MTh h q T := mt
  have e47g : hI g q 47 = nI (n + 1) := by rw [mw_47 f (fun z => z)]; exact e47
  have lg := lm.fm f
  have tg : hT g q = some (.inl 11) := lg.1
  have fk := f.mono f40k (fun b z => a41w b z)
  unfold BX12_callOrEnd_81
  rw [gI_ok tg, e47g, nI_pred, pI_ok tg, gI_ok (show hT (wI g q 47 (nI n)) q = _ from tg), hI_wI_s, ie_0 (by omega)]
  have f1 : Fm q (fun k => k = 47) (A41 q) h (wI g q 47 (nI n)) := (f.mono (fun _ z => z.elim) (fun _ z => z)).trans (Fm.fI rfl)
  have nA : ∀ b, b ≠ q + 40 → b ≠ q + 41 → ¬ A41 q b := fun b h1 h2 => n41 h1 h2
  cases n with
  | zero =>
    rw [if_pos rfl, if_pos rfl, pL_ok (show hT (wI g q 47 (nI 0)) q = _ from tg)]
    have f2 : Fm q (fun k => k = 47 ∨ k = 55) (A41 q) h (wL (wI g q 47 (nI 0)) q 55 v) := (f1.mono (fun _ z => Or.inl z) (fun _ z => z)).trans (Fm.fL (Or.inr rfl))
    have f3 : Fm q FWk (AW q) h (wL (wI g q 47 (nI 0)) q 55 v) := f2.mono (fun k z => by unfold FWk; omega) (fun b z => a41w b z)
    have g47 : hI (wL (wI g q 47 (nI 0)) q 55 v) q 47 = nI 0 := hI_wI_s
    have g55 : hL (wL (wI g q 47 (nI 0)) q 55 v) q 55 = v := hL_wL_s
    generalize wL (wI g q 47 (nI 0)) q 55 v = g2 at f2 f3 g47 g55 ⊢
    exact ok_some ⟨f3, by rw [(f2.2.2.2.2 64 (by decide)).1]; exact e64, lm.fm f2, pm.fm f2 (fun b _ _ => nA _ (by omega) (by omega)) ⟨by decide, by decide, by decide⟩, mt.fm f2 ⟨by decide, by decide⟩ (fun b _ _ => nA _ (by omega) (by omega)), ⟨g47, by show 0 ≤ 6; omega⟩, fun c hc => (by cases hc), ⟨⟨by rw [(f2.2.2.2.2 60 (by decide)).1]; exact mk.1.1, by rw [(f2.2.2.2.2 61 (by decide)).1]; exact mk.1.2.1, by rw [(f2.2.2.2.2 62 (by decide)).1]; exact mk.1.2.2⟩, g55⟩, by rw [(f2.2.2.2.2 56 (by decide)).1]; exact mf.1, by rw [(f2.2.2.2.2 57 (by decide)).1]; exact mf.2.1, by rw [(f2.2.2.2.2 58 (by decide)).1]; exact mf.2.2⟩
  | succ p =>
    rw [if_neg (show ¬ p + 1 = 0 by omega), if_neg (show ¬ p + 1 = 0 by omega), show p + 1 - 1 = p by omega]
    obtain ⟨rc, rc12⟩ := ret_cmp st wi
    rw [hre] at rc rc12
    have o1 : Fo2 q (p + 1) h (wI g q 47 (nI (p + 1))) := fo.trans fo_fI
    have g47 : hI (wI g q 47 (nI (p + 1))) q 47 = nI (p + 1) := hI_wI_s
    generalize wI g q 47 (nI (p + 1)) = g1 at f1 o1 g47 ⊢
    have mp : MCa h q tt p (C p) := mc p (by show p < p + 1 + 1; omega)
    have mp1 := mp.fo o1 (by omega)
    obtain ⟨⟨u1, u2⟩, u3, u4, u5⟩ := id mp1
    have l1 := lm.fm f1
    have t1 : hT g1 q = some (.inl 11) := l1.1
    have fin : ∀ (g2 : Hp) (S : Sh) (s' : Nat → Int64), S = Sx (C p).2.2.1 re ((tt (C p).1).2.1 (C p).2.1) ((tt (C p).1).2.2.1 (C p).2.1) → MSk g2 q p S.1 S.2.1 s' → Fm q F40 (A41 q) g1 g2 → Fo2 q p g1 g2 → Ok (BX12_callOrEnd_122 (some q) (nI (p + 1)) g2) (fun _ g' => Fm q FWk (AW q) h g' ∧ hI g' q 64 = -1 ∧ MW g' q P tt ((p + 1, va_up C p ((C p).1, (C p).2.1 + 1, S.1, s', (C p).2.2.2.2.1, (C p).2.2.2.2.2)), T, R)) := by
      intro g2 S s' hS sk f2 o2
      rw [← hS] at rc rc12
      have l2 := l1.fm f2
      have w : hR g2 q 49 = some (q + 39) ∧ hT g2 (q + 39) = some (.inr (.int, 6)) := by
        have lm := l2
        obtain ⟨mt0, ⟨mr1, mt1⟩, ⟨mr2, mt2⟩, ⟨mr3, mt3⟩, ⟨mr4, mt4⟩, ⟨mr5, mt5⟩, ⟨mr6, mt6⟩, ⟨mr7, mt7⟩, ⟨mr8, mt8⟩, ⟨mr9, mt9⟩, ⟨mr10, mt10⟩, ⟨mr11, mt11⟩, ⟨mr12, mt12⟩, ⟨mr13, mt13⟩, ⟨mr14, mt14⟩, ⟨mr15, mt15⟩, ⟨mr16, mt16⟩, ⟨mr17, mt17⟩, ⟨mr18, mt18⟩, ⟨mr19, mt19⟩, ⟨mr20, mt20⟩, ⟨mr21, mt21⟩, ⟨mr22, mt22⟩, ⟨mr23, mt23⟩, ⟨mr24, mt24⟩, ⟨mr25, mt25⟩, ⟨mr26, mt26⟩, ⟨mr27, mt27⟩, ⟨mr28, mt28⟩, ⟨mr29, mt29⟩, ⟨mr30, mt30⟩, ⟨mr31, mt31⟩, ⟨mr32, mt32⟩, ⟨mr33, mt33⟩, ⟨mr34, mt34⟩, ⟨mr35, mt35⟩, ⟨mr36, mt36⟩, ⟨mr37, mt37⟩, ⟨mr38, mt38⟩, ⟨mr39, mt39⟩, ⟨mr40, mt40⟩, ⟨mr41, mt41⟩, ⟨mr42, mt42⟩, ⟨mr43, mt43⟩⟩ := id lm
        exact ⟨mr39, mt39⟩
      have u2' : hI g2 (q + 39) p = nI (C p).2.1 := by rw [(f2.2.2.2.1 (q + 39) (by omega) (nA _ (by omega) (by omega))).1]; exact u2
      unfold BX12_callOrEnd_122
      rw [gR_ok l2.1, w.1, nI_pred, aI_n w.2 (by omega) (by decide), u2', nI_1, sI_n w.2 (by omega) (by decide)]
      have f3 : Fm q (fun k => k = 47) (A39 q) h (wI g2 (q + 39) p (nI ((C p).2.1 + 1))) := ((f1.mono (fun _ z => z) (fun b z => Or.inr z)).trans (f2.mono (fun _ z => z.elim) (fun b z => Or.inr z))).trans (Fm.wa (Or.inl rfl) (by omega))
      have o3 : Fo2 q p g1 (wI g2 (q + 39) p (nI ((C p).2.1 + 1))) := o2.trans fo_39
      have g39 : hI (wI g2 (q + 39) p (nI ((C p).2.1 + 1))) (q + 39) p = nI ((C p).2.1 + 1) := hI_wI_s
      have g40 : hI (wI g2 (q + 39) p (nI ((C p).2.1 + 1))) (q + 40) = hI g2 (q + 40) := hI_wI_a (by omega)
      have gL : hL (wI g2 (q + 39) p (nI ((C p).2.1 + 1))) = hL g2 := rfl
      have gq : hI (wI g2 (q + 39) p (nI ((C p).2.1 + 1))) q 47 = nI (p + 1) := by rw [hI_wI_a (by omega), mw_47 f2 (fun z => z)]; exact g47
      have f13 : Fm q F40 (A39 q) g1 (wI g2 (q + 39) p (nI ((C p).2.1 + 1))) := (f2.mono (fun _ z => z) (fun b z => Or.inr z)).trans (Fm.wa (Or.inl rfl) (by omega))
      generalize wI g2 (q + 39) p (nI ((C p).2.1 + 1)) = g3 at f3 o3 g39 g40 gL gq f13 ⊢
      have nB : ∀ b, b ≠ q + 39 → b ≠ q + 40 → b ≠ q + 41 → ¬ A39 q b := fun b h0 h1 h2 z => by unfold A39 at z; omega
      refine ok_some ⟨f3.mono (fun k z => by unfold FWk; omega) (fun b z => a39w b z), by rw [(f3.2.2.2.2 64 (by decide)).1]; exact e64, lm.fm f3, pm.fm f3 (fun b _ _ => nB _ (by omega) (by omega) (by omega)) ⟨by decide, by decide, by decide⟩, mt.fm f3 ⟨by decide, by decide⟩ (fun b _ _ => nB _ (by omega) (by omega) (by omega)), ⟨gq, by show p + 1 ≤ 6; omega⟩, fun c hc => ?_, ⟨⟨by rw [(f3.2.2.2.2 60 (by decide)).1]; exact mk.1.1, by rw [(f3.2.2.2.2 61 (by decide)).1]; exact mk.1.2.1, by rw [(f3.2.2.2.2 62 (by decide)).1]; exact mk.1.2.2⟩, ?_⟩, by rw [(f3.2.2.2.2 56 (by decide)).1]; exact mf.1, by rw [(f3.2.2.2.2 57 (by decide)).1]; exact mf.2.1, by rw [(f3.2.2.2.2 58 (by decide)).1]; exact mf.2.2⟩
      · have hc : c < p + 1 := hc
        show MCa g3 q tt c (va_up C p _ c)
        by_cases z : c = p
        · subst z
          rw [va_s]
          refine ⟨⟨by rw [(f13.2.2.2.1 (q + 38) (by omega) (nB _ (by omega) (by omega) (by omega))).1]; exact u1, g39⟩, msk_cmp rc ?_, mlc_cmp rc ?_, ?_⟩
          · unfold MSk at sk ⊢
            rw [g40, gL]; exact sk
          · have hl : S.2.2 = (tt (C c).1).2.2.1 (C c).2.1 := by
              rw [hS]; unfold Sx; split <;> rfl
            rw [hl]
            exact u4.fm f13 (nB _ (by omega) (by omega) (by omega))
          · exact u5.fm f13 (nB _ (by omega) (by omega) (by omega))
        · rw [va_n _ _ z]
          exact ((mc c (by show c < p + 1 + 1; omega)).fo o1 (by omega)).fo o3 z
      · rw [(f3.2.2.2.2 55 (by decide)).2]; exact mk.2
    rw [nl_5, if_lt (by omega) (by decide)]
    by_cases c5 : re = 5
    · rw [if_neg (by omega), if_pos c5, if_pos c5]
      exact fin g1 ((C p).2.2.1, (tt (C p).1).2.1 (C p).2.1, (tt (C p).1).2.2.1 (C p).2.1) (C p).2.2.2.1 (by unfold Sx; rw [if_pos c5]) u3 Fm.refl Fo2.refl
    · rw [if_pos (by omega), if_neg c5, if_neg c5, rcv_ok t1, nI_pred]
      have hw := wd_le re
      have hS : Sx (C p).2.2.1 re ((tt (C p).1).2.1 (C p).2.1) ((tt (C p).1).2.2.1 (C p).2.1) = ((C p).2.2.1 + wd re, spu ((tt (C p).1).2.1 (C p).2.1) (C p).2.2.1 re, (tt (C p).1).2.2.1 (C p).2.1) := by unfold Sx; rw [if_neg c5]
      rw [hS] at rc12
      have rc12 : (C p).2.2.1 + wd re ≤ 12 := rc12
      refine ok_cl (m_put l1 u3 (by omega) (show re < 5 by omega) v (by omega)) (fun _ g2 z => ?_)
      exact fin g2 ((C p).2.2.1 + wd re, spu ((tt (C p).1).2.1 (C p).2.1) (C p).2.2.1 re, (tt (C p).1).2.2.1 (C p).2.1) _ hS.symm z.1 z.2.1 z.2.2
theorem m_leave (pw : PW P) (st : ST P tt) {h : Hp} {k n : Nat} {C : Nat → Cl} {T : Th} {R : (Int32 × Int32 × Int32) × (Nat × Nat × Nat) × Int64} (wi : WI P tt k ((n + 1, C), T, R)) (hk : k < 2 ^ 31) (mw : MW h q P tt ((n + 1, C), T, R)) (e64 : hI h q 64 = -1) (e65 : hI h q 65 = -2) (hop : p_op P (C n).1 (C n).2.1 = 34) : Ok (FX12_callOrEnd (some q) (nI n) 34 (p_A P (C n).1 (C n).2.1) h) (MgQ q P tt h n ((n + 1, C), T, R)) := by
  obtain ⟨f1, f2, f3, f4, f5, f6⟩ := top_f pw st wi
  obtain ⟨lm, pm, mt, ⟨e47, n6⟩, mc, mk, mf⟩ := id mw
  have n6 : n + 1 ≤ 6 := n6
  have mt : MTh h q T := mt
  obtain ⟨hod, htg, e, htk, h57, h34, hput, hS12, hnx⟩ := j_own_0 f5.1
  have c0 : CI P tt T k (C n) := wi.2.2.1 n (by show n < n + 1; omega)
  obtain ⟨mcb, mcs, mcl, mch⟩ : MCa h q tt n (C n) := mc n (by show n < n + 1; omega)
  rw [hop] at hod htk
  rw [f6] at htk
  obtain ⟨a, ha, ea, eca⟩ := wi_ex (x := p_A P (C n).1 (C n).2.1) (n := 6) (by decide) hod
  have hre : p_re P (C n).1 = a := by
    by_cases z : cN (p_A P (C n).1 (C n).2.1) = p_re P (C n).1
    · rw [← z, eca]
    · exact absurd ⟨hop, z⟩ h34
  rw [eca] at htk
  have htk : takeL ((tt (C n).1).2.1 (C n).2.1) (if a = 5 then [] else [a]) (C n).2.2.1 = some e := htk
  have hone : w_one P ((n + 1, C), T, R) n = w_leave P ((n + 1, C), T, R) n (C n) := by
    show (if p_op P (C n).1 (C n).2.1 = 34 then _ else _) = _
    rw [if_pos hop]
  rw [ea]
  unfold FX12_callOrEnd
  rw [if_pos rfl]
  show Ok (BX12_callOrEnd_12 100000 (some q) (nI n) (nI a) (b2i (decide (0 < sm 0 (C n).2.2.2.2.2))) (nI 0) h) _
  have hsm := c0.2.2.2.2
  have n60 : T.1 ≤ 60 := mt.1.2.2
  refine ce_12 lm mt mch (by omega) (by omega) c0.2.2.2.1 (fun hs => ?_) (fun hs => ?_) 100000 0 (by omega) (by omega)
  · have hlv : w_leave P ((n + 1, C), T, R) n (C n) = if n = 0 then ((0, C), T, R.1, R.2.1, (if a = 5 then 0 else (C n).2.2.2.1 ((C n).2.2.1 - wd a))) else ((n, va_up C (n - 1) ((C (n - 1)).1, (C (n - 1)).2.1 + 1, (if a = 5 then (C (n - 1)).2.2.1 else (C (n - 1)).2.2.1 + wd a), (if a = 5 then (C (n - 1)).2.2.2.1 else pushS (C (n - 1)).2.2.2.1 (C (n - 1)).2.2.1 a ((C n).2.2.2.1 ((C n).2.2.1 - wd a))), (C (n - 1)).2.2.2.2.1, (C (n - 1)).2.2.2.2.2)), T, R) := by
      unfold w_leave
      rw [if_neg (by omega), hre]
    rw [nl_5, if_lt (by omega) (by decide)]
    by_cases c5 : a = 5
    · rw [if_neg (by omega)]
      refine (ce_81 (v := 0) st wi mw Fm.refl Fo2.refl hre ha e64).mono (fun _ g z => ⟨z.1, Or.inl ⟨z.2.1, ?_, by rw [hone, hlv]; split <;> rfl⟩⟩)
      rw [hone, hlv, if_pos c5, if_pos c5, if_pos c5]
      have := z.2.2
      rw [if_pos c5, if_pos c5] at this
      exact this
    · rw [if_pos (by omega), rcv_ok lm.1]
      rw [if_neg c5] at htk
      obtain ⟨g1, g2, -⟩ := tk_hd htk
      refine ok_cl (m_take lm mcs (by omega) (show a < 5 by omega) g1 g2) (fun r g z => ?_)
      obtain ⟨z1, z2, z3, z4⟩ := z
      subst z1
      refine (ce_81 st wi mw z3 z4 hre ha e64).mono (fun _ g z => ⟨z.1, Or.inl ⟨z.2.1, ?_, by rw [hone, hlv]; split <;> rfl⟩⟩)
      rw [hone, hlv, if_neg c5, if_neg c5, if_neg c5]
      have := z.2.2
      rw [if_neg c5, if_neg c5] at this
      exact this
  · rw [rcv_ok lm.1, f_fail lm.1, cl_ok]
    have ff : Fm q (fun k => k = 64) (fun _ => False) h (wI h q 64 6) := Fm.fI rfl
    refine ok_some ⟨ff.mono (fun k z => by unfold FWk; omega) (fun _ z => z.elim), Or.inr ⟨6, none, by decide, hI_wI_s, by rw [hI_wI_k (by decide)]; exact e65, fun t z => (by cases z), my_T mw.my ff (fun k z => by omega) (fun _ z => z.elim) (mt.fm ff ⟨by decide, by decide⟩ (fun _ _ _ z => z)), ?_⟩⟩
    rw [hone]
    unfold w_leave
    rw [if_pos hs]
end LV
