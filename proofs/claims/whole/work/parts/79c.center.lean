/-! the class: a call is over, a call begins -/
section CE
variable {o : Nat} {ma ta : Nat → Nat} {P : Pg}
theorem f_leave (pw : PW P) {h : Hp} {n : Nat} {C : Nat → Cl} {T : Th} {R : (Int32 × Int32 × Int32) × (Nat × Nat × Nat) × Int64} (pc : PC h o ma ta P) (cw : CW h o ma ((n + 1, C), T, R)) (hm : (C n).1 < p_nm P) (hsm : sm 60 (C n).2.2.2.2.2 < 2 ^ 31) (hre : p_re P (C n).1 = 5 ∨ p_re P (C n).1 < 5 ∧ wd (p_re P (C n).1) ≤ (C n).2.2.1) (hd2 : ∀ c, c + 1 = n → p_re P (C n).1 = 5 ∨ (C c).2.2.1 + wd (p_re P (C n).1) ≤ 14) :
    Ok (FX9_leave (some (o + 14)) (some (o + 22 + 5 * n)) h) (fun r g => (0 < sm 60 (C n).2.2.2.2.2 ∧ r = 6 ∧ g = h) ∨ (¬ 0 < sm 60 (C n).2.2.2.2.2 ∧ r = -1 ∧ CW g o ma (w_leave P ((n + 1, C), T, R) n (C n)) ∧ Fw o h g ∧ w_leave P ((n + 1, C), T, R) n (C n) = ((n, (w_leave P ((n + 1, C), T, R) n (C n)).1.2), (w_leave P ((n + 1, C), T, R) n (C n)).2))) := by
  obtain ⟨wt, tv, ⟨n1, n2⟩, cc, ck⟩ := cw
  have n1 : hI h (o + 14) 4 = nI (n + 1) := n1
  have n2 : n + 1 ≤ 6 := n2
  have t14 := wt.1.1
  obtain ⟨cs0, cm0⟩ := cc n (by show n < n + 1; omega)
  have cs0 : CS h o n (C n) := cs0
  have cm0 : CM h o ma n (C n) := cm0
  obtain ⟨⟨r20, t22⟩, ⟨r4, r5, r6⟩, -, -, t25, t26⟩ := wt.2.2.2.2 n (by omega)
  unfold FX9_leave
  rw [gI_ok t22, cs0.2.2.2, ir_0 hsm]
  by_cases c0 : 0 < sm 60 (C n).2.2.2.2.2
  · rw [if_pos c0]
    exact ok_some (Or.inl ⟨c0, rfl, rfl⟩)
  · obtain ⟨x1, x2, x3⟩ := pc.2.2.1 _ hm
    have wm := pw.2.2.2.1 _ hm
    have hre6 := wm.1
    rw [if_neg c0, gR_ok t22, cm0.2.2, gI_ok x2.1, x3.1.1, nl_5, if_eq (by omega) (by decide)]
    have l35 : ∀ (v : Int64) (g : Hp), Fr (Aw (o + 23 + 5 * n) (o + 24 + 5 * n)) h g → v = (if p_re P (C n).1 = 5 then 0 else (C n).2.2.2.1 ((C n).2.2.1 - wd (p_re P (C n).1))) → Ok (BX9_leave_35 (some (o + 14)) (nI (p_re P (C n).1)) v g) (fun r g => (0 < sm 60 (C n).2.2.2.2.2 ∧ r = 6 ∧ g = h) ∨ (¬ 0 < sm 60 (C n).2.2.2.2.2 ∧ r = -1 ∧ CW g o ma (w_leave P ((n + 1, C), T, R) n (C n)) ∧ Fw o h g ∧ w_leave P ((n + 1, C), T, R) n (C n) = ((n, (w_leave P ((n + 1, C), T, R) n (C n)).1.2), (w_leave P ((n + 1, C), T, R) n (C n)).2))) := by
      intro v g f1 hv
      have wg := wt.fr f1
      have e14 := f1.2.2.2 (o + 14) (by unfold Aw; omega)
      unfold BX9_leave_35
      rw [gI_ok wg.1.1, e14.1, n1, pI_ok wg.1.1, nI_pred]
      have f2 : Fr (fun b => b = o + 14) g (wI g (o + 14) 4 (nI n)) := Fr.wI rfl
      have ek : ∀ k, k ≠ 4 → hI (wI g (o + 14) 4 (nI n)) (o + 14) k = hI h (o + 14) k := fun k hk => by rw [hI_wI_k hk, e14.1]
      have e4 : hI (wI g (o + 14) 4 (nI n)) (o + 14) 4 = nI n := hI_wI_s
      have l14 : hL (wI g (o + 14) 4 (nI n)) (o + 14) = hL h (o + 14) := e14.2
      generalize wI g (o + 14) 4 (nI n) = g2 at f2 ek e4 l14 ⊢
      have fa : Fr (fun b => Aw (o + 23 + 5 * n) (o + 24 + 5 * n) b ∨ b = o + 14) h g2 := (f1.mono (fun b z => Or.inl z)).trans (f2.mono (fun b z => Or.inr z))
      have w2 := wt.fr fa
      rw [gI_ok w2.1.1, e4, ie_0 (by omega)]
      unfold w_leave
      rw [if_neg c0]
      by_cases cn : n = 0
      · subst cn
        rw [if_pos rfl, if_pos rfl, pL_ok w2.1.1, ← hv]
        have f3 : Fr (fun b => b = o + 14) g2 (wL g2 (o + 14) 5 v) := Fr.wL rfl
        have fb : Fr (fun b => Aw (o + 23 + 5 * 0) (o + 24 + 5 * 0) b ∨ b = o + 14) h (wL g2 (o + 14) 5 v) := fa.trans (f3.mono (fun b z => Or.inr z))
        refine ok_some (Or.inr ⟨c0, rfl, ⟨wt.fr fb, tv.fr fb (fun b h1 h2 => by unfold Aw; omega), ⟨e4, by show 0 ≤ 6; omega⟩, fun c hc => (by cases hc), fun c hc j hj => ?_, ?_, ?_, ?_⟩, Fw.of fb (fun b z => by unfold Aw at z; omega) (ek 6 (by decide)) (ek 10 (by decide)), rfl⟩)
        · rw [(fb.2.2.2 (o + 25 + 5 * c) (by unfold Aw; omega)).2]; exact ck.1 c hc j hj
        · show hI g2 _ _ = _ ∧ hI g2 _ _ = _ ∧ hI g2 _ _ = _
          rw [ek 7 (by decide), ek 8 (by decide), ek 9 (by decide)]; exact ck.2.1
        · show hI g2 _ _ = _ ∧ hI g2 _ _ = _ ∧ hI g2 _ _ = _
          rw [ek 11 (by decide), ek 12 (by decide), ek 13 (by decide)]; exact ck.2.2.1
        · exact hL_wL_s
      · obtain ⟨p, rfl⟩ : ∃ p, n = p + 1 := ⟨n - 1, by omega⟩
        obtain ⟨⟨s20, u22⟩, ⟨u4, u5, u6⟩, -, -, u25, u26⟩ := w2.2.2.2.2 p (by omega)
        obtain ⟨csp, cmp⟩ := cc p (by show p < p + 1 + 1; omega)
        have csp : CS h o p (C p) := csp
        have cmp : CM h o ma p (C p) := cmp
        rw [if_neg cn, if_neg cn, gR_ok w2.1.1, w2.1.2.2.2.1, gI_ok w2.1.1, e4, nI_pred, aR_n w2.2.2.2.1.1 (by omega) (by decide), s20, nl_5, if_eq (by omega) (by decide)]
        have fin : ∀ (g3 : Hp) (D : Nat) (S : Nat → Int64), Fr (Aw (o + 23 + 5 * p) (o + 24 + 5 * p)) g2 g3 → Wv g3 (o + 23 + 5 * p) (o + 24 + 5 * p) D S → Ok (BX9_leave_88 (some (o + 22 + 5 * p)) g3) (fun r g => r = -1 ∧ CW g o ma ((p + 1, va_up C p ((C p).1, (C p).2.1 + 1, D, S, (C p).2.2.2.2.1, (C p).2.2.2.2.2)), T, R) ∧ Fw o h g) := by
          intro g3 D S f3 wv
          have fb : Fr (fun b => (Aw (o + 23 + 5 * (p + 1)) (o + 24 + 5 * (p + 1)) b ∨ b = o + 14) ∨ Aw (o + 23 + 5 * p) (o + 24 + 5 * p) b) h g3 := (fa.mono (fun b z => Or.inl z)).trans (f3.mono (fun b z => Or.inr z))
          have w3 := wt.fr fb
          obtain ⟨⟨-, x22⟩, -⟩ := w3.2.2.2.2 p (by omega)
          have e2 : hI g3 (o + 22 + 5 * p) 2 = nI (C p).2.1 := by rw [(fb.2.2.2 (o + 22 + 5 * p) (by unfold Aw; omega)).1]; exact cmp.2.1
          unfold BX9_leave_88
          rw [gI_ok x22, e2, pI_ok x22, nI_1]
          have f4 : Fr (fun b => b = o + 22 + 5 * p) g3 (wI g3 (o + 22 + 5 * p) 2 (nI ((C p).2.1 + 1))) := Fr.wI rfl
          have k22 : ∀ k, k ≠ 2 → hI (wI g3 (o + 22 + 5 * p) 2 (nI ((C p).2.1 + 1))) (o + 22 + 5 * p) k = hI h (o + 22 + 5 * p) k := fun k hk => by rw [hI_wI_k hk, (fb.2.2.2 (o + 22 + 5 * p) (by unfold Aw; omega)).1]
          have e22 : hI (wI g3 (o + 22 + 5 * p) 2 (nI ((C p).2.1 + 1))) (o + 22 + 5 * p) 2 = nI ((C p).2.1 + 1) := hI_wI_s
          generalize wI g3 (o + 22 + 5 * p) 2 (nI ((C p).2.1 + 1)) = g4 at f4 k22 e22 ⊢
          have fc : Fr (fun b => ((Aw (o + 23 + 5 * (p + 1)) (o + 24 + 5 * (p + 1)) b ∨ b = o + 14) ∨ Aw (o + 23 + 5 * p) (o + 24 + 5 * p) b) ∨ b = o + 22 + 5 * p) h g4 := (fb.mono (fun b z => Or.inl z)).trans (f4.mono (fun b z => Or.inr z))
          have fd : Fr (fun b => Aw (o + 23 + 5 * p) (o + 24 + 5 * p) b ∨ b = o + 22 + 5 * p) g2 g4 := (f3.mono (fun b z => Or.inl z)).trans (f4.mono (fun b z => Or.inr z))
          have d14 := fd.2.2.2 (o + 14) (by unfold Aw; omega)
          refine ok_some ⟨rfl, ⟨wt.fr fc, tv.fr fc (fun b h1 h2 => by unfold Aw; omega), ⟨by rw [d14.1]; exact e4, by show p + 1 ≤ 6; omega⟩, fun c hc => ?_, fun c hc j hj => ?_, ?_, ?_, ?_⟩, Fw.of fc (fun b z => by unfold Aw at z; omega) (by rw [d14.1]; exact ek 6 (by decide)) (by rw [d14.1]; exact ek 10 (by decide))⟩
          · have hc : c < p + 1 := hc
            show CS g4 o c (va_up C p _ c) ∧ CM g4 o ma c (va_up C p _ c)
            by_cases z : c = p
            · subst z
              rw [va_s]
              refine ⟨⟨wv.fr f4 (by omega) (by omega), ?_, ?_, ?_⟩, ?_, ?_, ?_⟩
              · intro j hj
                rw [(fc.2.2.2 (o + 25 + 5 * c) (by unfold Aw; omega)).2]; exact csp.2.1 j hj
              · intro t ht
                rw [(fc.2.2.2 (o + 26 + 5 * c) (by unfold Aw; omega)).1]; exact csp.2.2.1 t ht
              · rw [k22 7 (by decide)]; exact csp.2.2.2
              · rw [k22 0 (by decide)]; exact cmp.1
              · exact e22
              · rw [fc.2.1]; exact cmp.2.2
            · rw [va_n _ _ z]
              obtain ⟨y1, y3⟩ := cc c (by show c < p + 1 + 1; omega)
              exact ⟨y1.keep fc (fun b h1 h2 => by unfold Aw; omega), y3.keep fc (by unfold Aw; omega)⟩
          · show hL g4 (o + 25 + 5 * c) j = (va_up C p _ c).2.2.2.2.1 j
            rw [(fc.2.2.2 (o + 25 + 5 * c) (by unfold Aw; omega)).2]
            by_cases z : c = p
            · subst z; rw [va_s]; exact ck.1 c hc j hj
            · rw [va_n _ _ z]; exact ck.1 c hc j hj
          · rw [d14.1, ek 7 (by decide), ek 8 (by decide), ek 9 (by decide)]; exact ck.2.1
          · rw [d14.1, ek 11 (by decide), ek 12 (by decide), ek 13 (by decide)]; exact ck.2.2.1
          · rw [d14.2, l14]; exact ck.2.2.2
        have wp : Wv g2 (o + 23 + 5 * p) (o + 24 + 5 * p) (C p).2.2.1 (C p).2.2.2.1 := csp.1.fr fa (by unfold Aw; omega) (by unfold Aw; omega)
        by_cases c5 : p_re P (C (p + 1)).1 = 5
        · rw [if_pos c5, if_pos c5, if_pos c5]
          refine (fin g2 _ _ (Fr.refl _ _) wp).mono (fun r g q => Or.inr ⟨c0, q.1, q.2.1, q.2.2, rfl⟩)
        · rw [if_neg c5, if_neg c5, if_neg c5, gR_ok u22, u4, rcv_ok wp.1]
          rw [if_neg c5] at hv
          have hd := hd2 p rfl
          refine ok_cl (k_pushBits (by omega) wp v (hd.resolve_left c5)) (fun _ g3 q => ?_)
          rw [← hv]
          exact (fin g3 _ _ q.2 q.1).mono (fun r g q => Or.inr ⟨c0, q.1, q.2.1, q.2.2, rfl⟩)
    by_cases c5 : p_re P (C n).1 = 5
    · rw [if_pos c5]
      exact l35 0 h (Fr.refl _ _) (by rw [if_pos c5])
    · obtain ⟨z1, z2⟩ := hre.resolve_left c5
      rw [if_neg c5, gR_ok t22, r4, rcv_ok cs0.1.1]
      refine ok_cl (k_popBits (d := (C n).2.2.1 - wd (p_re P (C n).1)) (by omega) (cs0.1.sub (by omega))) (fun r g q => ?_)
      obtain ⟨rfl, q2, q3⟩ := q
      exact l35 _ g q3 (by rw [if_neg c5])
theorem bg_29 {c : Nat} (hc : c < 6) : ∀ (f k : Nat) (h : Hp), k ≤ 60 → 60 - k < f → WT (hT h) (hR h) o → (∀ t, t < k → hI h (o + 26 + 5 * c) t = 0) → Ok (BX0_begin_29 f (some (o + 22 + 5 * c)) (nI k) h) (fun _ g => (∀ t, t < 60 → hI g (o + 26 + 5 * c) t = 0) ∧ Fr (fun b => b = o + 26 + 5 * c) h g ∧ hL g = hL h) := by
  intro f
  induction f with
  | zero => intro k h h1 h2; omega
  | succ f ih =>
    intro k h h1 h2 wt hh
    obtain ⟨⟨r20, t22⟩, ⟨r4, r5, r6⟩, -, -, t25, t26⟩ := wt.2.2.2.2 c hc
    unfold BX0_begin_29
    rw [nl_60, if_lt (by omega) (by decide)]
    by_cases ck : k < 60
    · rw [if_pos ck, gR_ok t22, r6, sI_n t26 ck (by decide), nI_1]
      have f1 : Fr (fun b => b = o + 26 + 5 * c) h (wI h (o + 26 + 5 * c) k 0) := Fr.wI rfl
      refine (ih (k + 1) _ (by omega) (by omega) (wt.fr f1) (fun t ht => ?_)).mono (fun r g q => ⟨q.1, f1.trans q.2.1, q.2.2⟩)
      by_cases z : t = k
      · subst z; exact hI_wI_s
      · rw [hI_wI_k z]; exact hh t (by omega)
    · rw [if_neg ck]
      exact ok_some ⟨fun t ht => hh t (by omega), Fr.refl _ _, rfl⟩
theorem sm_0 (n : Nat) : sm n (fun _ => 0) = 0 := by rw [sm_c]; omega
/-- a call is made ready -/
theorem k_begin {h : Hp} {c m : Nat} (hc : c < 6) (wt : WT (hT h) (hR h) o) : Ok (FX0_begin (some (o + 22 + 5 * c)) (nI m) (some (ma m)) h) (fun _ g => (hT g = hT h ∧ hz g = hz h ∧ (∀ b, ¬ (o + 22 + 5 * c ≤ b ∧ b ≤ o + 26 + 5 * c) → hI g b = hI h b ∧ hL g b = hL h b) ∧ (∀ b k, ¬ (b = o + 22 + 5 * c ∧ k = 1) → hR g b k = hR h b k)) ∧ hL g = hL h ∧ CM g o ma c (m, 0, 0, (fun _ => 0), hL h (o + 25 + 5 * c), (fun _ => 0)) ∧ CS g o c (m, 0, 0, (fun _ => 0), hL h (o + 25 + 5 * c), (fun _ => 0))) := by
  obtain ⟨⟨r20, t22⟩, ⟨r4, r5, r6⟩, ⟨t23, r23⟩, t24, t25, t26⟩ := wt.2.2.2.2 c hc
  unfold FX0_begin
  rw [pI_ok t22, pR_ok (show hT (wI h (o + 22 + 5 * c) 0 (nI m)) (o + 22 + 5 * c) = _ from t22), pI_ok (show hT (wR (wI h (o + 22 + 5 * c) 0 (nI m)) (o + 22 + 5 * c) 1 (some (ma m))) (o + 22 + 5 * c) = _ from t22)]
  have E : ∃ g : Hp, g = wI (wR (wI h (o + 22 + 5 * c) 0 (nI m)) (o + 22 + 5 * c) 1 (some (ma m))) (o + 22 + 5 * c) 2 0 := ⟨_, rfl⟩
  obtain ⟨g, eg⟩ := E
  rw [← eg]
  have gT : hT g = hT h := by rw [eg]; rfl
  have gz : hz g = hz h := by rw [eg]; rfl
  have gL : hL g = hL h := by rw [eg]; rfl
  have gI1 : ∀ b, b ≠ o + 22 + 5 * c → hI g b = hI h b := fun b hb => by rw [eg, hI_wI_a hb]; exact hI_wI_a hb
  have g0 : hI g (o + 22 + 5 * c) 0 = nI m := by rw [eg, hI_wI_k (by decide)]; exact hI_wI_s
  have g2 : hI g (o + 22 + 5 * c) 2 = 0 := by rw [eg]; exact hI_wI_s
  have gR1 : hR g (o + 22 + 5 * c) 1 = some (ma m) := by
    rw [eg]
    show up2 (hR h) (o + 22 + 5 * c) 1 (some (ma m)) (o + 22 + 5 * c) 1 = _
    unfold up2
    rw [if_pos rfl, if_pos rfl]
  have gR2 : ∀ b k, ¬ (b = o + 22 + 5 * c ∧ k = 1) → hR g b k = hR h b k := fun b k hb => by
    rw [eg]
    show up2 (hR h) (o + 22 + 5 * c) 1 (some (ma m)) b k = _
    unfold up2
    by_cases z : b = o + 22 + 5 * c
    · rw [if_pos z, if_neg (fun y => hb ⟨z, y⟩)]
    · rw [if_neg z]
  clear eg
  have wg : WT (hT g) (hR g) o := by
    refine wt.fw (g := g) ⟨gT, gz, fun b hb => ⟨gI1 b (by omega), by rw [gL], ?_⟩, fun b k hb => gR2 b k (hb c hc), ?_, ?_⟩
    · funext k; exact gR2 b k (by omega)
    · rw [gI1 _ (by omega)]
    · rw [gI1 _ (by omega)]
  obtain ⟨⟨-, x22⟩, ⟨x4, x5, x6⟩, ⟨x23, x23r⟩, x24, x25, x26⟩ := wg.2.2.2.2 c hc
  unfold FX10_clear
  rw [gR_ok x22, x4, rcv_ok x23, pI_ok x23, cl_ok, pI_ok (show hT (wI g (o + 23 + 5 * c) 1 0) (o + 22 + 5 * c) = _ from x22), nI_c0]
  have f1 : Fr (fun b => b = o + 23 + 5 * c ∨ b = o + 22 + 5 * c) g (wI (wI g (o + 23 + 5 * c) 1 (nI 0)) (o + 22 + 5 * c) 7 (nI 0)) := (Fr.wI (A := fun b => b = o + 23 + 5 * c ∨ b = o + 22 + 5 * c) (Or.inl rfl)).trans (Fr.wI (Or.inr rfl))
  have k7 : hI (wI (wI g (o + 23 + 5 * c) 1 (nI 0)) (o + 22 + 5 * c) 7 (nI 0)) (o + 22 + 5 * c) 7 = nI 0 := hI_wI_s
  have kn : ∀ k, k ≠ 7 → hI (wI (wI g (o + 23 + 5 * c) 1 (nI 0)) (o + 22 + 5 * c) 7 (nI 0)) (o + 22 + 5 * c) k = hI g (o + 22 + 5 * c) k := fun k hk => by rw [hI_wI_k hk, hI_wI_a (by omega)]
  have k23 : hI (wI (wI g (o + 23 + 5 * c) 1 (nI 0)) (o + 22 + 5 * c) 7 (nI 0)) (o + 23 + 5 * c) 1 = nI 0 := by rw [hI_wI_a (by omega)]; exact hI_wI_s
  have kL : hL (wI (wI g (o + 23 + 5 * c) 1 (nI 0)) (o + 22 + 5 * c) 7 (nI 0)) = hL g := rfl
  generalize wI (wI g (o + 23 + 5 * c) 1 (nI 0)) (o + 22 + 5 * c) 7 (nI 0) = g3 at f1 k7 kn k23 kL ⊢
  refine (bg_29 hc 100000 0 g3 (by omega) (by omega) (wg.fr f1) (fun t ht => by omega)).mono (fun _ k q => ?_)
  obtain ⟨q1, q2, q3⟩ := q
  have ff : Fr (fun b => (b = o + 23 + 5 * c ∨ b = o + 22 + 5 * c) ∨ b = o + 26 + 5 * c) g k := (f1.mono (fun b z => Or.inl z)).trans (q2.mono (fun b z => Or.inr z))
  have kLL : hL k = hL h := by rw [q3, kL, gL]
  have k22 := q2.2.2.2 (o + 22 + 5 * c) (by omega)
  have wk := wg.fr ff
  obtain ⟨⟨-, y22⟩, ⟨y4, y5, y6⟩, ⟨y23, y23r⟩, y24, y25, y26⟩ := wk.2.2.2.2 c hc
  refine ⟨⟨by rw [ff.1]; exact gT, by rw [ff.2.2.1]; exact gz, fun b hb => ⟨?_, by rw [kLL]⟩, fun b j hb => by rw [ff.2.1]; exact gR2 b j hb⟩, kLL, ⟨?_, ?_, ?_⟩, ⟨y23, y23r, y24, by omega, ?_, by show 0 ≤ 14; omega, fun a ha => (by cases ha)⟩, fun j hj => ?_, fun a ha => ?_, ?_⟩
  · rw [(ff.2.2.2 b (by omega)).1]; exact gI1 b (by omega)
  · rw [k22.1, kn 0 (by decide)]; exact g0
  · rw [k22.1, kn 2 (by decide)]; exact g2
  · rw [ff.2.1]; exact gR1
  · rw [(q2.2.2.2 (o + 23 + 5 * c) (by omega)).1]; exact k23
  · rw [kLL]
  · exact q1 a ha
  · rw [k22.1, k7]
    show nI 0 = nI (sm 60 (fun _ => 0))
    rw [sm_0]
theorem aw_arg (c : Nat) : ∀ k, tkW (argL P c k) = p_aw P c k := by
  intro k
  induction k with
  | zero => rfl
  | succ k ih =>
    have : tkW (argL P c (k + 1)) = wd (p_ka P c k) + tkW (argL P c k) := by
      rw [argL]; unfold tkW; simp
    rw [this, ih, p_aw]; omega
theorem aw_mn {c : Nat} : ∀ {k j : Nat}, k ≤ j → p_aw P c k ≤ p_aw P c j := by
  intro k j h
  induction j with
  | zero => have : k = 0 := by omega
            subst this; exact Nat.le_refl _
  | succ j ih =>
    by_cases z : k = j + 1
    · subst z; exact Nat.le_refl _
    · have := ih (by omega)
      rw [p_aw]; omega
/-- the arguments are handed over -/
theorem en_77 (pw : PW P) (ap : Apt o ma ta P) {a n : Nat} {s : Nat → Int64} (ha : a < p_nm P) (hn : n + 1 < 6) : ∀ (f k D : Nat) (h : Hp) (l : Nat → Int64), k ≤ p_na P a → k < f → PC h o ma ta P → WT (hT h) (hR h) o → Wv h (o + 23 + 5 * n) (o + 24 + 5 * n) (D + p_aw P a k) s → (∀ j, j < 16 → hL h (o + 25 + 5 * (n + 1)) j = l j) →
    Ok (BX9_enter_77 f (some (o + 22 + 5 * n)) (some (ma a)) (some (o + 22 + 5 * (n + 1))) (nI (p_aw P a k)) (nI k + (-1)) h) (fun r g => r = -1 ∧ Wv g (o + 23 + 5 * n) (o + 24 + 5 * n) D s ∧ (∀ j, j < 16 → hL g (o + 25 + 5 * (n + 1)) j = argS P a s k (D + p_aw P a k) l j) ∧ hI g (o + 22 + 5 * n) 3 = hI h (o + 22 + 5 * n) 2 ∧ (∀ x, x ≠ 3 → hI g (o + 22 + 5 * n) x = hI h (o + 22 + 5 * n) x) ∧ Fr (fun b => Aw (o + 23 + 5 * n) (o + 24 + 5 * n) b ∨ b = o + 25 + 5 * (n + 1) ∨ b = o + 22 + 5 * n) h g) := by
  have wm := pw.2.2.2.1 a ha
  intro f
  induction f with
  | zero => intro k D h l h1 h2; omega
  | succ f ih =>
    intro k D h l h1 h2 pc wt wv hl
    obtain ⟨⟨r20, t22⟩, ⟨r4, r5, r6⟩, -, -, t25, t26⟩ := wt.2.2.2.2 n (by omega)
    unfold BX9_enter_77
    cases k with
    | zero =>
      rw [if_pos (by decide), gI_ok t22, pI_ok t22]
      have f1 : Fr (fun b => Aw (o + 23 + 5 * n) (o + 24 + 5 * n) b ∨ b = o + 25 + 5 * (n + 1) ∨ b = o + 22 + 5 * n) h (wI h (o + 22 + 5 * n) 3 (hI h (o + 22 + 5 * n) 2)) := Fr.wI (Or.inr (Or.inr rfl))
      have f2 : Fr (fun b => b = o + 22 + 5 * n) h (wI h (o + 22 + 5 * n) 3 (hI h (o + 22 + 5 * n) 2)) := Fr.wI rfl
      refine ok_some ⟨rfl, (wv.sub (by show D + 0 = D; omega)).fr f2 (by omega) (by omega), fun j hj => ?_, hI_wI_s, fun x hx => hI_wI_k hx, f1⟩
      exact hl j hj
    | succ k =>
      obtain ⟨x1, x2, x3⟩ := pc.2.2.1 a ha
      obtain ⟨a0, ⟨m1, m4, m5, m6, m8, m9, m10, m11, m13⟩, u1, -⟩ := id x2
      have hka := x3.2.1 k (by omega)
      have hk5 := wm.2.2.2.2.2.2.1 k (by omega)
      have hna := wm.2.1
      have hw := wd_le (p_ka P a k)
      have e1 : p_aw P a (k + 1) = p_aw P a k + wd (p_ka P a k) := rfl
      have hle : p_aw P a (k + 1) ≤ p_aw P a (p_na P a) := aw_mn h1
      have hnw : p_aw P a (p_na P a) ≤ 8 := by rw [wm.2.2.2.2.2.1]; exact wm.2.2.1
      rw [pk_m1, if_neg (nI_pos (by omega)), gR_ok a0, m1, aI_n u1 (by omega) (by decide), hka, f_width (by omega), cl_ok, gR_ok t22, r4, gR_ok a0, m1, aI_n u1 (by omega) (by decide), hka, rcv_ok wv.1, e1, pk_sub (by omega), Nat.add_sub_cancel]
      rw [e1] at wv
      refine ok_cl (k_popBits (d := D + p_aw P a k) (by omega) (wv.sub (by omega))) (fun r g q => ?_)
      obtain ⟨rfl, q2, q3⟩ := q
      have wg := wt.fr q3
      rw [rcv_ok (wg.2.2.2.2 (n + 1) hn).1.2, f_wrL wg hn (by omega), cl_ok]
      have f2 : Fr (fun b => b = o + 25 + 5 * (n + 1)) g (wL g (o + 25 + 5 * (n + 1)) (p_aw P a k) (s (D + p_aw P a k))) := Fr.wL rfl
      have ls : ∀ j, hL (wL g (o + 25 + 5 * (n + 1)) (p_aw P a k) (s (D + p_aw P a k))) (o + 25 + 5 * (n + 1)) j = vp_updL (hL g (o + 25 + 5 * (n + 1))) (p_aw P a k) (s (D + p_aw P a k)) j := fun j => by rw [hL_wL_row]
      generalize wL g (o + 25 + 5 * (n + 1)) (p_aw P a k) (s (D + p_aw P a k)) = g2 at f2 ls ⊢
      have ff : Fr (fun b => Aw (o + 23 + 5 * n) (o + 24 + 5 * n) b ∨ b = o + 25 + 5 * (n + 1) ∨ b = o + 22 + 5 * n) h g2 := (q3.mono (fun b z => Or.inl z)).trans (f2.mono (fun b z => Or.inr (Or.inl z)))
      have fw : Fw o h g2 := Fw.of' ff (fun b z => by unfold Aw at z; omega)
      have e22 : hI g2 (o + 22 + 5 * n) = hI h (o + 22 + 5 * n) := by rw [(f2.2.2.2 (o + 22 + 5 * n) (by omega)).1, (q3.2.2.2 (o + 22 + 5 * n) (by unfold Aw; omega)).1]
      refine (ih k D g2 (vp_updL l (p_aw P a k) (s (D + p_aw P a k))) (by omega) (by omega) (pc.fw ap fw) (wg.fr f2) (q2.fr f2 (by omega) (by omega)) (fun j hj => ?_)).mono (fun r g3 p => ?_)
      · rw [ls j]
        unfold vp_updL
        by_cases z : j = p_aw P a k
        · rw [if_pos z, if_pos z]
        · rw [if_neg z, if_neg z, (q3.2.2.2 (o + 25 + 5 * (n + 1)) (by unfold Aw; omega)).2]; exact hl j hj
      · obtain ⟨p1, p2, p3, p4, p5, p6⟩ := p
        refine ⟨p1, p2, fun j hj => ?_, by rw [p4, e22], fun x hx => by rw [p5 x hx, e22], ff.trans p6⟩
        rw [p3 j hj, argS, show D + (p_aw P a k + wd (p_ka P a k)) - wd (p_ka P a k) = D + p_aw P a k by omega]
theorem f_enter (pw : PW P) (ap : Apt o ma ta P) {h : Hp} {n a : Nat} {C : Nat → Cl} {T : Th} {R : (Int32 × Int32 × Int32) × (Nat × Nat × Nat) × Int64} (pc : PC h o ma ta P) (cw : CW h o ma ((n + 1, C), T, R)) (ha : a < p_nm P) (hd : p_nw P a ≤ (C n).2.2.1) :
    Ok (FX9_enter (some (o + 14)) (some (o + 22 + 5 * n)) (nI a) h) (fun r g => (n = 5 ∧ r = 8 ∧ g = h) ∨ (¬ n = 5 ∧ r = -1 ∧ CW g o ma (w_enter P ((n + 1, C), T, R) n (C n) a) ∧ Fw o h g ∧ hI g (o + 22 + 5 * n) 3 = nI (C n).2.1)) := by
  obtain ⟨wt, tv, ⟨n1, n2⟩, cc, ck⟩ := cw
  have n1 : hI h (o + 14) 4 = nI (n + 1) := n1
  have n2 : n + 1 ≤ 6 := n2
  have t14 := wt.1.1
  have wm := pw.2.2.2.1 a ha
  have hnm := pw.1
  unfold FX9_enter
  rw [gR_ok t14, wt.1.2.1, rcv_ok pc.1.1, f_findM pc pw ha, cl_ok, nz_ok, gI_ok t14, n1, nl_6, if_eq (by omega) (by decide)]
  by_cases c5 : n = 5
  · rw [if_pos (by omega)]
    exact ok_some (Or.inl ⟨c5, rfl, rfl⟩)
  · obtain ⟨cs0, cm0⟩ := cc n (by show n < n + 1; omega)
    have cs0 : CS h o n (C n) := cs0
    have cm0 : CM h o ma n (C n) := cm0
    obtain ⟨⟨r20, t22⟩, -⟩ := wt.2.2.2.2 (n + 1) (by omega)
    have e11 : hI h (o + 14) 11 = nI R.2.1.1 := ck.2.2.1.1
    rw [if_neg (by omega), gR_ok t14, wt.1.2.2.2.1, gI_ok t14, n1, aR_n wt.2.2.2.1.1 (by omega) (by decide), r20, gI_ok t14, n1, pI_ok t14, nI_1]
    have e11' : hI (wI h (o + 14) 4 (nI (n + 1 + 1))) (o + 14) 11 = nI R.2.1.1 := by rw [hI_wI_k (by decide)]; exact e11
    rw [gI_ok (show hT (wI h (o + 14) 4 (nI (n + 1 + 1))) (o + 14) = _ from t14), e11', pI_ok (show hT (wI h (o + 14) 4 (nI (n + 1 + 1))) (o + 14) = _ from t14), nI_1]
    have f1 : Fr (fun b => b = o + 14) h (wI (wI h (o + 14) 4 (nI (n + 1 + 1))) (o + 14) 11 (nI (R.2.1.1 + 1))) := (Fr.wI (A := fun b => b = o + 14) rfl).trans (Fr.wI rfl)
    have k4 : hI (wI (wI h (o + 14) 4 (nI (n + 1 + 1))) (o + 14) 11 (nI (R.2.1.1 + 1))) (o + 14) 4 = nI (n + 2) := by rw [hI_wI_k (by decide)]; exact hI_wI_s
    have k11 : hI (wI (wI h (o + 14) 4 (nI (n + 1 + 1))) (o + 14) 11 (nI (R.2.1.1 + 1))) (o + 14) 11 = nI (R.2.1.1 + 1) := hI_wI_s
    have kk : ∀ k, k ≠ 4 → k ≠ 11 → hI (wI (wI h (o + 14) 4 (nI (n + 1 + 1))) (o + 14) 11 (nI (R.2.1.1 + 1))) (o + 14) k = hI h (o + 14) k := fun k h4 h11 => by rw [hI_wI_k h11, hI_wI_k h4]
    have kL : hL (wI (wI h (o + 14) 4 (nI (n + 1 + 1))) (o + 14) 11 (nI (R.2.1.1 + 1))) = hL h := rfl
    generalize wI (wI h (o + 14) 4 (nI (n + 1 + 1))) (o + 14) 11 (nI (R.2.1.1 + 1)) = g1 at f1 k4 k11 kk kL ⊢
    have w1 := wt.fr f1
    rw [rcv_ok (w1.2.2.2.2 (n + 1) (by omega)).1.2]
    refine ok_cl (k_begin (ma := ma) (c := n + 1) (m := a) (by omega) w1) (fun _ g2 q => ?_)
    obtain ⟨⟨b1, b2, b3, b4⟩, bL, bm, bs⟩ := q
    have e14 := b3 (o + 14) (by omega)
    have fw1 : Fw o h g1 := Fw.of f1 (fun b z => by omega) (kk 6 (by decide) (by decide)) (kk 10 (by decide) (by decide))
    have fw2 : Fw o g1 g2 := ⟨b1, b2, fun b hb => ⟨(b3 b (by omega)).1, (b3 b (by omega)).2, by funext k; exact b4 b k (by omega)⟩, fun b k hb => b4 b k (hb (n + 1) (by omega)), by rw [e14.1], by rw [e14.1]⟩
    have fw := fw1.trans fw2
    have pc2 := pc.fw ap fw
    have w2 := wt.fw fw
    obtain ⟨x1, x2, x3⟩ := pc2.2.2.1 a ha
    have ef : ∀ b, ¬ b = o + 14 → ¬ (o + 22 + 5 * (n + 1) ≤ b ∧ b ≤ o + 26 + 5 * (n + 1)) → hI g2 b = hI h b ∧ hL g2 b = hL h b := fun b h1 h2 => ⟨(b3 b h2).1.trans (f1.2.2.2 b h1).1, (b3 b h2).2.trans (f1.2.2.2 b h1).2⟩
    have wv2 : Wv g2 (o + 23 + 5 * n) (o + 24 + 5 * n) ((C n).2.2.1 - p_nw P a + p_aw P a (p_na P a)) (C n).2.2.2.1 := by
      rw [wm.2.2.2.2.2.1, show (C n).2.2.1 - p_nw P a + p_nw P a = (C n).2.2.1 by omega]
      obtain ⟨v1, v2, v3, v4, v5, v6, v7⟩ := cs0.1
      obtain ⟨-, -, ⟨t23, r23⟩, t24, -⟩ := w2.2.2.2.2 n (by omega)
      exact ⟨t23, r23, t24, v4, by rw [(ef (o + 23 + 5 * n) (by omega) (by omega)).1]; exact v5, v6, fun a ha => by rw [(ef (o + 24 + 5 * n) (by omega) (by omega)).2]; exact v7 a ha⟩
    rw [gI_ok x2.1, x3.1.2.2.1, gI_ok x2.1, x3.1.2.1, Int32.sub_eq_add_neg]
    have hl2 : ∀ j, j < 16 → hL g2 (o + 25 + 5 * (n + 1)) j = (C (n + 1)).2.2.2.2.1 j := fun j hj => by rw [bL, kL]; exact ck.1 (n + 1) (by omega) j hj
    have en := en_77 (P := P) (s := (C n).2.2.2.1) pw ap ha (show n + 1 < 6 by omega) 100000 (p_na P a) ((C n).2.2.1 - p_nw P a) g2 (C (n + 1)).2.2.2.2.1 (Nat.le_refl _) (by have := wm.2.1; omega) pc2 w2 wv2 hl2
    rw [wm.2.2.2.2.2.1, show (C n).2.2.1 - p_nw P a + p_nw P a = (C n).2.2.1 by omega] at en
    refine en.mono (fun r g3 p => Or.inr ⟨c5, p.1, ?_⟩)
    obtain ⟨p1, p2, p3, p4, p5, p6⟩ := p
    have c14 := p6.2.2.2 (o + 14) (by unfold Aw; omega)
    have fw3 : Fw o g2 g3 := Fw.of' p6 (fun b z => by unfold Aw at z; omega)
    have ef3 : ∀ b, ¬ b = o + 14 → ¬ (o + 22 + 5 * n ≤ b ∧ b ≤ o + 26 + 5 * (n + 1)) → hI g3 b = hI h b ∧ hL g3 b = hL h b := fun b h1 h2 => ⟨(p6.2.2.2 b (by unfold Aw; omega)).1.trans (ef b h1 (by omega)).1, (p6.2.2.2 b (by unfold Aw; omega)).2.trans (ef b h1 (by omega)).2⟩
    have wt3 := wt.fw (fw.trans fw3)
    unfold w_enter
    rw [if_neg c5]
    refine ⟨⟨wt3, ?_, ⟨by rw [c14.1, e14.1]; exact k4, by show n + 2 ≤ 6; omega⟩, fun c hc => ?_, fun c hc j hj => ?_, ?_, ?_, ?_⟩, fw.trans fw3, by rw [p4, (ef (o + 22 + 5 * n) (by omega) (by omega)).1]; exact cm0.2.1⟩
    · show TV g3 o T U0
      have tv : TV h o T U0 := tv
      unfold TV at tv ⊢
      rw [(ef3 (o + 15) (by omega) (by omega)).1, (ef3 (o + 16) (by omega) (by omega)).1, (ef3 (o + 17) (by omega) (by omega)).1, (ef3 (o + 18) (by omega) (by omega)).1, (ef3 (o + 19) (by omega) (by omega)).2]
      exact tv
    · have hc : c < n + 2 := hc
      show CS g3 o c (va_up (va_up C n _) (n + 1) _ c) ∧ CM g3 o ma c (va_up (va_up C n _) (n + 1) _ c)
      by_cases z1 : c = n + 1
      · subst z1
        rw [va_s]
        obtain ⟨s1, s2, s3, s4⟩ := bs
        refine ⟨⟨s1.fr p6 (by unfold Aw; omega) (by unfold Aw; omega), fun j hj => p3 j hj, fun t ht => ?_, ?_⟩, ?_, ?_, ?_⟩
        · rw [(p6.2.2.2 (o + 26 + 5 * (n + 1)) (by unfold Aw; omega)).1]; exact s3 t ht
        · rw [(p6.2.2.2 (o + 22 + 5 * (n + 1)) (by unfold Aw; omega)).1]; exact s4
        · rw [(p6.2.2.2 (o + 22 + 5 * (n + 1)) (by unfold Aw; omega)).1]; exact bm.1
        · rw [(p6.2.2.2 (o + 22 + 5 * (n + 1)) (by unfold Aw; omega)).1]; exact bm.2.1
        · rw [p6.2.1]; exact bm.2.2
      · rw [va_n _ _ z1]
        by_cases z2 : c = n
        · subst z2
          rw [va_s]
          have e22 := (ef (o + 22 + 5 * c) (by omega) (by omega)).1
          refine ⟨⟨p2, fun j hj => ?_, fun t ht => ?_, ?_⟩, ?_, ?_, ?_⟩
          · rw [(p6.2.2.2 (o + 25 + 5 * c) (by unfold Aw; omega)).2, (ef (o + 25 + 5 * c) (by omega) (by omega)).2]; exact cs0.2.1 j hj
          · rw [(p6.2.2.2 (o + 26 + 5 * c) (by unfold Aw; omega)).1, (ef (o + 26 + 5 * c) (by omega) (by omega)).1]; exact cs0.2.2.1 t ht
          · rw [p5 7 (by decide), e22]; exact cs0.2.2.2
          · rw [p5 0 (by decide), e22]; exact cm0.1
          · rw [p5 2 (by decide), e22]; exact cm0.2.1
          · rw [p6.2.1, b4 _ _ (by omega), f1.2.1]; exact cm0.2.2
        · rw [va_n _ _ z2]
          obtain ⟨y1, y3⟩ := cc c (by show c < n + 1; omega)
          have y1 : CS h o c (C c) := y1
          have y3 : CM h o ma c (C c) := y3
          obtain ⟨v1, v2, v3, v4, v5, v6, v7⟩ := y1.1
          obtain ⟨-, -, ⟨t23, r23⟩, t24, -⟩ := wt3.2.2.2.2 c (by omega)
          refine ⟨⟨⟨t23, r23, t24, v4, ?_, v6, fun a ha => ?_⟩, fun j hj => ?_, fun t ht => ?_, ?_⟩, ?_, ?_, ?_⟩
          · rw [(ef3 (o + 23 + 5 * c) (by omega) (by omega)).1]; exact v5
          · rw [(ef3 (o + 24 + 5 * c) (by omega) (by omega)).2]; exact v7 a ha
          · rw [(ef3 (o + 25 + 5 * c) (by omega) (by omega)).2]; exact y1.2.1 j hj
          · rw [(ef3 (o + 26 + 5 * c) (by omega) (by omega)).1]; exact y1.2.2.1 t ht
          · rw [(ef3 (o + 22 + 5 * c) (by omega) (by omega)).1]; exact y1.2.2.2
          · rw [(ef3 (o + 22 + 5 * c) (by omega) (by omega)).1]; exact y3.1
          · rw [(ef3 (o + 22 + 5 * c) (by omega) (by omega)).1]; exact y3.2.1
          · rw [p6.2.1, b4 _ _ (by omega), f1.2.1]; exact y3.2.2
    · show hL g3 (o + 25 + 5 * c) j = (va_up (va_up C n _) (n + 1) _ c).2.2.2.2.1 j
      by_cases z1 : c = n + 1
      · subst z1; rw [va_s]; exact p3 j hj
      · rw [va_n _ _ z1, (p6.2.2.2 (o + 25 + 5 * c) (by unfold Aw; omega)).2, bL, kL]
        by_cases z2 : c = n
        · subst z2; rw [va_s]; exact ck.1 c hc j hj
        · rw [va_n _ _ z2]; exact ck.1 c hc j hj
    · rw [c14.1, e14.1, kk 7 (by decide) (by decide), kk 8 (by decide) (by decide), kk 9 (by decide) (by decide)]; exact ck.2.1
    · rw [c14.1, e14.1, k11, kk 12 (by decide) (by decide), kk 13 (by decide) (by decide)]; exact ⟨rfl, ck.2.2.1.2⟩
    · rw [c14.2, e14.2, kL]; exact ck.2.2.2
end CE
