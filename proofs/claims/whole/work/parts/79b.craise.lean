/-! the class: a failure -/
section CR
variable {o : Nat} {ma ta : Nat → Nat} {P : Pg}
theorem p_cat_lt (pw : PW P) {m i f g : Nat} (hm : m < p_nm P) (h : p_cat P m i f = some g) : g < 60 ∧ ∃ k, k < p_nh P m ∧ pcov P m k i = true ∧ g = p_hg P m k := by
  unfold p_cat at h
  rw [Option.map_eq_some_iff] at h
  obtain ⟨k, h1, rfl⟩ := h
  have h2 := List.mem_range.mp (List.mem_of_find?_eq_some h1)
  have h3 := List.find?_some h1
  rw [Bool.and_eq_true] at h3
  exact ⟨((pw.2.2.2.1 m hm).2.2.2.2.2.2.2.2 k h2).2.2.1, k, h2, h3.1, rfl⟩
theorem CK.keep {h g : Hp} {W W' : Wk} (v : CK h o W) (hl : ∀ c, c < 6 → hL g (o + 25 + 5 * c) = hL h (o + 25 + 5 * c)) (e14 : ∀ k, k = 7 ∨ k = 8 ∨ k = 9 ∨ k = 11 ∨ k = 12 ∨ k = 13 → hI g (o + 14) k = hI h (o + 14) k) (l14 : hL g (o + 14) = hL h (o + 14)) (hW : ∀ c, c < 6 → (W'.1.2 c).2.2.2.2.1 = (W.1.2 c).2.2.2.2.1) (h2 : W'.2.2 = W.2.2) : CK g o W' := by
  obtain ⟨v1, v2, v3, v4⟩ := v
  unfold CK
  rw [h2, e14 7 (by omega), e14 8 (by omega), e14 9 (by omega), e14 11 (by omega), e14 12 (by omega), e14 13 (by omega), l14]
  exact ⟨fun c hc j hj => by rw [hl c hc, hW c hc]; exact v1 c hc j hj, v2, v3, v4⟩
theorem rs_25 (pw : PW P) (ap : Apt o ma ta P) {f m i : Nat} {v32 : Int32} {C : Nat → Cl} {R : (Int32 × Int32 × Int32) × (Nat × Nat × Nat) × Int64} : ∀ (fu n : Nat) (T : Th) (h : Hp), n < fu → PC h o ma ta P → CX h o ma ((n, C), T, R) → (∀ c, c < n → (C c).1 < p_nm P ∧ (C c).2.1 < 60) → Ok (BX9_raise_25 fu (some (o + 14)) (nI f) (nI m) (nI i) v32 h) (fun _ g => CW g o ma (w_fn P ((n, C), T, R) f (Int32.toInt64 v32) m i) ∧ Fw o h g) := by
  intro fu
  induction fu with
  | zero => intro n T h h1; omega
  | succ fu ih =>
    intro n T h hfu pc cx hC
    obtain ⟨wt, tv, ⟨n1, n2⟩, cc, ck⟩ := cx
    have n1 : hI h (o + 14) 4 = nI n := n1
    have n2 : n ≤ 6 := n2
    have t14 := wt.1.1
    unfold BX9_raise_25
    rw [gI_ok t14, n1, ir_0 (by omega)]
    cases n with
    | zero =>
      rw [if_neg (by decide), pI_ok t14, pI_ok (show hT (wI h (o + 14) 7 (nI f)) (o + 14) = _ from t14), pI_ok (show hT (wI (wI h (o + 14) 7 (nI f)) (o + 14) 8 (nI i)) (o + 14) = _ from t14), wfn_0]
      have f1 : Fr (fun b => b = o + 14) h (wI (wI (wI h (o + 14) 7 (nI f)) (o + 14) 8 (nI i)) (o + 14) 9 (nI m)) := ((Fr.wI (A := fun b => b = o + 14) rfl).trans (Fr.wI rfl)).trans (Fr.wI rfl)
      have ek : ∀ k, k ≠ 7 → k ≠ 8 → k ≠ 9 → hI (wI (wI (wI h (o + 14) 7 (nI f)) (o + 14) 8 (nI i)) (o + 14) 9 (nI m)) (o + 14) k = hI h (o + 14) k := fun k h7 h8 h9 => by rw [hI_wI_k h9, hI_wI_k h8, hI_wI_k h7]
      refine ok_some ⟨⟨wt.fr f1, tv.fr f1 (fun b h1 h2 => by omega), ⟨by rw [ek 4 (by decide) (by decide) (by decide)]; exact n1, by show 0 ≤ 6; omega⟩, fun c hc => (by cases hc), ?_, ⟨?_, ?_, ?_⟩, ?_, ?_⟩, Fw.of f1 (fun b z => by omega) (ek 6 (by decide) (by decide) (by decide)) (ek 10 (by decide) (by decide) (by decide))⟩
      · intro c hc j hj
        rw [(f1.2.2.2 (o + 25 + 5 * c) (by omega)).2]; exact ck.1 c hc j hj
      · rw [hI_wI_k (by decide), hI_wI_k (by decide), hI_wI_s]
      · rw [hI_wI_k (by decide), hI_wI_s]
      · exact hI_wI_s
      · rw [ek 11 (by decide) (by decide) (by decide), ek 12 (by decide) (by decide) (by decide), ek 13 (by decide) (by decide) (by decide)]; exact ck.2.2.1
      · exact ck.2.2.2
    | succ n =>
      obtain ⟨-, ⟨d0, s0, cs0⟩, cm0⟩ := cc n (by show n < n + 1; omega)
      have cm0 : CM h o ma n (C n) := cm0
      have cs0 : CS h o n ((C n).1, (C n).2.1, d0, s0, (C n).2.2.2.2.1, (C n).2.2.2.2.2) := cs0
      obtain ⟨⟨r20, t22⟩, ⟨r4, r5, r6⟩, -, -, t25, t26⟩ := wt.2.2.2.2 n (by omega)
      obtain ⟨hm0, hi0⟩ := hC n (by omega)
      have am0 := ap.1 _ hm0
      rw [if_pos (by omega), gR_ok t14, wt.1.2.2.2.1, gI_ok t14, n1, nI_pred, aR_n wt.2.2.2.1.1 (by omega) (by decide), r20, gR_ok t22, cm0.2.2, gI_ok t22, cm0.2.1, rcv_ok (pc.2.2.1 _ hm0).2.1.1, f_catcher pc pw hm0 hi0, cl_ok]
      cases hcat : p_cat P (C n).1 (C n).2.1 f with
      | none =>
        show Ok (if (-1 : Int32) = -1 then _ else _) _
        rw [if_pos rfl, rcv_ok t14, wfn_n hcat]
        refine ok_cl (f_letGo (by omega) wt tv cs0.2.2.1) (fun _ g q => ?_)
        obtain ⟨q1, q2⟩ := q
        have wg := wt.fr q2
        have e4 : hI g (o + 14) 4 = nI (n + 1) := by rw [(q2.2.2.2 (o + 14) (by unfold AL; omega)).1]; exact n1
        rw [gI_ok wg.1.1, e4, pI_ok wg.1.1, nI_pred]
        have f2 : Fr (fun b => b = o + 14) g (wI g (o + 14) 4 (nI n)) := Fr.wI rfl
        have ff : Fr (fun b => AL o n b ∨ b = o + 14) h (wI g (o + 14) 4 (nI n)) := (q2.mono (fun b z => Or.inl z)).trans (f2.mono (fun b z => Or.inr z))
        have ek : ∀ k, k ≠ 4 → hI (wI g (o + 14) 4 (nI n)) (o + 14) k = hI h (o + 14) k := fun k hk => by rw [hI_wI_k hk, (q2.2.2.2 (o + 14) (by unfold AL; omega)).1]
        have fw : Fw o h (wI g (o + 14) 4 (nI n)) := Fw.of ff (fun b z => by unfold AL at z; omega) (ek 6 (by decide)) (ek 10 (by decide))
        have l14 : hL (wI g (o + 14) 4 (nI n)) (o + 14) = hL h (o + 14) := by
          show hL g (o + 14) = _
          rw [(q2.2.2.2 (o + 14) (by unfold AL; omega)).2]
        have e4' : hI (wI g (o + 14) 4 (nI n)) (o + 14) 4 = nI n := hI_wI_s
        generalize wI g (o + 14) 4 (nI n) = g2 at f2 ff ek fw l14 e4' ⊢
        refine (ih n (lgT T (C n).2.2.2.2.2) g2 (by omega) (pc.fw ap fw) ⟨wg.fr f2, q1.fr f2 (fun b h1 h2 => by omega), ⟨e4', by show n ≤ 6; omega⟩, fun c hc => ?_, ?_⟩ (fun c hc => hC c (by omega))).mono (fun _ k q => ⟨q.1, fw.trans q.2⟩)
        · have hc : c < n := hc
          obtain ⟨y1, y2, y3⟩ := cc c (by show c < n + 1; omega)
          have z1 : CS g2 o c (C c) := (y1 (by show c + 1 < n + 1; omega)).keep ff (fun b h1 h2 => by unfold AL; omega)
          exact ⟨fun _ => z1, ⟨_, _, z1⟩, y3.keep ff (by unfold AL; omega)⟩
        · exact ck.keep (fun c hc => by rw [(ff.2.2.2 (o + 25 + 5 * c) (by unfold AL; omega)).2]) (fun k hk => ek k (by omega)) l14 (fun c hc => rfl) rfl
      | some gt =>
        obtain ⟨hg, -⟩ := p_cat_lt pw hm0 hcat
        show Ok (if nI gt = -1 then _ else _) _
        rw [ie_m (by omega), gR_ok t22, r4, rcv_ok cs0.1.1, wfn_s hcat]
        refine ok_cl (k_clear cs0.1) (fun _ g1 q => ?_)
        obtain ⟨q1, q2⟩ := q
        have w1 := wt.fr q2
        obtain ⟨⟨-, u22⟩, ⟨u4, -, -⟩, -⟩ := w1.2.2.2.2 n (by omega)
        rw [gR_ok u22, u4, rcv_ok q1.1]
        refine ok_cl (k_push q1 (Int32.toInt64 v32) (by omega)) (fun _ g2 p => ?_)
        obtain ⟨p1, p2⟩ := p
        have f12 := q2.trans p2
        have w2 := wt.fr f12
        obtain ⟨⟨-, x22⟩, -⟩ := w2.2.2.2.2 n (by omega)
        rw [pI_ok x22, show o2i (some gt) = nI gt from rfl]
        have f3 : Fr (fun b => b = o + 22 + 5 * n) g2 (wI g2 (o + 22 + 5 * n) 2 (nI gt)) := Fr.wI rfl
        have e22 : hI (wI g2 (o + 22 + 5 * n) 2 (nI gt)) (o + 22 + 5 * n) 2 = nI gt := hI_wI_s
        have k22 : ∀ k, k ≠ 2 → hI (wI g2 (o + 22 + 5 * n) 2 (nI gt)) (o + 22 + 5 * n) k = hI g2 (o + 22 + 5 * n) k := fun k hk => hI_wI_k hk
        generalize wI g2 (o + 22 + 5 * n) 2 (nI gt) = g3 at f3 e22 k22 ⊢
        have w3 := w2.fr f3
        have fa : Fr (fun b => Aw (o + 23 + 5 * n) (o + 24 + 5 * n) b ∨ b = o + 22 + 5 * n) h g3 := (f12.mono (fun b z => Or.inl z)).trans (f3.mono (fun b z => Or.inr z))
        have e13 : hI g3 (o + 14) 13 = nI R.2.1.2.2 := by rw [(fa.2.2.2 (o + 14) (by unfold Aw; omega)).1]; exact ck.2.2.1.2.2
        rw [gI_ok w3.1.1, e13, pI_ok w3.1.1, nI_1]
        have f4 : Fr (fun b => b = o + 14) g3 (wI g3 (o + 14) 13 (nI (R.2.1.2.2 + 1))) := Fr.wI rfl
        have ek : ∀ k, k ≠ 13 → hI (wI g3 (o + 14) 13 (nI (R.2.1.2.2 + 1))) (o + 14) k = hI h (o + 14) k := fun k hk => by rw [hI_wI_k hk, (fa.2.2.2 (o + 14) (by unfold Aw; omega)).1]
        have e13' : hI (wI g3 (o + 14) 13 (nI (R.2.1.2.2 + 1))) (o + 14) 13 = nI (R.2.1.2.2 + 1) := hI_wI_s
        have l14 : hL (wI g3 (o + 14) 13 (nI (R.2.1.2.2 + 1))) (o + 14) = hL h (o + 14) := by
          show hL g3 (o + 14) = _
          rw [(fa.2.2.2 (o + 14) (by unfold Aw; omega)).2]
        generalize wI g3 (o + 14) 13 (nI (R.2.1.2.2 + 1)) = g4 at f4 ek e13' l14 ⊢
        have fb : Fr (fun b => (Aw (o + 23 + 5 * n) (o + 24 + 5 * n) b ∨ b = o + 22 + 5 * n) ∨ b = o + 14) h g4 := (fa.mono (fun b z => Or.inl z)).trans (f4.mono (fun b z => Or.inr z))
        refine ok_some ⟨⟨wt.fr fb, tv.fr fb (fun b h1 h2 => by unfold Aw; omega), ⟨by rw [ek 4 (by decide)]; exact n1, n2⟩, fun c hc => ?_, fun c hc j hj => ?_, ?_, ?_, ?_⟩, Fw.of fb (fun b z => by unfold Aw at z; omega) (ek 6 (by decide)) (ek 10 (by decide))⟩
        · have hc : c < n + 1 := hc
          show CS g4 o c (va_up C n _ c) ∧ CM g4 o ma c (va_up C n _ c)
          by_cases z : c = n
          · subst z
            rw [va_s]
            have fc : Fr (fun b => b = o + 22 + 5 * c ∨ b = o + 14) g2 g4 := (f3.mono (fun b z => Or.inl z)).trans (f4.mono (fun b z => Or.inr z))
            refine ⟨⟨?_, ?_, ?_, ?_⟩, ?_, ?_, ?_⟩
            · refine (p1.fr fc (by omega) (by omega)).to (fun a ha => ?_)
              have : a = 0 := by omega
              subst this
              exact if_pos rfl
            · intro j hj
              rw [(fb.2.2.2 (o + 25 + 5 * c) (by unfold Aw; omega)).2]; exact cs0.2.1 j hj
            · intro t ht
              rw [(fb.2.2.2 (o + 26 + 5 * c) (by unfold Aw; omega)).1]; exact cs0.2.2.1 t ht
            · rw [(f4.2.2.2 (o + 22 + 5 * c) (by omega)).1, k22 7 (by decide), (f12.2.2.2 (o + 22 + 5 * c) (by unfold Aw; omega)).1]; exact cs0.2.2.2
            · rw [(f4.2.2.2 (o + 22 + 5 * c) (by omega)).1, k22 0 (by decide), (f12.2.2.2 (o + 22 + 5 * c) (by unfold Aw; omega)).1]; exact cm0.1
            · rw [(f4.2.2.2 (o + 22 + 5 * c) (by omega)).1]; exact e22
            · rw [fb.2.1]; exact cm0.2.2
          · rw [va_n _ _ z]
            obtain ⟨y1, y2, y3⟩ := cc c (by show c < n + 1; omega)
            exact ⟨(y1 (by show c + 1 < n + 1; omega)).keep fb (fun b h1 h2 => by unfold Aw; omega), y3.keep fb (by unfold Aw; omega)⟩
        · show hL g4 (o + 25 + 5 * c) j = (va_up C n _ c).2.2.2.2.1 j
          rw [(fb.2.2.2 (o + 25 + 5 * c) (by unfold Aw; omega)).2]
          by_cases z : c = n
          · subst z; rw [va_s]; exact ck.1 c hc j hj
          · rw [va_n _ _ z]; exact ck.1 c hc j hj
        · rw [ek 7 (by decide), ek 8 (by decide), ek 9 (by decide)]; exact ck.2.1
        · rw [ek 11 (by decide), ek 12 (by decide), e13']; exact ⟨ck.2.2.1.1, ck.2.2.1.2.1, rfl⟩
        · rw [l14]; exact ck.2.2.2
theorem f_raise (pw : PW P) (ap : Apt o ma ta P) {h : Hp} {f m i : Nat} {th : Option Nat} {W : Wk} (pc : PC h o ma ta P) (cx : CX h o ma W) (h14 : hI h (o + 14) 14 = o2i th) (hth : ∀ t, th = some t → t < 60) (hC : ∀ c, c < W.1.1 → (W.1.2 c).1 < p_nm P ∧ (W.1.2 c).2.1 < 60) : Ok (FX9_raise (some (o + 14)) (nI f) (nI m) (nI i) h) (fun _ g => CW g o ma (w_raise P W f th m i) ∧ Fw o h g) := by
  obtain ⟨⟨n, C⟩, T, R⟩ := W
  have wt := cx.1
  have tv : TV h o T U0 := cx.2.1
  have n6 : n ≤ 6 := cx.2.2.1.2
  have t14 := wt.1.1
  unfold FX9_raise w_raise w_ft
  rw [gI_ok t14, h14]
  cases th with
  | some t =>
    have := hth t rfl
    show Ok (if nI t = -1 then _ else _) _
    rw [ie_m (by omega), gI_ok t14, h14]
    dsimp only
    unfold BX9_raise_23
    have := rs_25 (f := f) (m := m) (i := i) (v32 := nI t) pw ap 100000 n T h (by omega) pc cx hC
    rw [nI_l8 (by omega)] at this
    exact this
  | none =>
    show Ok (if (-1 : Int32) = -1 then _ else _) _
    rw [if_pos rfl, gR_ok t14, wt.1.2.2.1, rcv_ok wt.2.1.1]
    dsimp only
    unfold BX9_raise_23
    by_cases c60 : T.1 = 60
    · rw [f_makeF60 wt tv c60, cl_ok, if_pos c60]
      exact rs_25 (f := f) (m := m) (i := i) (v32 := -1) pw ap 100000 n T h (by omega) pc cx hC
    · have n60 := tv.1.2
      rw [if_neg c60]
      refine ok_cl (f_makeF wt tv (by omega) (nI f)) (fun r g q => ?_)
      obtain ⟨rfl, q2, q3⟩ := q
      have fw : Fw o h g := Fw.of' q3 (fun b z => by unfold AT at z; omega)
      have := rs_25 (f := f) (m := m) (i := i) (v32 := nI T.1) (C := C) (R := R) pw ap 100000 n (addT T (-100 + nI f) 0) g (by omega) (pc.fw ap fw) ⟨wt.fr q3, q2, ⟨by rw [(q3.2.2.2 (o + 14) (by unfold AT; omega)).1]; exact cx.2.2.1.1, n6⟩, fun c hc => ?_, ?_⟩ hC
      · rw [nI_l8 (by omega)] at this
        exact this.mono (fun _ k z => ⟨z.1, fw.trans z.2⟩)
      · have hc : c < n := hc
        obtain ⟨y1, ⟨d, s, y2⟩, y3⟩ := cx.2.2.2.1 c hc
        exact ⟨fun z => (y1 z).keep q3 (fun b h1 h2 => by unfold AT; omega), ⟨d, s, y2.keep q3 (fun b h1 h2 => by unfold AT; omega)⟩, y3.keep q3 (by unfold AT; omega)⟩
      · exact CK.keep cx.2.2.2.2 (fun c hc => by rw [(q3.2.2.2 (o + 25 + 5 * c) (by unfold AT; omega)).2]) (fun k hk => by rw [(q3.2.2.2 (o + 14) (by unfold AT; omega)).1]) (by rw [(q3.2.2.2 (o + 14) (by unfold AT; omega)).2]) (fun c hc => rfl) rfl
end CR
