/-! the class: failures, monitors, any operation but calls -/
section CO4
variable {h : Hp} {o c m i d : Nat} {s l : Nat → Int64} {hn : Nat → Nat} {T : Th}
theorem f_useFailure {P : Pg} (px : PX h o c (m, i, d, s, l, hn) T) {op : Nat} {A B : Int32} {σ : Nat → Nat} {e : Nat} (h1 : 30 ≤ op) (h2 : op ≤ 31) (htk : takeL σ (j_tk P op (cN A) (cN B)) d = some e) (hd : d ≤ 12) (ty : ∀ p, p < d → Ty T.1 (σ p) (s p)) (hfl : ∀ t, t < T.1 → T.2.1 t < 0 → ∃ j : Nat, j < 16 ∧ T.2.1 t = -100 + nI j) : Ok (cl (FX9_useFailure (some (o + 14)) (some (o + 23 + 5 * c)) (nI op) A h) (fun r g => some (r, g))) (PR o c h (m, i, d, s, l, hn) (x_op P op A B (m, i, d, s, l, hn) T)) := by
  have w : Wv h (o + 23 + 5 * c) (o + 24 + 5 * c) d s := px.2.2.1.1
  have fr := Fr.refl (Aw (o + 23 + 5 * c) (o + 24 + 5 * c)) h
  have n60 := px.2.1.1.2
  rw [xop_v (by omega) (by omega) (by omega)]
  have ev : x_val P op A B d s l hn i T = x_fm op A d s hn i T := by
    rcases (show op = 30 ∨ op = 31 by omega) with rfl | rfl <;> rfl
  rw [ev]
  unfold FX9_useFailure
  rcases (show op = 30 ∨ op = 31 by omega) with rfl | rfl
  · have et : tkW (j_tk P 30 (cN A) (cN B)) = 0 := rfl
    have ep : j_pt P 30 (cN A) (cN B) = 4 := rfl
    rw [et, ep, Nat.sub_zero, if_pos (show nI 30 = 30 from rfl), gR_ok px.1.1.1, px.1.1.2.2.1, rcv_ok px.1.2.1.1]
    unfold x_fm
    rw [if_pos rfl]
    refine ok_cl (Q := PR o c h (m, i, d, s, l, hn) (xw m d 4 s l (if T.1 = 60 then xf 7 hn i T else xo (lN T.1) hn (i + 1) (addT T (-100 + A) 0)))) ?_ (fun r g q => ok_some q)
    by_cases c60 : T.1 = 60
    · rw [f_makeF60 px.1 px.2.1 c60, cl_ok, rcv_ok w.1, if_pos c60]
      refine ok_cl (k_push w _ (by omega)) (fun _ g q => ?_)
      rw [if_pos rfl]
      exact pr_fail px q.2 q.1 7 _ _
    · rw [if_neg c60]
      refine ok_cl (f_makeF px.1 px.2.1 (by omega) A) (fun r g q => ?_)
      obtain ⟨rfl, q2, q3⟩ := q
      have wg : Wv g (o + 23 + 5 * c) (o + 24 + 5 * c) d s := w.fr q3 (by unfold AT; omega) (by unfold AT; omega)
      rw [rcv_ok wg.1, nI_l8 (by omega)]
      refine ok_cl (k_push wg _ (by omega)) (fun _ g2 p => ?_)
      rw [ie_m (by omega)]
      unfold xw xo pushS
      dsimp only
      rw [if_neg (by decide), if_neg (by decide), if_neg (by decide)]
      exact ok_some (pr_okN px (q3.aT.trans p.2.aN) (q2.aw p.2) p.1)
  · have htk : takeL σ [4] d = some e := htk
    rw [takeL] at htk
    have w4 : wd 4 = 1 := rfl
    have cc : wd 4 ≤ d ∧ σ (d - wd 4) = 4 := by
      by_cases cc : wd 4 ≤ d ∧ σ (d - wd 4) = 4
      · exact cc
      · rw [if_neg cc] at htk; cases htk
    have ty4 := ty (d - wd 4) (by omega)
    rw [cc.2, w4] at ty4
    have tx := ty_4 n60 ty4
    obtain ⟨D, rfl⟩ : ∃ D, d = D + 1 := ⟨d - 1, by omega⟩
    have et : tkW (j_tk P 31 (cN A) (cN B)) = 1 := rfl
    have ep : j_pt P 31 (cN A) (cN B) = 5 := rfl
    have ex : x_fm 31 A (D + 1) s hn i T = (if (s D).toInt32 = -1 then xf 1 hn i T else if T.2.1 (cN (s D).toInt32) < 0 then xft (cN (T.2.1 (cN (s D).toInt32) - (-100))) (cN (s D).toInt32) hn i T else xf 5 hn i T) := rfl
    rw [Nat.add_sub_cancel] at tx
    rw [et, ep, ex, Nat.add_sub_cancel, if_neg (by decide), rcv_ok w.1]
    refine ok_cl (Q := PR o c h (m, i, D + 1, s, l, hn) (xw m D 5 s l (if (s D).toInt32 = -1 then xf 1 hn i T else if T.2.1 (cN (s D).toInt32) < 0 then xft (cN (T.2.1 (cN (s D).toInt32) - (-100))) (cN (s D).toInt32) hn i T else xf 5 hn i T))) (ok_cl (k_popInt w) (fun r g q => ?_)) (fun r g q => ok_some q)
    obtain ⟨rfl, q2, q3⟩ := q
    have wg := px.1.fr q3
    have tg := px.2.1.aw q3
    rcases tx with tx | ⟨t, ht, tx⟩
    · rw [tx, if_pos rfl, if_pos rfl]
      exact pr_fail px q3 q2 1 _ _
    · have m1 := nI_nm1 (a := t) (by omega)
      rw [tx, if_neg m1, if_neg m1, gR_ok wg.1.1, wg.1.2.2.1, rcv_ok wg.2.1.1, f_isArr wg tg ht, cl_ok, b2i_if, cN_n (by omega)]
      by_cases cn : T.2.1 t < 0
      · obtain ⟨j, hj, ej⟩ := hfl t ht cn
        have e100 : T.2.1 t - (-100) = nI j := by
          rw [ej, Int32.add_comm (-100) (nI j), Int32.add_sub_cancel]
        rw [decide_eq_true cn, if_neg (by decide), if_pos cn, pI_ok wg.1.1]
        have f2 : Fr (fun b => b = o + 14) g (wI g (o + 14) 14 (nI t)) := Fr.wI rfl
        have w2 := wg.fr f2
        have t2 : TV (wI g (o + 14) 14 (nI t)) o T U0 := tg.fr f2 (fun b h1 h2 => by omega)
        have s2 : Wv (wI g (o + 14) 14 (nI t)) (o + 23 + 5 * c) (o + 24 + 5 * c) D s := q2.fr f2 (by omega) (by omega)
        have e14 : hI (wI g (o + 14) 14 (nI t)) (o + 14) 14 = nI t := hI_wI_s
        have k14 : ∀ k, k ≠ 14 → hI (wI g (o + 14) 14 (nI t)) (o + 14) k = hI g (o + 14) k := fun k hk => hI_wI_k hk
        have l14 : hL (wI g (o + 14) 14 (nI t)) (o + 14) = hL g (o + 14) := rfl
        generalize wI g (o + 14) 14 (nI t) = g2 at f2 w2 t2 s2 e14 k14 l14 ⊢
        rw [gR_ok w2.1.1, w2.1.2.2.1, rcv_ok w2.2.1.1, f_failNo w2 t2 ht cn, cl_ok, e100, cN_n (by omega)]
        have ff : Fr (fun b => Aw (o + 23 + 5 * c) (o + 24 + 5 * c) b ∨ b = o + 14) h g2 := (q3.mono (fun b z => Or.inl z)).trans (f2.mono (fun b z => Or.inr z))
        refine ok_some ⟨ff.mono (fun b z => by unfold Aw at z; unfold AP; omega), fun k hk => ?_, ?_, fun k _ _ => ?_, t2, rfl, e14, D, s, px.2.2.1.fr ff (by unfold Aw; omega) (by unfold Aw; omega) (by unfold Aw; omega) s2 m i⟩
        · rw [k14 k hk, (q3.2.2.2 (o + 14) (by unfold Aw; omega)).1]
        · rw [l14, (q3.2.2.2 (o + 14) (by unfold Aw; omega)).2]
        · rw [(ff.2.2.2 (o + 22 + 5 * c) (by unfold Aw; omega)).1]
      · rw [decide_eq_false cn, if_pos (by decide), if_neg cn]
        exact pr_fail px q3 q2 5 _ _
/-- a monitor is taken or let go -/
theorem f_mon48 {g : Hp} (px : PX h o c (m, i, d, s, l, hn) T) (f : Fr (Aw (o + 23 + 5 * c) (o + 24 + 5 * c)) h g) {D t v v2 : Nat} {y : Int32} (w : Wv g (o + 23 + 5 * c) (o + 24 + 5 * c) D s) (ht : t < T.1) (hv : nI (hn t) + y = nI v) (hv2 : nI (sm 60 hn) + y = nI v2) (hs : v2 = sm 60 (va_up hn t v)) : Ok (BX9_useMonitor_48 (some (o + 14)) (some (o + 22 + 5 * c)) (nI t) y g) (PR o c h (m, i, d, s, l, hn) (xw m D 5 s l (xo 0 (va_up hn t v) (i + 1) (hdT T (va_up T.2.2.2.1 t (T.2.2.2.1 t + y)))))) := by
  obtain ⟨p1, p2, p3, p4, p5, p6⟩ := px
  have n60 := p2.1.2
  have wg := p1.fr f
  have tg := p2.aw f
  obtain ⟨⟨-, t22⟩, ⟨r4, r5, r6⟩, -, -, t25, t26⟩ := wg.2.2.2.2 c p6
  have e26 : hI g (o + 26 + 5 * c) t = nI (hn t) := by rw [(f.2.2.2 _ (by unfold Aw; omega)).1]; exact p3.2.2.1 t (by omega)
  have e22 : hI g (o + 22 + 5 * c) 7 = nI (sm 60 hn) := by rw [(f.2.2.2 _ (by unfold Aw; omega)).1]; exact p3.2.2.2
  have e18 := (tg.2 t ht).2.2.1
  unfold BX9_useMonitor_48
  rw [gR_ok t22, r6, aI_n t26 (by omega) (by decide), e26, sI_n t26 (by omega) (by decide), hv]
  have a1 : hI (wI g (o + 26 + 5 * c) t (nI v)) (o + 22 + 5 * c) 7 = nI (sm 60 hn) := by rw [hI_wI_a (by omega)]; exact e22
  rw [gI_ok (show hT (wI g (o + 26 + 5 * c) t (nI v)) (o + 22 + 5 * c) = _ from t22), a1, pI_ok (show hT (wI g (o + 26 + 5 * c) t (nI v)) (o + 22 + 5 * c) = _ from t22), hv2]
  have a2 : hI (wI (wI g (o + 26 + 5 * c) t (nI v)) (o + 22 + 5 * c) 7 (nI v2)) (o + 18) t = T.2.2.2.1 t := by rw [hI_wI_a (by omega), hI_wI_a (by omega)]; exact e18
  rw [gR_ok (show hT (wI (wI g (o + 26 + 5 * c) t (nI v)) (o + 22 + 5 * c) 7 (nI v2)) (o + 14) = _ from wg.1.1), show hR (wI (wI g (o + 26 + 5 * c) t (nI v)) (o + 22 + 5 * c) 7 (nI v2)) (o + 14) 1 = _ from wg.1.2.2.1, gR_ok (show hT (wI (wI g (o + 26 + 5 * c) t (nI v)) (o + 22 + 5 * c) 7 (nI v2)) (o + 15) = _ from wg.2.1.1), show hR (wI (wI g (o + 26 + 5 * c) t (nI v)) (o + 22 + 5 * c) 7 (nI v2)) (o + 15) 2 = _ from wg.2.1.2.2.2.1, aI_n (show hT (wI (wI g (o + 26 + 5 * c) t (nI v)) (o + 22 + 5 * c) 7 (nI v2)) (o + 18) = _ from wg.2.2.1.2.2.1) (by omega) (by decide), a2, sI_n (show hT (wI (wI g (o + 26 + 5 * c) t (nI v)) (o + 22 + 5 * c) 7 (nI v2)) (o + 18) = _ from wg.2.2.1.2.2.1) (by omega) (by decide)]
  have f2 : Fr (fun b => b = o + 26 + 5 * c ∨ b = o + 22 + 5 * c ∨ b = o + 18) g (wI (wI (wI g (o + 26 + 5 * c) t (nI v)) (o + 22 + 5 * c) 7 (nI v2)) (o + 18) t (T.2.2.2.1 t + y)) := ((Fr.wI (A := fun b => b = o + 26 + 5 * c ∨ b = o + 22 + 5 * c ∨ b = o + 18) (Or.inl rfl)).trans (Fr.wI (Or.inr (Or.inl rfl)))).trans (Fr.wI (Or.inr (Or.inr rfl)))
  have b26 : hI (wI (wI (wI g (o + 26 + 5 * c) t (nI v)) (o + 22 + 5 * c) 7 (nI v2)) (o + 18) t (T.2.2.2.1 t + y)) (o + 26 + 5 * c) = upd (hI g (o + 26 + 5 * c)) t (nI v) := by rw [hI_wI_a (by omega), hI_wI_a (by omega), hI_wI_row]
  have b22 : hI (wI (wI (wI g (o + 26 + 5 * c) t (nI v)) (o + 22 + 5 * c) 7 (nI v2)) (o + 18) t (T.2.2.2.1 t + y)) (o + 22 + 5 * c) = upd (hI g (o + 22 + 5 * c)) 7 (nI v2) := by rw [hI_wI_a (by omega), hI_wI_row, hI_wI_a (by omega)]
  have b18 : hI (wI (wI (wI g (o + 26 + 5 * c) t (nI v)) (o + 22 + 5 * c) 7 (nI v2)) (o + 18) t (T.2.2.2.1 t + y)) (o + 18) = upd (hI g (o + 18)) t (T.2.2.2.1 t + y) := by rw [hI_wI_row, hI_wI_a (by omega), hI_wI_a (by omega)]
  generalize wI (wI (wI g (o + 26 + 5 * c) t (nI v)) (o + 22 + 5 * c) 7 (nI v2)) (o + 18) t (T.2.2.2.1 t + y) = g2 at f2 b26 b22 b18 ⊢
  have k14 := f2.2.2.2 (o + 14) (by omega)
  have j14 := f.2.2.2 (o + 14) (by unfold Aw; omega)
  have j22 := f.2.2.2 (o + 22 + 5 * c) (by unfold Aw; omega)
  unfold xw xo
  dsimp only
  rw [if_pos rfl, if_pos rfl]
  refine ok_some ⟨(f.mono (fun b z => by unfold Aw at z; unfold AP; omega)).trans (f2.mono (fun b z => by unfold AP; omega)), fun k _ => by rw [k14.1, j14.1], by rw [k14.2, j14.2], fun k h3 h7 => ?_, ⟨?_, fun a ha => ?_⟩, rfl, ?_, ?_, fun j hj => ?_, fun a ha => ?_, ?_⟩
  · rw [b22, pk_un h7, j22.1]
  · unfold hdT; dsimp only; rw [(f2.2.2.2 (o + 15) (by omega)).1]; exact tg.1
  · unfold hdT at ha ⊢
    dsimp only at ha ⊢
    obtain ⟨d1, d2, d3, d4⟩ := tg.2 a ha
    rw [(f2.2.2.2 (o + 16) (by omega)).1, (f2.2.2.2 (o + 17) (by omega)).1, (f2.2.2.2 (o + 19) (by omega)).2, b18]
    refine ⟨d1, d2, ?_, d4⟩
    by_cases z : a = t
    · subst z; rw [pk_us, va_s]
    · rw [pk_un z, va_n _ _ z]; exact d3
  · rw [b22, pk_un (by decide), j22.1]; exact p5
  · exact w.fr f2 (by omega) (by omega)
  · rw [(f2.2.2.2 (o + 25 + 5 * c) (by omega)).2, (f.2.2.2 (o + 25 + 5 * c) (by unfold Aw; omega)).2]; exact p3.2.1 j hj
  · dsimp only
    rw [b26]
    by_cases z : a = t
    · subst z; rw [pk_us, va_s]
    · rw [pk_un z, va_n _ _ z, (f.2.2.2 (o + 26 + 5 * c) (by unfold Aw; omega)).1]; exact p3.2.2.1 a ha
  · dsimp only
    rw [b22, pk_us, hs]
theorem f_useMonitor {P : Pg} (px : PX h o c (m, i, d, s, l, hn) T) {op : Nat} {A B : Int32} {σ : Nat → Nat} {e : Nat} (h1 : 32 ≤ op) (h2 : op ≤ 33) (htk : takeL σ (j_tk P op (cN A) (cN B)) d = some e) (hd : d ≤ 12) (ty : ∀ p, p < d → Ty T.1 (σ p) (s p)) (hsm : sm 60 hn < 2 ^ 31) : Ok (cl (FX9_useMonitor (some (o + 14)) (some (o + 22 + 5 * c)) (nI op) h) (fun r g => some (r, g))) (PR o c h (m, i, d, s, l, hn) (x_op P op A B (m, i, d, s, l, hn) T)) := by
  have w : Wv h (o + 23 + 5 * c) (o + 24 + 5 * c) d s := px.2.2.1.1
  have n60 := px.2.1.1.2
  obtain ⟨⟨-, t22⟩, ⟨r4, r5, r6⟩, -, -, t25, t26⟩ := px.1.2.2.2.2 c px.2.2.2.2.2
  rw [xop_v (by omega) (by omega) (by omega)]
  have ev : x_val P op A B d s l hn i T = x_fm op A d s hn i T := by
    rcases (show op = 32 ∨ op = 33 by omega) with rfl | rfl <;> rfl
  have ht4 : j_tk P op (cN A) (cN B) = [4] := by
    rcases (show op = 32 ∨ op = 33 by omega) with rfl | rfl <;> rfl
  have ep : j_pt P op (cN A) (cN B) = 5 := by
    rcases (show op = 32 ∨ op = 33 by omega) with rfl | rfl <;> rfl
  rw [ht4] at htk
  rw [ev, ht4, ep, tkW_1]
  rw [takeL] at htk
  have w4 : wd 4 = 1 := rfl
  have cc : wd 4 ≤ d ∧ σ (d - wd 4) = 4 := by
    by_cases cc : wd 4 ≤ d ∧ σ (d - wd 4) = 4
    · exact cc
    · rw [if_neg cc] at htk; cases htk
  have ty4 := ty (d - wd 4) (by omega)
  rw [cc.2, w4] at ty4
  have tx := ty_4 n60 ty4
  obtain ⟨D, rfl⟩ : ∃ D, d = D + 1 := ⟨d - 1, by omega⟩
  rw [w4, Nat.add_sub_cancel]
  rw [Nat.add_sub_cancel] at tx
  unfold FX9_useMonitor
  rw [gR_ok t22, r4, rcv_ok w.1]
  have ex : x_fm op A (D + 1) s hn i T = (if (s D).toInt32 = -1 then xf 1 hn i T else if op = 32 then xo 0 (va_up hn (cN (s D).toInt32) (hn (cN (s D).toInt32) + 1)) (i + 1) (hdT T (va_up T.2.2.2.1 (cN (s D).toInt32) (T.2.2.2.1 (cN (s D).toInt32) + 1))) else if hn (cN (s D).toInt32) = 0 then xf 6 hn i T else xo 0 (va_up hn (cN (s D).toInt32) (hn (cN (s D).toInt32) - 1)) (i + 1) (hdT T (va_up T.2.2.2.1 (cN (s D).toInt32) (T.2.2.2.1 (cN (s D).toInt32) + (-1))))) := by
    unfold x_fm
    rw [if_neg (show ¬ op = 30 by omega), if_neg (show ¬ op = 31 by omega), Nat.add_sub_cancel]
  rw [ex]
  refine ok_cl (Q := PR o c h (m, i, D + 1, s, l, hn) (xw m D 5 s l (if (s D).toInt32 = -1 then xf 1 hn i T else if op = 32 then xo 0 (va_up hn (cN (s D).toInt32) (hn (cN (s D).toInt32) + 1)) (i + 1) (hdT T (va_up T.2.2.2.1 (cN (s D).toInt32) (T.2.2.2.1 (cN (s D).toInt32) + 1))) else if hn (cN (s D).toInt32) = 0 then xf 6 hn i T else xo 0 (va_up hn (cN (s D).toInt32) (hn (cN (s D).toInt32) - 1)) (i + 1) (hdT T (va_up T.2.2.2.1 (cN (s D).toInt32) (T.2.2.2.1 (cN (s D).toInt32) + (-1))))))) (ok_cl (k_popInt w) (fun r g q => ?_)) (fun r g q => ok_some q)
  obtain ⟨rfl, q2, q3⟩ := q
  have wg := px.1.fr q3
  obtain ⟨⟨-, u22⟩, ⟨-, -, u6⟩, -, -, -, u26⟩ := wg.2.2.2.2 c px.2.2.2.2.2
  rcases tx with tx | ⟨t, ht, tx⟩
  · rw [tx, nl_60, f_within_f (by decide) (Or.inl (by decide)), cl_ok, if_pos rfl, if_pos rfl]
    exact pr_fail px q3 q2 1 _ _
  · have m1 := nI_nm1 (a := t) (by omega)
    have e26 : hI g (o + 26 + 5 * c) t = nI (hn t) := by rw [(q3.2.2.2 _ (by unfold Aw; omega)).1]; exact px.2.2.1.2.2.1 t (by omega)
    have hge := sm_ge (f := hn) (show t < 60 by omega)
    rw [tx, nl_60, f_within_t (by omega) (by decide), cl_ok, if_neg (by decide), if_neg m1, cN_n (by omega), nl_33, if_eq (by omega) (by decide)]
    unfold BX9_useMonitor_37
    rw [nl_32, if_eq (by omega) (by decide)]
    rcases (show op = 32 ∨ op = 33 by omega) with rfl | rfl
    · rw [if_neg (by decide), if_pos rfl, if_pos rfl]
      refine f_mon48 px q3 q2 ht (nI_1 _) (nI_1 (sm 60 hn)) ?_
      have := sm_up (n := 60) (f := hn) (t := t) (v := hn t + 1) (by omega)
      omega
    · rw [if_pos rfl, if_neg (by decide), gR_ok u22, u6, aI_n u26 (by omega) (by decide), e26, ie_0 (by omega)]
      by_cases c0 : hn t = 0
      · rw [if_pos c0, if_pos c0]
        exact pr_fail px q3 q2 6 _ _
      · rw [if_neg c0, if_neg c0, if_neg (by decide)]
        have p1 : nI (hn t) + (-1) = nI (hn t - 1) := by
          have := pk_m1 (hn t - 1)
          rw [show hn t - 1 + 1 = hn t by omega] at this
          exact this
        have p2 : nI (sm 60 hn) + (-1) = nI (sm 60 hn - 1) := by
          have := pk_m1 (sm 60 hn - 1)
          rw [show sm 60 hn - 1 + 1 = sm 60 hn by omega] at this
          exact this
        refine f_mon48 px q3 q2 ht p1 p2 ?_
        have := sm_up (n := 60) (f := hn) (t := t) (v := hn t - 1) (by omega)
        omega
theorem f_perform {P : Pg} {ma ta : Nat → Nat} (px : PX h o c (m, i, d, s, l, hn) T) (pc : PC h o ma ta P) (pw : PW P) (ap : Apt o ma ta P) {op : Nat} {A B : Int32} {σ : Nat → Nat} {e : Nat} (hop : op < 34) (hod : j_od P op A B = true) (htk : j_take P op (cN A) (cN B) d σ = some e) (hd : d ≤ 12) (ty : ∀ p, p < d → Ty T.1 (σ p) (s p)) (hfl : ∀ t, t < T.1 → T.2.1 t < 0 → ∃ j : Nat, j < 16 ∧ T.2.1 t = -100 + nI j) (hA : 20 ≤ op → op ≤ 22 → ∃ a, a < 60 ∧ A = nI a) (hsm : sm 60 hn < 2 ^ 31) : Ok (FX9_perform (some (o + 14)) (some (o + 22 + 5 * c)) (nI op) A B h) (PR o c h (m, i, d, s, l, hn) (x_op P op A B (m, i, d, s, l, hn) T)) := by
  have w : Wv h (o + 23 + 5 * c) (o + 24 + 5 * c) d s := px.2.2.1.1
  obtain ⟨⟨-, t22⟩, ⟨r4, r5, r6⟩, -, -, t25, t26⟩ := px.1.2.2.2.2 c px.2.2.2.2.2
  have t14 := px.1.1.1
  unfold FX9_perform
  rw [nl_4, if_lt (by decide) (by omega), nl_7, if_lt (by decide) (by omega), nl_16, if_lt (by decide) (by omega), nl_19, if_lt (by decide) (by omega), nl_23, if_lt (by decide) (by omega), nl_29, if_lt (by decide) (by omega), nl_31, if_lt (by decide) (by omega), nl_33, if_lt (by decide) (by omega)]
  by_cases c4 : 4 < op
  · rw [if_pos c4]
    by_cases c7 : 7 < op
    · rw [if_pos c7]
      by_cases c16 : 16 < op
      · have htk : takeL σ (j_tk P op (cN A) (cN B)) d = some e := by
          unfold j_take at htk
          rw [if_neg (by omega)] at htk
          exact htk
        rw [if_pos c16]
        by_cases c19 : 19 < op
        · rw [if_pos c19]
          by_cases c23 : 23 < op
          · rw [if_pos c23]
            by_cases c29 : 29 < op
            · rw [if_pos c29]
              by_cases c31 : 31 < op
              · rw [if_pos c31, if_neg (by omega), rcv_ok t14]
                exact f_useMonitor px (by omega) (by omega) htk hd ty hsm
              · rw [if_neg c31, gR_ok t22, r4, rcv_ok t14]
                exact f_useFailure px (by omega) (by omega) htk hd ty hfl
            · rw [if_neg c29, gR_ok t22, r4, rcv_ok t14]
              exact f_useArray px (by omega) (by omega) hod htk hd ty
          · rw [if_neg c23, rcv_ok t14]
            refine f_jump px pc pw ap (by omega) (by omega) hod (fun z => hA (by omega) z) (fun z => ?_)
            obtain ⟨k1, -⟩ := tkL _ htk
            have : tkW (j_tk P op (cN A) (cN B)) = 1 := by
              rcases (show op = 21 ∨ op = 22 ∨ op = 23 by omega) with rfl | rfl | rfl <;> rfl
            omega
        · rw [if_neg c19, gR_ok t22, r4, rcv_ok t14]
          exact f_compute px (by omega) (by omega) hod htk hd ty
      · have hm : mok op d σ = true := by
          unfold j_take at htk
          rw [if_pos (by omega)] at htk
          by_cases z : mok op d σ = true
          · exact z
          · rw [if_neg z] at htk; cases htk
        unfold mok at hm
        have hm := of_decide_eq_true hm
        rw [if_neg c16, gR_ok t22, r4, rcv_ok w.1]
        exact f_mv px (by omega) (by omega) hd hm.1
    · rw [if_neg c7, rcv_ok t14]
      refine f_useLocal px (by omega) (by omega) hod (fun z => ?_) (fun z => ?_)
      · have := wd_le (cN B); omega
      · subst z
        have htk : takeL σ [cN B] d = some e := htk
        obtain ⟨k1, -⟩ := tkL _ htk
        rw [tkW_1] at k1
        exact k1
  · rw [if_neg c4, gR_ok t22, r4, rcv_ok t14]
    have := wd_le op
    exact f_pushFixed px pc pw (by omega) hod (by omega)
end CO4
