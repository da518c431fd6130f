/-! the model: things; any operation but calls -/
section MT4
variable {h g : Hp} {q c m i d : Nat} {s l : Nat → Int64} {hn : Nat → Nat} {T : Th} {σ lk : Nat → Nat} {P : Pg}
theorem m_cell {op e : Nat} {A B : Int32} (mx : MX h q c P (m, i, d, s, l, hn) σ lk T) (th : TH T) (hop : op = 25 ∨ op = 26) (hod : j_od P op A B = true) (htk : takeL σ (j_tk P op (cN A) (cN B)) d = some e) (hd : d ≤ 12) (ty : TSt T.1 d σ s) : Ok (FX12_cellOf (some q) (nI c) (nI op) B h) (fun _ g => MRz q c h lk (m, i, d, s, l, hn) (j_put P op (cN A) (cN B) e σ lk) (x_op P op A B (m, i, d, s, l, hn) T) g) := by
  obtain ⟨lm, pm, mth, msk, mlc, mhd, -, hc⟩ := id mx
  have msk : MSk h q c d σ s := msk
  have h60 := th.1
  rw [xop_v (by omega) (by omega) (by omega), jput_v (by omega) (by omega)]
  obtain ⟨k1, k2⟩ := tkL _ htk
  have ho : wi B 8 = true := by rcases hop with rfl | rfl <;> exact hod
  obtain ⟨b, hb, rfl, ecb⟩ := wi_ex (by decide) ho
  rw [ecb] at htk k1 k2 ⊢
  have hk5 : kcl b < 5 := by unfold kcl; split <;> omega
  have hw := wd_le (kcl b)
  have w0 : wd 0 = 1 := rfl
  have w4 : wd 4 = 1 := rfl
  have ep : j_pt P op (cN A) b = if op = 25 then kcl b else 5 := by rcases hop with rfl | rfl <;> rfl
  have ev : x_val P op A (nI b) d s l hn i T = x_arr op A b d s hn i T := by
    have : x_val P op A (nI b) d s l hn i T = x_arr op A (cN (nI b)) d s hn i T := by rcases hop with rfl | rfl <;> rfl
    rw [this, ecb]
  rw [ep, ev, ← k2]
  -- from the index on
  have c29 : ∀ (g : Hp) (x5 : Int64) (D : Nat), Fm q F40 (A41 q) h g → Fo2 q c h g → MSk g q c (D + 2) σ s → D + 2 ≤ d → D = e → σ (D + 1) = 0 → σ D = 4 → (op = 26 → b = 4 → Ty T.1 4 x5) → (x_arr op A b d s hn i T = if op = 25 then (match refc T (s D).toInt32 (s (D + 1)).toInt32 b with
      | some f => xf f hn i T
      | none => xo (T.2.2.2.2 (cN (s D).toInt32) (cN (s (D + 1)).toInt32)) hn (i + 1) T) else x_put b x5 (s (D + 1)).toInt32 (s D).toInt32 hn i T) → Ok (BX12_cellOf_29 (some q) (nI c) (nI op) (nI b) (nI (kcl b)) x5 g) (fun _ g => MRz q c h lk (m, i, d, s, l, hn) (Sx e (if op = 25 then kcl b else 5) σ lk) (xw m e (if op = 25 then kcl b else 5) s l (x_arr op A b d s hn i T)) g) := by
    intro g x5 D f fo w hDd hDe s0 s4 ty5 ex
    subst hDe
    have lg := lm.fm f
    have ty4 := ty D (by omega)
    rw [s4] at ty4
    unfold BX12_cellOf_29
    rw [rcv_ok lg.1]
    refine ok_cl (m_takeI lg w hc (by omega) s0) (fun r g1 x => ?_)
    obtain ⟨rfl, x2, x3, x4⟩ := x
    have x2 : MSk g1 q c (D + 1) σ s := x2
    have l1 := lg.fm x3
    rw [rcv_ok l1.1, show (4 : Int32) = nI 4 from rfl]
    refine ok_cl (m_take (k := 4) l1 x2 hc (by decide) (by omega) s4) (fun r g2 y => ?_)
    obtain ⟨rfl, y2, y3, y4⟩ := y
    have y2 : MSk g2 q c D σ s := y2
    have e1 : s (D + 1 - wd 4) = s D := by rw [w4, Nat.add_sub_cancel]
    have e2 : s (D + 2 - 1) = s (D + 1) := rfl
    have ff := (f.trans x3).trans y3
    have fo2 := (fo.trans x4).trans y4
    have l2 := l1.fm y3
    rw [e1, e2, ex]
    rcases ty_4 h60 ty4 with z | ⟨t, ht, z⟩
    · rw [z, if_pos rfl]
      have er : refc T (-1) (s (D + 1)).toInt32 b = some 1 := by unfold refc; rw [if_pos rfl]
      unfold x_put
      rw [er]
      have : (if op = 25 then xf 1 hn i T else xf 1 hn i T) = xf 1 hn i T := by split <;> rfl
      dsimp only
      rw [this]
      exact mr_fail mx ff fo2 1 _ _ _
    · have m1 := nI_nm1 (a := t) (by omega)
      have mg : MTh g2 q T := mth.fm ff ⟨fun z => z, fun z => z⟩ (fun b h1 h2 => n41 (by omega) (by omega))
      have r33 : hR g2 q 41 = some (q + 33) := by have lm := l2; obtain ⟨mt0, ⟨mr1, mt1⟩, ⟨mr2, mt2⟩, ⟨mr3, mt3⟩, ⟨mr4, mt4⟩, ⟨mr5, mt5⟩, ⟨mr6, mt6⟩, ⟨mr7, mt7⟩, ⟨mr8, mt8⟩, ⟨mr9, mt9⟩, ⟨mr10, mt10⟩, ⟨mr11, mt11⟩, ⟨mr12, mt12⟩, ⟨mr13, mt13⟩, ⟨mr14, mt14⟩, ⟨mr15, mt15⟩, ⟨mr16, mt16⟩, ⟨mr17, mt17⟩, ⟨mr18, mt18⟩, ⟨mr19, mt19⟩, ⟨mr20, mt20⟩, ⟨mr21, mt21⟩, ⟨mr22, mt22⟩, ⟨mr23, mt23⟩, ⟨mr24, mt24⟩, ⟨mr25, mt25⟩, ⟨mr26, mt26⟩, ⟨mr27, mt27⟩, ⟨mr28, mt28⟩, ⟨mr29, mt29⟩, ⟨mr30, mt30⟩, ⟨mr31, mt31⟩, ⟨mr32, mt32⟩, ⟨mr33, mt33⟩, ⟨mr34, mt34⟩, ⟨mr35, mt35⟩, ⟨mr36, mt36⟩, ⟨mr37, mt37⟩, ⟨mr38, mt38⟩, ⟨mr39, mt39⟩, ⟨mr40, mt40⟩, ⟨mr41, mt41⟩, ⟨mr42, mt42⟩, ⟨mr43, mt43⟩⟩ := id lm; exact mr33
      have t33 : hT g2 (q + 33) = some (.inr (.int, 60)) := by have lm := l2; obtain ⟨mt0, ⟨mr1, mt1⟩, ⟨mr2, mt2⟩, ⟨mr3, mt3⟩, ⟨mr4, mt4⟩, ⟨mr5, mt5⟩, ⟨mr6, mt6⟩, ⟨mr7, mt7⟩, ⟨mr8, mt8⟩, ⟨mr9, mt9⟩, ⟨mr10, mt10⟩, ⟨mr11, mt11⟩, ⟨mr12, mt12⟩, ⟨mr13, mt13⟩, ⟨mr14, mt14⟩, ⟨mr15, mt15⟩, ⟨mr16, mt16⟩, ⟨mr17, mt17⟩, ⟨mr18, mt18⟩, ⟨mr19, mt19⟩, ⟨mr20, mt20⟩, ⟨mr21, mt21⟩, ⟨mr22, mt22⟩, ⟨mr23, mt23⟩, ⟨mr24, mt24⟩, ⟨mr25, mt25⟩, ⟨mr26, mt26⟩, ⟨mr27, mt27⟩, ⟨mr28, mt28⟩, ⟨mr29, mt29⟩, ⟨mr30, mt30⟩, ⟨mr31, mt31⟩, ⟨mr32, mt32⟩, ⟨mr33, mt33⟩, ⟨mr34, mt34⟩, ⟨mr35, mt35⟩, ⟨mr36, mt36⟩, ⟨mr37, mt37⟩, ⟨mr38, mt38⟩, ⟨mr39, mt39⟩, ⟨mr40, mt40⟩, ⟨mr41, mt41⟩, ⟨mr42, mt42⟩, ⟨mr43, mt43⟩⟩ := id lm; exact mt33
      obtain ⟨w1, -⟩ := mg.2 t ht
      rw [z, if_neg m1, rcv_ok l2.1, m_isArr l2 mg th ht, cl_ok, b2i_if, cN_n (show t < 2 ^ 31 by omega)]
      by_cases cn : T.2.1 t < 0
      · rw [decide_eq_true cn, if_neg (by decide)]
        exact m_c98 mx th ff fo2 y2 ht hb (by omega) hop (by rw [if_pos cn]) ty5
      · rw [decide_eq_false cn, if_pos (by decide), gR_ok l2.1, r33, aI_n t33 (by omega) (by decide), w1]
        by_cases c16 : T.2.1 t < 16
        · rw [if_pos c16, gR_ok l2.1, r33, aI_n t33 (by omega) (by decide), w1]
          exact m_c98 mx th ff fo2 y2 ht hb (by omega) hop (by rw [if_neg cn]; unfold csI; rw [if_pos c16]) ty5
        · rw [if_neg c16]
          exact m_c98 mx th ff fo2 y2 ht hb (by omega) hop (by rw [if_neg cn]; unfold csI; rw [if_neg c16]; rfl) ty5
  have e10 : FX12_cellOf (some q) (nI c) (nI op) (nI b) h = BX12_cellOf_10 (some q) (nI c) (nI op) (nI b) (nI (kcl b)) h := by
    unfold FX12_cellOf kcl
    rw [nl_5, if_lt (by omega) (by decide)]
    by_cases z : b < 5
    · rw [if_pos z, if_neg (show ¬ 5 ≤ b by omega)]
    · rw [if_neg z, if_pos (show 5 ≤ b by omega)]; rfl
  rw [e10]
  unfold BX12_cellOf_10
  rcases hop with rfl | rfl
  · have htk : takeL σ [0, 4] d = some e := htk
    obtain ⟨a1, a2, a3⟩ := tk_hd htk
    obtain ⟨b1, b2, b3⟩ := tk_hd a3
    rw [w0] at a1 a2 b1 b2
    rw [w4] at b1 b2
    obtain ⟨D, rfl⟩ : ∃ D, d = D + 2 := ⟨d - 2, by omega⟩
    have k2 : e = D := k2
    rw [if_neg (by decide)]
    exact c29 h 0 D Fm.refl Fo2.refl msk (by omega) k2.symm a2 b2 (fun z => by omega) rfl
  · have htk : takeL σ [kcl b, 0, 4] d = some e := htk
    obtain ⟨a1, a2, a3⟩ := tk_hd htk
    obtain ⟨b1, b2, b3⟩ := tk_hd a3
    obtain ⟨c1, c2, c3⟩ := tk_hd b3
    rw [w0] at b1 b2 c1 c2
    rw [w4] at c1 c2
    have et : tkW (j_tk P 26 (cN A) b) = wd (kcl b) + 1 + 1 := by
      have : j_tk P 26 (cN A) b = [kcl b, 0, 4] := rfl
      rw [this, tkW_3, w0, w4]
    rw [et] at k2
    obtain ⟨D, hD⟩ : ∃ D, d = D + 2 + wd (kcl b) := ⟨d - wd (kcl b) - 2, by omega⟩
    have hd2 : d - wd (kcl b) = D + 2 := by omega
    rw [hd2] at a2 b2 c2
    rw [if_pos (show nI 26 = 26 from rfl), rcv_ok lm.1]
    refine ok_cl (m_take lm msk hc hk5 a1 (by rw [hd2]; exact a2)) (fun r g x => ?_)
    obtain ⟨rfl, x2, x3, x4⟩ := x
    rw [hd2] at x2 ⊢
    refine c29 g (s (D + 2)) D x3 x4 x2 (by omega) (by omega) b2 c2 (fun _ z4 => ?_) ?_
    · have := ty (D + 2) (by omega)
      rw [a2] at this
      subst z4
      exact this
    · show x_put b (s (d - wd (kcl b))) (s (d - wd (kcl b) - 1)).toInt32 (s (d - wd (kcl b) - 2)).toInt32 hn i T = _
      rw [hd2, if_neg (by decide)]
      rfl
/-- what is held changes -/
theorem mr_mon (mx : MX h q c P (m, i, d, s, l, hn) σ lk T) (f : Fm q F40 (A41 q) h g) (fo : Fo2 q c h g) {D t v : Nat} {y : Int32} (w : MSk g q c D σ s) (ht : t < T.1) : MRz q c h lk (m, i, d, s, l, hn) (Sx D 5 σ lk) (xw m D 5 s l (xo 0 (va_up hn t v) (i + 1) (hdT T (va_up T.2.2.2.1 t (T.2.2.2.1 t + y))))) (wI (wI g (q + 43) (60 * c + t) (nI v)) (q + 35) t (T.2.2.2.1 t + y)) := by
  obtain ⟨p1, p2, p3, p4, p5, p6, ⟨p7, p8⟩, p9⟩ := mx
  have n60 := p3.1.2.2
  have mg : MTh g q T := p3.fm f ⟨fun z => z, fun z => z⟩ (fun b h1 h2 => n41 (by omega) (by omega))
  have f2 : Fm q F40 (fun b => b = q + 43 ∨ b = q + 35) g (wI (wI g (q + 43) (60 * c + t) (nI v)) (q + 35) t (T.2.2.2.1 t + y)) := (Fm.wa (A := fun b => b = q + 43 ∨ b = q + 35) (Or.inl rfl) (by omega)).trans (Fm.wa (Or.inr rfl) (by omega))
  have e43 : ∀ x, hI (wI (wI g (q + 43) (60 * c + t) (nI v)) (q + 35) t (T.2.2.2.1 t + y)) (q + 43) x = if x = 60 * c + t then nI v else hI h (q + 43) x := fun x => by
    rw [hI_wI_a (by omega)]
    by_cases z : x = 60 * c + t
    · rw [if_pos z, z]; exact hI_wI_s
    · rw [if_neg z, hI_wI_k z, (f.2.2.2.1 (q + 43) (by omega) (n41 (by omega) (by omega))).1]
  have e35 : ∀ x, hI (wI (wI g (q + 43) (60 * c + t) (nI v)) (q + 35) t (T.2.2.2.1 t + y)) (q + 35) x = if x = t then T.2.2.2.1 t + y else hI g (q + 35) x := fun x => by
    by_cases z : x = t
    · rw [if_pos z, z]; exact hI_wI_s
    · rw [if_neg z, hI_wI_k z, hI_wI_a (by omega)]
  generalize wI (wI g (q + 43) (60 * c + t) (nI v)) (q + 35) t (T.2.2.2.1 t + y) = g2 at f2 e43 e35 ⊢
  have eI : ∀ b, b ≠ q → b ≠ q + 43 → b ≠ q + 35 → hI g2 b = hI g b ∧ hL g2 b = hL g b := fun b h0 h1 h2 => f2.2.2.2.1 b h0 (fun z => z.elim h1 h2)
  unfold Sx xw xo
  dsimp only
  rw [if_pos rfl, if_pos rfl, if_pos rfl]
  refine ⟨(f.mono f40w a41w).trans (f2.mono f40w (fun b z => by unfold AW; omega)), ?_, ⟨?_, ?_⟩, ?_, ?_, w.fm f2 (by omega) (by omega), (p5.fm f (n41 (by omega) (by omega))).fm f2 (by omega), ?_⟩
  · refine fo.trans (fun x hx => ?_)
    rw [(eI (q + 38) (by omega) (by omega) (by omega)).1, (eI (q + 39) (by omega) (by omega) (by omega)).1, (eI (q + 40) (by omega) (by omega) (by omega)).1, (eI (q + 41) (by omega) (by omega) (by omega)).2, (eI (q + 42) (by omega) (by omega) (by omega)).2]
    refine ⟨⟨rfl, rfl, rfl⟩, fun _ _ => rfl, fun _ _ => rfl, fun a ha => ?_⟩
    rw [e43, if_neg (by omega), (f.2.2.2.1 (q + 43) (by omega) (n41 (by omega) (by omega))).1]
  · rw [(eI (q + 38) (by omega) (by omega) (by omega)).1, (f.2.2.2.1 (q + 38) (by omega) (n41 (by omega) (by omega))).1]
  · rw [(eI (q + 39) (by omega) (by omega) (by omega)).1, (f.2.2.2.1 (q + 39) (by omega) (n41 (by omega) (by omega))).1]
  · refine ⟨⟨?_, ?_, n60⟩, fun a ha => ?_⟩
    · rw [(f2.2.2.2.2 40 (fun z => z)).1]; exact mg.1.1
    · rw [(f2.2.2.2.2 46 (fun z => z)).1]; exact mg.1.2.1
    · have ha : a < T.1 := ha
      obtain ⟨w1, w2, w3, w4, w5⟩ := mg.2 a ha
      rw [(eI (q + 33) (by omega) (by omega) (by omega)).1, (eI (q + 34) (by omega) (by omega) (by omega)).1, (eI (q + 36) (by omega) (by omega) (by omega)).1, (eI (q + 37) (by omega) (by omega) (by omega)).2]
      refine ⟨w1, w2, ?_, w4, w5⟩
      show hI g2 (q + 35) a = va_up T.2.2.2.1 t (T.2.2.2.1 t + y) a
      rw [e35]
      by_cases z : a = t
      · subst z; rw [if_pos rfl, va_s]
      · rw [if_neg z, va_n _ _ z]; exact w3
  · rw [(f2.2.2.2.2 64 (fun z => z)).1, (f.2.2.2.2 64 (fun z => z)).1]; exact p7
  · intro a ha
    show hI g2 (q + 43) (60 * c + a) = nI (va_up hn t v a)
    rw [e43]
    by_cases z : a = t
    · subst z; rw [if_pos rfl, va_s]
    · rw [if_neg (by omega), va_n _ _ z]; exact p6 a ha
theorem m_thing {op e : Nat} {A B : Int32} (mx : MX h q c P (m, i, d, s, l, hn) σ lk T) (th : TH T) (h1 : 24 ≤ op) (h2 : op ≤ 33) (hod : j_od P op A B = true) (htk : takeL σ (j_tk P op (cN A) (cN B)) d = some e) (hd : d ≤ 12) (ty : TSt T.1 d σ s) (hsm : sm 60 hn < 2 ^ 31) : Ok (FX12_thing3 (some q) (nI c) (nI op) A B h) (fun _ g => MRz q c h lk (m, i, d, s, l, hn) (j_put P op (cN A) (cN B) e σ lk) (x_op P op A B (m, i, d, s, l, hn) T) g) := by
  obtain ⟨lm, pm, mth, msk, mlc, mhd, ⟨e64, e65⟩, hc⟩ := id mx
  have msk : MSk h q c d σ s := msk
  have mhd : MHd h q c hn := mhd
  have h60 := th.1
  have t0 : hT h q = some (.inl 11) := lm.1
  obtain ⟨k1, k2⟩ := tkL _ htk
  unfold FX12_thing3
  by_cases y24 : op = 24
  · subst y24
    have ho : (ity A && decide (1 ≤ B.toInt ∧ B.toInt ≤ A.toInt / 8)) = true := hod
    rw [Bool.and_eq_true, decide_eq_true_eq] at ho
    unfold ity at ho
    rw [decide_eq_true_eq] at ho
    obtain ⟨⟨y1, y2, y3⟩, y4, y5⟩ := ho
    obtain ⟨y, hy, rfl⟩ := nI_lt_of (x := A) (n := 32) (by decide) (by omega) (by omega)
    rw [nI_tI (by omega)] at y1 y5
    obtain ⟨b, hb, rfl⟩ := nI_lt_of (x := B) (n := 4) (by decide) (by omega) (by omega)
    rw [nI_tI (by omega)] at y4 y5
    have ecy := cN_n (show y < 2 ^ 31 by omega)
    have ecb := cN_n (show b < 2 ^ 31 by omega)
    rw [xop_v (by omega) (by omega) (by omega), jput_v (by omega) (by omega)]
    rw [ecy, ecb] at htk k1 k2 ⊢
    have et : tkW (j_tk P 24 y b) = b := by
      have : j_tk P 24 y b = List.replicate b 0 := rfl
      rw [this]
      unfold tkW
      rw [List.map_replicate, List.sum_replicate_nat]
      show b * 1 = b
      omega
    have ev : x_val P 24 (nI y) (nI b) d s l hn i T = x_arr 24 (nI y) b d s hn i T := by
      show x_arr 24 (nI y) (cN (nI b)) d s hn i T = _
      rw [ecb]
    have ep : j_pt P 24 y b = 4 := rfl
    rw [et] at k1 k2 ⊢
    rw [ev, ep, k2, if_pos (show nI 24 = 24 from rfl), rcv_ok t0]
    exact ok_cl (m_newArr mx (by omega) (by omega) (by omega) hy hd htk) (fun _ g x => ok_some x)
  · rw [nl_24, if_eq (by omega) (by decide), if_neg y24, nl_25, if_eq (by omega) (by decide), nl_26, if_eq (by omega) (by decide)]
    by_cases y25 : op = 25
    · rw [if_pos y25]
      unfold BX12_thing3_27
      rw [rcv_ok t0]
      exact ok_cl (m_cell mx th (Or.inl y25) hod htk hd ty) (fun _ g x => ok_some x)
    · rw [if_neg y25]
      by_cases y26 : op = 26
      · rw [if_pos y26]
        unfold BX12_thing3_27
        rw [rcv_ok t0]
        exact ok_cl (m_cell mx th (Or.inr y26) hod htk hd ty) (fun _ g x => ok_some x)
      · rw [if_neg y26, nl_30, if_eq (by omega) (by decide), xop_v (by omega) (by omega) (by omega), jput_v (by omega) (by omega), ← k2]
        by_cases y30 : op = 30
        · subst y30
          have ho : wi A 16 = true := hod
          obtain ⟨a, ha, rfl, eca⟩ := wi_ex (by decide) ho
          have k2 : e = d := k2
          subst k2
          have ep : j_pt P 30 (cN (nI a)) (cN B) = 4 := rfl
          have ev : x_val P 30 (nI a) B e s l hn i T = if T.1 = 60 then xf 7 hn i T else xo (lN T.1) hn (i + 1) (addT T (-100 + nI a) 0) := rfl
          rw [ep, ev, if_pos rfl, gI_ok t0, mth.1.1, nl_60, if_eq (by omega) (by decide)]
          by_cases c60 : T.1 = 60
          · rw [if_pos c60, if_pos c60]
            exact mr_fail mx Fm.refl Fo2.refl 7 _ _ _
          · have em : nI a - 100 = -100 + nI a := by rw [Int32.sub_eq_add_neg, Int32.add_comm]
            rw [if_neg c60, if_neg c60, rcv_ok t0, em, nI_c0]
            refine ok_cl (m_new lm mth (by omega) (-100 + nI a) (z := 0) (by omega)) (fun r g x => ?_)
            obtain ⟨rfl, x2, x3⟩ := x
            rw [nI_l8 (by omega)]
            exact mr_T mx Fm.refl Fo2.refl x3 msk x2 (by omega) _
        · have e4 : j_tk P op (cN A) (cN B) = [4] := by
            rcases (show op = 27 ∨ op = 28 ∨ op = 29 ∨ op = 31 ∨ op = 32 ∨ op = 33 by omega) with rfl | rfl | rfl | rfl | rfl | rfl <;> rfl
          rw [e4] at htk k1 k2
          obtain ⟨a1, a2, -⟩ := tk_hd htk
          have w4 : wd 4 = 1 := rfl
          rw [w4] at a1 a2
          obtain ⟨D, rfl⟩ : ∃ D, d = D + 1 := ⟨d - 1, by omega⟩
          have a2 : σ D = 4 := a2
          have k2 : e = D := k2
          subst k2
          have ty4 := ty e (by omega)
          rw [a2] at ty4
          rw [if_neg y30, rcv_ok t0, show (4 : Int32) = nI 4 from rfl]
          refine ok_cl (m_take (k := 4) lm msk hc (by decide) (by omega) a2) (fun r g x => ?_)
          obtain ⟨rfl, x2, x3, x4⟩ := x
          have x2 : MSk g q c e σ s := x2
          have es : s (e + 1 - wd 4) = s e := by rw [w4, Nat.add_sub_cancel]
          have lg := lm.fm x3
          have mg : MTh g q T := mth.fm x3 ⟨fun z => z, fun z => z⟩ (fun b h1 h2 => n41 (by omega) (by omega))
          have r33 : hR g q 41 = some (q + 33) := by have lm := lg; obtain ⟨mt0, ⟨mr1, mt1⟩, ⟨mr2, mt2⟩, ⟨mr3, mt3⟩, ⟨mr4, mt4⟩, ⟨mr5, mt5⟩, ⟨mr6, mt6⟩, ⟨mr7, mt7⟩, ⟨mr8, mt8⟩, ⟨mr9, mt9⟩, ⟨mr10, mt10⟩, ⟨mr11, mt11⟩, ⟨mr12, mt12⟩, ⟨mr13, mt13⟩, ⟨mr14, mt14⟩, ⟨mr15, mt15⟩, ⟨mr16, mt16⟩, ⟨mr17, mt17⟩, ⟨mr18, mt18⟩, ⟨mr19, mt19⟩, ⟨mr20, mt20⟩, ⟨mr21, mt21⟩, ⟨mr22, mt22⟩, ⟨mr23, mt23⟩, ⟨mr24, mt24⟩, ⟨mr25, mt25⟩, ⟨mr26, mt26⟩, ⟨mr27, mt27⟩, ⟨mr28, mt28⟩, ⟨mr29, mt29⟩, ⟨mr30, mt30⟩, ⟨mr31, mt31⟩, ⟨mr32, mt32⟩, ⟨mr33, mt33⟩, ⟨mr34, mt34⟩, ⟨mr35, mt35⟩, ⟨mr36, mt36⟩, ⟨mr37, mt37⟩, ⟨mr38, mt38⟩, ⟨mr39, mt39⟩, ⟨mr40, mt40⟩, ⟨mr41, mt41⟩, ⟨mr42, mt42⟩, ⟨mr43, mt43⟩⟩ := id lm; exact mr33
          have t33 : hT g (q + 33) = some (.inr (.int, 60)) := by have lm := lg; obtain ⟨mt0, ⟨mr1, mt1⟩, ⟨mr2, mt2⟩, ⟨mr3, mt3⟩, ⟨mr4, mt4⟩, ⟨mr5, mt5⟩, ⟨mr6, mt6⟩, ⟨mr7, mt7⟩, ⟨mr8, mt8⟩, ⟨mr9, mt9⟩, ⟨mr10, mt10⟩, ⟨mr11, mt11⟩, ⟨mr12, mt12⟩, ⟨mr13, mt13⟩, ⟨mr14, mt14⟩, ⟨mr15, mt15⟩, ⟨mr16, mt16⟩, ⟨mr17, mt17⟩, ⟨mr18, mt18⟩, ⟨mr19, mt19⟩, ⟨mr20, mt20⟩, ⟨mr21, mt21⟩, ⟨mr22, mt22⟩, ⟨mr23, mt23⟩, ⟨mr24, mt24⟩, ⟨mr25, mt25⟩, ⟨mr26, mt26⟩, ⟨mr27, mt27⟩, ⟨mr28, mt28⟩, ⟨mr29, mt29⟩, ⟨mr30, mt30⟩, ⟨mr31, mt31⟩, ⟨mr32, mt32⟩, ⟨mr33, mt33⟩, ⟨mr34, mt34⟩, ⟨mr35, mt35⟩, ⟨mr36, mt36⟩, ⟨mr37, mt37⟩, ⟨mr38, mt38⟩, ⟨mr39, mt39⟩, ⟨mr40, mt40⟩, ⟨mr41, mt41⟩, ⟨mr42, mt42⟩, ⟨mr43, mt43⟩⟩ := id lm; exact mt33
          have r34 : hR g q 42 = some (q + 34) := by have lm := lg; obtain ⟨mt0, ⟨mr1, mt1⟩, ⟨mr2, mt2⟩, ⟨mr3, mt3⟩, ⟨mr4, mt4⟩, ⟨mr5, mt5⟩, ⟨mr6, mt6⟩, ⟨mr7, mt7⟩, ⟨mr8, mt8⟩, ⟨mr9, mt9⟩, ⟨mr10, mt10⟩, ⟨mr11, mt11⟩, ⟨mr12, mt12⟩, ⟨mr13, mt13⟩, ⟨mr14, mt14⟩, ⟨mr15, mt15⟩, ⟨mr16, mt16⟩, ⟨mr17, mt17⟩, ⟨mr18, mt18⟩, ⟨mr19, mt19⟩, ⟨mr20, mt20⟩, ⟨mr21, mt21⟩, ⟨mr22, mt22⟩, ⟨mr23, mt23⟩, ⟨mr24, mt24⟩, ⟨mr25, mt25⟩, ⟨mr26, mt26⟩, ⟨mr27, mt27⟩, ⟨mr28, mt28⟩, ⟨mr29, mt29⟩, ⟨mr30, mt30⟩, ⟨mr31, mt31⟩, ⟨mr32, mt32⟩, ⟨mr33, mt33⟩, ⟨mr34, mt34⟩, ⟨mr35, mt35⟩, ⟨mr36, mt36⟩, ⟨mr37, mt37⟩, ⟨mr38, mt38⟩, ⟨mr39, mt39⟩, ⟨mr40, mt40⟩, ⟨mr41, mt41⟩, ⟨mr42, mt42⟩, ⟨mr43, mt43⟩⟩ := id lm; exact mr34
          have t34 : hT g (q + 34) = some (.inr (.int, 60)) := by have lm := lg; obtain ⟨mt0, ⟨mr1, mt1⟩, ⟨mr2, mt2⟩, ⟨mr3, mt3⟩, ⟨mr4, mt4⟩, ⟨mr5, mt5⟩, ⟨mr6, mt6⟩, ⟨mr7, mt7⟩, ⟨mr8, mt8⟩, ⟨mr9, mt9⟩, ⟨mr10, mt10⟩, ⟨mr11, mt11⟩, ⟨mr12, mt12⟩, ⟨mr13, mt13⟩, ⟨mr14, mt14⟩, ⟨mr15, mt15⟩, ⟨mr16, mt16⟩, ⟨mr17, mt17⟩, ⟨mr18, mt18⟩, ⟨mr19, mt19⟩, ⟨mr20, mt20⟩, ⟨mr21, mt21⟩, ⟨mr22, mt22⟩, ⟨mr23, mt23⟩, ⟨mr24, mt24⟩, ⟨mr25, mt25⟩, ⟨mr26, mt26⟩, ⟨mr27, mt27⟩, ⟨mr28, mt28⟩, ⟨mr29, mt29⟩, ⟨mr30, mt30⟩, ⟨mr31, mt31⟩, ⟨mr32, mt32⟩, ⟨mr33, mt33⟩, ⟨mr34, mt34⟩, ⟨mr35, mt35⟩, ⟨mr36, mt36⟩, ⟨mr37, mt37⟩, ⟨mr38, mt38⟩, ⟨mr39, mt39⟩, ⟨mr40, mt40⟩, ⟨mr41, mt41⟩, ⟨mr42, mt42⟩, ⟨mr43, mt43⟩⟩ := id lm; exact mt34
          have r35 : hR g q 43 = some (q + 35) := by have lm := lg; obtain ⟨mt0, ⟨mr1, mt1⟩, ⟨mr2, mt2⟩, ⟨mr3, mt3⟩, ⟨mr4, mt4⟩, ⟨mr5, mt5⟩, ⟨mr6, mt6⟩, ⟨mr7, mt7⟩, ⟨mr8, mt8⟩, ⟨mr9, mt9⟩, ⟨mr10, mt10⟩, ⟨mr11, mt11⟩, ⟨mr12, mt12⟩, ⟨mr13, mt13⟩, ⟨mr14, mt14⟩, ⟨mr15, mt15⟩, ⟨mr16, mt16⟩, ⟨mr17, mt17⟩, ⟨mr18, mt18⟩, ⟨mr19, mt19⟩, ⟨mr20, mt20⟩, ⟨mr21, mt21⟩, ⟨mr22, mt22⟩, ⟨mr23, mt23⟩, ⟨mr24, mt24⟩, ⟨mr25, mt25⟩, ⟨mr26, mt26⟩, ⟨mr27, mt27⟩, ⟨mr28, mt28⟩, ⟨mr29, mt29⟩, ⟨mr30, mt30⟩, ⟨mr31, mt31⟩, ⟨mr32, mt32⟩, ⟨mr33, mt33⟩, ⟨mr34, mt34⟩, ⟨mr35, mt35⟩, ⟨mr36, mt36⟩, ⟨mr37, mt37⟩, ⟨mr38, mt38⟩, ⟨mr39, mt39⟩, ⟨mr40, mt40⟩, ⟨mr41, mt41⟩, ⟨mr42, mt42⟩, ⟨mr43, mt43⟩⟩ := id lm; exact mr35
          have t35 : hT g (q + 35) = some (.inr (.int, 60)) := by have lm := lg; obtain ⟨mt0, ⟨mr1, mt1⟩, ⟨mr2, mt2⟩, ⟨mr3, mt3⟩, ⟨mr4, mt4⟩, ⟨mr5, mt5⟩, ⟨mr6, mt6⟩, ⟨mr7, mt7⟩, ⟨mr8, mt8⟩, ⟨mr9, mt9⟩, ⟨mr10, mt10⟩, ⟨mr11, mt11⟩, ⟨mr12, mt12⟩, ⟨mr13, mt13⟩, ⟨mr14, mt14⟩, ⟨mr15, mt15⟩, ⟨mr16, mt16⟩, ⟨mr17, mt17⟩, ⟨mr18, mt18⟩, ⟨mr19, mt19⟩, ⟨mr20, mt20⟩, ⟨mr21, mt21⟩, ⟨mr22, mt22⟩, ⟨mr23, mt23⟩, ⟨mr24, mt24⟩, ⟨mr25, mt25⟩, ⟨mr26, mt26⟩, ⟨mr27, mt27⟩, ⟨mr28, mt28⟩, ⟨mr29, mt29⟩, ⟨mr30, mt30⟩, ⟨mr31, mt31⟩, ⟨mr32, mt32⟩, ⟨mr33, mt33⟩, ⟨mr34, mt34⟩, ⟨mr35, mt35⟩, ⟨mr36, mt36⟩, ⟨mr37, mt37⟩, ⟨mr38, mt38⟩, ⟨mr39, mt39⟩, ⟨mr40, mt40⟩, ⟨mr41, mt41⟩, ⟨mr42, mt42⟩, ⟨mr43, mt43⟩⟩ := id lm; exact mt35
          have r43 : hR g q 53 = some (q + 43) := by have lm := lg; obtain ⟨mt0, ⟨mr1, mt1⟩, ⟨mr2, mt2⟩, ⟨mr3, mt3⟩, ⟨mr4, mt4⟩, ⟨mr5, mt5⟩, ⟨mr6, mt6⟩, ⟨mr7, mt7⟩, ⟨mr8, mt8⟩, ⟨mr9, mt9⟩, ⟨mr10, mt10⟩, ⟨mr11, mt11⟩, ⟨mr12, mt12⟩, ⟨mr13, mt13⟩, ⟨mr14, mt14⟩, ⟨mr15, mt15⟩, ⟨mr16, mt16⟩, ⟨mr17, mt17⟩, ⟨mr18, mt18⟩, ⟨mr19, mt19⟩, ⟨mr20, mt20⟩, ⟨mr21, mt21⟩, ⟨mr22, mt22⟩, ⟨mr23, mt23⟩, ⟨mr24, mt24⟩, ⟨mr25, mt25⟩, ⟨mr26, mt26⟩, ⟨mr27, mt27⟩, ⟨mr28, mt28⟩, ⟨mr29, mt29⟩, ⟨mr30, mt30⟩, ⟨mr31, mt31⟩, ⟨mr32, mt32⟩, ⟨mr33, mt33⟩, ⟨mr34, mt34⟩, ⟨mr35, mt35⟩, ⟨mr36, mt36⟩, ⟨mr37, mt37⟩, ⟨mr38, mt38⟩, ⟨mr39, mt39⟩, ⟨mr40, mt40⟩, ⟨mr41, mt41⟩, ⟨mr42, mt42⟩, ⟨mr43, mt43⟩⟩ := id lm; exact mr43
          have t43 : hT g (q + 43) = some (.inr (.int, 360)) := by have lm := lg; obtain ⟨mt0, ⟨mr1, mt1⟩, ⟨mr2, mt2⟩, ⟨mr3, mt3⟩, ⟨mr4, mt4⟩, ⟨mr5, mt5⟩, ⟨mr6, mt6⟩, ⟨mr7, mt7⟩, ⟨mr8, mt8⟩, ⟨mr9, mt9⟩, ⟨mr10, mt10⟩, ⟨mr11, mt11⟩, ⟨mr12, mt12⟩, ⟨mr13, mt13⟩, ⟨mr14, mt14⟩, ⟨mr15, mt15⟩, ⟨mr16, mt16⟩, ⟨mr17, mt17⟩, ⟨mr18, mt18⟩, ⟨mr19, mt19⟩, ⟨mr20, mt20⟩, ⟨mr21, mt21⟩, ⟨mr22, mt22⟩, ⟨mr23, mt23⟩, ⟨mr24, mt24⟩, ⟨mr25, mt25⟩, ⟨mr26, mt26⟩, ⟨mr27, mt27⟩, ⟨mr28, mt28⟩, ⟨mr29, mt29⟩, ⟨mr30, mt30⟩, ⟨mr31, mt31⟩, ⟨mr32, mt32⟩, ⟨mr33, mt33⟩, ⟨mr34, mt34⟩, ⟨mr35, mt35⟩, ⟨mr36, mt36⟩, ⟨mr37, mt37⟩, ⟨mr38, mt38⟩, ⟨mr39, mt39⟩, ⟨mr40, mt40⟩, ⟨mr41, mt41⟩, ⟨mr42, mt42⟩, ⟨mr43, mt43⟩⟩ := id lm; exact mt43
          rw [es, nl_28, if_eq (by omega) (by decide), nl_29, if_eq (by omega) (by decide), nl_27, if_eq (by omega) (by decide), nl_31, if_eq (by omega) (by decide), nl_32, if_eq (by omega) (by decide)]
          have tx := ty_4 h60 ty4
          by_cases y28 : op = 28
          · subst y28
            have ep : j_pt P 28 (cN A) (cN B) = 0 := rfl
            have ev : x_val P 28 A B (e + 1) s l hn i T = xo (if ¬ (s e).toInt32 = -1 ∧ T.2.1 (cN (s e).toInt32) = A then 1 else 0) hn (i + 1) T := rfl
            rw [ep, ev, if_pos rfl]
            unfold BX12_thing3_116 BX12_thing3_117
            have fin : ∀ v : Int64, Ok (rcv g (some q) 11 <| cl (FX12_put (some q) (nI c) 0 v g) fun v1 h2 => some ((), h2)) (fun _ g => MRz q c h lk (m, i, e + 1, s, l, hn) (Sx e 0 σ lk) (xw m e 0 s l (xo v hn (i + 1) T)) g) := fun v => mr_push (pt := 0) mx x3 x4 x2 (by omega) (by show _ + 1 ≤ 14; omega) v
            rcases tx with z | ⟨t, ht, z⟩
            · rw [z, if_pos rfl, if_neg (fun y => y.1 rfl)]
              exact fin 0
            · have m1 := nI_nm1 (a := t) (by omega)
              obtain ⟨u1, -⟩ := mg.2 t ht
              rw [z, if_neg m1, gR_ok lg.1, r33, aI_n t33 (by omega) (by decide), u1, cN_n (by omega)]
              by_cases ct : T.2.1 t = A
              · rw [if_pos ct, if_pos ⟨m1, ct⟩]; exact fin 1
              · rw [if_neg ct, if_neg (fun y => ct y.2)]; exact fin 0
          · rw [if_neg y28]
            by_cases y29 : op = 29
            · subst y29
              have ep : j_pt P 29 (cN A) (cN B) = 4 := rfl
              have ev : x_val P 29 A B (e + 1) s l hn i T = if (s e).toInt32 = -1 ∨ T.2.1 (cN (s e).toInt32) = A then xo (Int32.toInt64 (s e).toInt32) hn (i + 1) T else xf 5 hn i T := rfl
              rw [ep, ev, if_pos rfl]
              unfold BX12_thing3_151
              have fin : Ok (rcv g (some q) 11 <| cl (FX12_put (some q) (nI c) 4 (Int32.toInt64 (s e).toInt32) g) fun v1 h2 => some ((), h2)) (fun _ g => MRz q c h lk (m, i, e + 1, s, l, hn) (Sx e 4 σ lk) (xw m e 4 s l (xo (Int32.toInt64 (s e).toInt32) hn (i + 1) T)) g) := mr_push (pt := 4) mx x3 x4 x2 (by omega) (by show _ + 1 ≤ 14; omega) _
              rcases tx with z | ⟨t, ht, z⟩
              · rw [z] at fin ⊢
                rw [if_pos rfl, if_pos (Or.inl rfl)]
                exact fin
              · have m1 := nI_nm1 (a := t) (by omega)
                obtain ⟨u1, -⟩ := mg.2 t ht
                rw [z] at fin ⊢
                rw [if_neg m1, gR_ok lg.1, r33, aI_n t33 (by omega) (by decide), u1, cN_n (by omega)]
                by_cases ct : T.2.1 t = A
                · rw [if_pos ct, if_pos (Or.inr ct)]; exact fin
                · rw [if_neg ct, if_neg (fun y => y.elim m1 ct), rcv_ok lg.1, f_fail lg.1, cl_ok]
                  exact mr_fput (pt := 4) mx x3 x4 x2 (by omega) (by show _ + 1 ≤ 14; omega) 5 _ _ _
            · rw [if_neg y29]
              rcases tx with z | ⟨t, ht, z⟩
              · rw [z, if_pos rfl]
                have ev : x_val P op A B (e + 1) s l hn i T = xf 1 hn i T := by
                  rcases (show op = 27 ∨ op = 31 ∨ op = 32 ∨ op = 33 by omega) with rfl | rfl | rfl | rfl
                  · show (if (s e).toInt32 = -1 then xf 1 hn i T else _) = _
                    rw [if_pos z]
                  · show (if (s e).toInt32 = -1 then xf 1 hn i T else _) = _
                    rw [if_pos z]
                  · show (if (s e).toInt32 = -1 then xf 1 hn i T else _) = _
                    rw [if_pos z]
                  · show (if (s e).toInt32 = -1 then xf 1 hn i T else _) = _
                    rw [if_pos z]
                rw [ev]
                exact mr_fail mx x3 x4 1 _ _ _
              · have m1 := nI_nm1 (a := t) (by omega)
                have m1' : ¬ (s e).toInt32 = -1 := by rw [z]; exact m1
                have ect := cN_n (show t < 2 ^ 31 by omega)
                obtain ⟨u1, ⟨u2, u2'⟩, u3, u4, u5⟩ := mg.2 t ht
                have e43 : hI g (q + 43) (60 * c + t) = nI (hn t) := by rw [(x3.2.2.2.1 (q + 43) (by omega) (n41 (by omega) (by omega))).1]; exact mhd t (by omega)
                have hge := sm_ge (f := hn) (show t < 60 by omega)
                rw [z, if_neg m1]
                by_cases y27 : op = 27
                · subst y27
                  have ep : j_pt P 27 (cN A) (cN B) = 0 := rfl
                  have ev : x_val P 27 A B (e + 1) s l hn i T = if T.2.1 t < 0 then xf 5 hn i T else xo (lN (T.2.2.1 t)) hn (i + 1) T := by
                    show (if (s e).toInt32 = -1 then xf 1 hn i T else if T.2.1 (cN (s e).toInt32) < 0 then xf 5 hn i T else xo (lN (T.2.2.1 (cN (s e).toInt32))) hn (i + 1) T) = _
                    rw [if_neg m1', z, ect]
                  rw [ep, ev, if_pos rfl, rcv_ok lg.1, m_isArr lg mg th ht, cl_ok, b2i_if]
                  unfold BX12_thing3_197
                  by_cases cn : T.2.1 t < 0
                  · have f3 : Fm q (fun k => k = 64) (fun _ => False) g (wI g q 64 (nI 5)) := Fm.fI rfl
                    have l3 := lg.fm f3
                    have u2b : hI (wI g q 64 (nI 5)) (q + 34) t = nI (T.2.2.1 t) := by rw [hI_wI_a (by omega)]; exact u2
                    rw [decide_eq_true cn, if_neg (by decide), if_pos cn, rcv_ok lg.1, f_fail lg.1, cl_ok, show (5 : Int32) = nI 5 from rfl, gR_ok (show hT (wI g q 64 (nI 5)) q = _ from lg.1), show hR (wI g q 64 (nI 5)) q 42 = _ from r34, aI_n (show hT (wI g q 64 (nI 5)) (q + 34) = _ from t34) (by omega) (by decide), u2b]
                    exact mr_fput (pt := 0) mx x3 x4 x2 (by omega) (by show _ + 1 ≤ 14; omega) 5 _ _ _
                  · rw [decide_eq_false cn, if_pos (by decide), if_neg cn, gR_ok lg.1, r34, aI_n t34 (by omega) (by decide), u2, nI_l8 (by omega)]
                    exact mr_push (pt := 0) mx x3 x4 x2 (by omega) (by show _ + 1 ≤ 14; omega) _
                · rw [if_neg y27]
                  by_cases y31 : op = 31
                  · subst y31
                    have ep : j_pt P 31 (cN A) (cN B) = 5 := rfl
                    have ev : x_val P 31 A B (e + 1) s l hn i T = if T.2.1 t < 0 then xft (cN (T.2.1 t - (-100))) t hn i T else xf 5 hn i T := by
                      show (if (s e).toInt32 = -1 then xf 1 hn i T else if T.2.1 (cN (s e).toInt32) < 0 then xft (cN (T.2.1 (cN (s e).toInt32) - (-100))) (cN (s e).toInt32) hn i T else xf 5 hn i T) = _
                      rw [if_neg m1', z, ect]
                    rw [ep, ev, if_pos rfl, rcv_ok lg.1, m_isArr lg mg th ht, cl_ok, b2i_if]
                    unfold BX12_thing3_244
                    have tail : ∀ (x : Int32), rcv g (some q) 11 (cl (FX12_fail (some q) x g) fun v1 h2 => rcv h2 (some q) 11 <| cl (FX12_isArray (some q) (nI t) h2) fun v7 h8 => if v7 = 0 then pI h8 (some q) 11 65 (nI t) fun h17 => some ((), h17) else pI h8 (some q) 11 65 (-2) fun h22 => some ((), h22)) = some ((), if T.2.1 t < 0 then wI (wI g q 64 x) q 65 (nI t) else wI (wI g q 64 x) q 65 (-2)) := by
                      intro x
                      have f3 : Fm q (fun k => k = 64) (fun _ => False) g (wI g q 64 x) := Fm.fI rfl
                      have l3 := lg.fm f3
                      have m3 : MTh (wI g q 64 x) q T := mg.fm f3 ⟨by decide, by decide⟩ (fun _ _ _ z => z)
                      rw [rcv_ok lg.1, f_fail lg.1, cl_ok, rcv_ok l3.1, m_isArr l3 m3 th ht, cl_ok, b2i_if]
                      by_cases cn : T.2.1 t < 0
                      · rw [decide_eq_true cn, if_neg (by decide), if_pos cn, pI_ok l3.1]
                      · rw [decide_eq_false cn, if_pos (by decide), if_neg cn, pI_ok l3.1]
                    have mk : ∀ (n : Nat) (th2 : Option Nat) (x : Int32), x = o2m th2 → MRz q c h lk (m, i, e + 1, s, l, hn) (Sx e 5 σ lk) (xw m e 5 s l (some (n, th2), 0, hn, i, T)) (wI (wI g q 64 (nI n)) q 65 x) := by
                      intro n th2 x hx
                      have f3 : Fm q (fun k => k = 64 ∨ k = 65) (A41 q) g (wI (wI g q 64 (nI n)) q 65 x) := (Fm.fI (F := fun k => k = 64 ∨ k = 65) (Or.inl rfl)).trans (Fm.fI (F := fun k => k = 64 ∨ k = 65) (Or.inr rfl))
                      have f5 : Fm q (fun k => k = 64 ∨ k = 65) (fun _ => False) g (wI (wI g q 64 (nI n)) q 65 x) := (Fm.fI (F := fun k => k = 64 ∨ k = 65) (Or.inl rfl)).trans (Fm.fI (F := fun k => k = 64 ∨ k = 65) (Or.inr rfl))
                      have f4 := (x3.mono (F' := fun k => k = 64 ∨ k = 65) (fun _ z => z.elim) (fun _ z => z)).trans f3
                      refine ⟨f4.mono (fun k z => by unfold FW; omega) a41w, x4.trans (o2_fm f5 (fun _ _ _ z => z)), ⟨by rw [(f4.2.2.2.1 (q + 38) (by omega) (n41 (by omega) (by omega))).1], by rw [(f4.2.2.2.1 (q + 39) (by omega) (n41 (by omega) (by omega))).1]⟩, mth.fm f4 ⟨by decide, by decide⟩ (fun b h1 h2 => n41 (by omega) (by omega)), by rw [hI_wI_k (by decide)]; exact hI_wI_s, by rw [hI_wI_s, hx], mlc.fm f4 (n41 (by omega) (by omega)), mhd.fm f4 (n41 (by omega) (by omega))⟩
                    by_cases cn : T.2.1 t < 0
                    · rw [decide_eq_true cn, if_neg (by decide), if_pos cn, gR_ok lg.1, r33, aI_n t33 (by omega) (by decide), u1, tail, if_pos cn]
                      rcases (th.2 t ht).2.1 with ⟨-, -, j, hj, ej⟩ | ⟨y, y1, y2, y3, ey⟩
                      · have ea : T.2.1 t - (-100) = nI j := by rw [ej, Int32.add_comm (-100) (nI j), Int32.add_sub_cancel]
                        have eb : T.2.1 t + 100 = nI j := by
                          rw [← ea, Int32.sub_eq_add_neg]; rfl
                        rw [ea, eb, cN_n (by omega)]
                        exact ok_some (mk j (some t) (nI t) rfl)
                      · rw [ey] at cn; exact absurd cn (nI_pos (by omega))
                    · rw [decide_eq_false cn, if_pos (by decide), if_neg cn, show (5 : Int32) = nI 5 from rfl, tail, if_neg cn]
                      exact ok_some (mk 5 none (-2) rfl)
                  · rw [if_neg y31]
                    by_cases y32 : op = 32
                    · subst y32
                      have ep : j_pt P 32 (cN A) (cN B) = 5 := rfl
                      have ev : x_val P 32 A B (e + 1) s l hn i T = xo 0 (va_up hn t (hn t + 1)) (i + 1) (hdT T (va_up T.2.2.2.1 t (T.2.2.2.1 t + 1))) := by
                        show (if (s e).toInt32 = -1 then xf 1 hn i T else xo 0 (va_up hn (cN (s e).toInt32) (hn (cN (s e).toInt32) + 1)) (i + 1) (hdT T (va_up T.2.2.2.1 (cN (s e).toInt32) (T.2.2.2.1 (cN (s e).toInt32) + 1)))) = _
                        rw [if_neg m1', z, ect]
                      rw [ep, ev, if_pos rfl, gR_ok lg.1, r43, nl_60, pk_mul, nI_add, aI_n t43 (by omega) (by decide), e43, sI_n t43 (by omega) (by decide), nI_1]
                      have u3' : hI (wI g (q + 43) (60 * c + t) (nI (hn t + 1))) (q + 35) t = T.2.2.2.1 t := by rw [hI_wI_a (by omega)]; exact u3
                      rw [gR_ok (show hT (wI g (q + 43) (60 * c + t) (nI (hn t + 1))) q = _ from lg.1), show hR (wI g (q + 43) (60 * c + t) (nI (hn t + 1))) q 43 = _ from r35, aI_n (show hT (wI g (q + 43) (60 * c + t) (nI (hn t + 1))) (q + 35) = _ from t35) (by omega) (by decide), u3', sI_n (show hT (wI g (q + 43) (60 * c + t) (nI (hn t + 1))) (q + 35) = _ from t35) (by omega) (by decide)]
                      exact ok_some (mr_mon mx x3 x4 x2 ht)
                    · have y33 : op = 33 := by omega
                      subst y33
                      have ep : j_pt P 33 (cN A) (cN B) = 5 := rfl
                      have ev : x_val P 33 A B (e + 1) s l hn i T = if hn t = 0 then xf 6 hn i T else xo 0 (va_up hn t (hn t - 1)) (i + 1) (hdT T (va_up T.2.2.2.1 t (T.2.2.2.1 t + (-1)))) := by
                        have e0 : x_val P 33 A B (e + 1) s l hn i T = x_fm 33 A (e + 1) s hn i T := rfl
                        rw [e0]
                        unfold x_fm
                        rw [if_neg (by decide), Nat.add_sub_cancel, if_neg m1', if_neg (by decide), if_neg (by decide), z, ect]
                      rw [ep, ev, if_neg (by decide), gR_ok lg.1, r43, nl_60, pk_mul, nI_add, aI_n t43 (by omega) (by decide), e43, ie_0 (by omega)]
                      by_cases c0 : hn t = 0
                      · rw [if_pos c0, if_pos c0]
                        exact mr_fail mx x3 x4 6 _ _ _
                      · rw [if_neg c0, if_neg c0, gR_ok lg.1, r43, aI_n t43 (by omega) (by decide), e43, nI_p1 (by omega), sI_n t43 (by omega) (by decide)]
                        have u3' : hI (wI g (q + 43) (60 * c + t) (nI (hn t - 1))) (q + 35) t = T.2.2.2.1 t := by rw [hI_wI_a (by omega)]; exact u3
                        rw [gR_ok (show hT (wI g (q + 43) (60 * c + t) (nI (hn t - 1))) q = _ from lg.1), show hR (wI g (q + 43) (60 * c + t) (nI (hn t - 1))) q 43 = _ from r35, aI_n (show hT (wI g (q + 43) (60 * c + t) (nI (hn t - 1))) (q + 35) = _ from t35) (by omega) (by decide), u3', sI_n (show hT (wI g (q + 43) (60 * c + t) (nI (hn t - 1))) (q + 35) = _ from t35) (by omega) (by decide), Int32.sub_eq_add_neg]
                        exact ok_some (mr_mon mx x3 x4 x2 ht)
end MT4
