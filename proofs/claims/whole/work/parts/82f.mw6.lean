/-! the model: arrays, cells, failures, monitors -/
section MT3
variable {h g : Hp} {q c m i d : Nat} {s l : Nat → Int64} {hn : Nat → Nat} {T : Th} {σ lk : Nat → Nat} {P : Pg}
theorem na_32 (mx : MX h q c P (m, i, d, s, l, hn) σ lk T) (f : Fm q F40 (A41 q) h g) (fo : Fo2 q c h g) {D b y : Nat} {v2 v3 : Int32} (w : MSk g q c (D + 1) σ s) (h0 : σ D = 0) (hb1 : 1 ≤ b) (hb : b ≤ 3) (hy : 8 * b ≤ y) (hy2 : y < 32) (hD : D + 1 ≤ 14) (d1 : b ≤ 1 → v2 = 0) {zs : List Nat} (hzs : zs = if b = 1 then [cN (s D).toInt32] else if b = 2 then [cN (s D).toInt32, cN v2] else [cN (s D).toInt32, cN v2, cN v3]) : Ok (BX12_newArray_32 (some q) (nI c) (nI y) (nI b) (Int32.toInt64 v3) (Int32.toInt64 v2) g) (fun _ g' => MRz q c h lk (m, i, d, s, l, hn) (Sx D 4 σ lk) (xw m D 4 s l (if (s D).toInt32 < 0 ∨ v2 < 0 ∨ v3 < 0 then xf 4 hn i T else if room T.1 zs = true then xo (lN T.1) hn (i + 1) (mk_R zs y T).1 else xf 7 hn i T)) g') := by
  have lg := mx.1.fm f
  unfold BX12_newArray_32
  rw [rcv_ok lg.1]
  refine ok_cl (m_takeI (d := D + 1) lg w mx.2.2.2.2.2.2.2 (by omega) (by rw [Nat.add_sub_cancel]; exact h0)) (fun r g1 x => ?_)
  rw [Nat.add_sub_cancel] at x
  obtain ⟨rfl, x2, x3, x4⟩ := x
  have ff := f.trans x3
  have fo1 := fo.trans x4
  have f4 : Ok (BX12_newArray_63 (some q) g1) (fun _ g' => MRz q c h lk (m, i, d, s, l, hn) (Sx D 4 σ lk) (xw m D 4 s l (xf 4 hn i T)) g') := by
    unfold BX12_newArray_63
    exact mr_fail mx ff fo1 4 _ _ _
  by_cases c1 : (s D).toInt32 < 0
  · rw [if_pos (lt_l.mpr c1), if_pos (Or.inl c1)]; exact f4
  · rw [if_neg (fun z => c1 (lt_l.mp z))]
    by_cases c2 : v2 < 0
    · rw [if_pos (lt_l.mpr c2), if_pos (Or.inr (Or.inl c2))]; exact f4
    · rw [if_neg (fun z => c2 (lt_l.mp z))]
      by_cases c3 : v3 < 0
      · rw [if_pos (lt_l.mpr c3), if_pos (Or.inr (Or.inr c3))]; exact f4
      · have hcc : ¬ ((s D).toInt32 < 0 ∨ v2 < 0 ∨ v3 < 0) := fun z => z.elim c1 (fun z => z.elim c2 c3)
        rw [if_neg (fun z => c3 (lt_l.mp z)), if_neg hcc, ir_1 (by omega)]
        obtain ⟨e1, b1⟩ := i32_nn c1
        obtain ⟨e2, b2⟩ := i32_nn c2
        obtain ⟨e3, b3⟩ := i32_nn c3
        have t1 : Int32.toInt64 (s D).toInt32 = lN (cN (s D).toInt32) := by rw [← nI_l8 b1, ← e1]
        have t2 : Int32.toInt64 v2 = lN (cN v2) := by rw [← nI_l8 b2, ← e2]
        have t3 : Int32.toInt64 v3 = lN (cN v3) := by rw [← nI_l8 b3, ← e3]
        have tl := na_tail mx ff fo1 x2 hb1 hb hy hy2 hD b1 b2 b3 (fun z => by rw [d1 z]; rfl) hzs
        rw [t1, t2, t3]
        by_cases cb : 1 < b
        · rw [if_pos cb] at tl ⊢; exact tl
        · rw [if_neg cb] at tl ⊢; exact tl
theorem m_newArr (mx : MX h q c P (m, i, d, s, l, hn) σ lk T) {y b e : Nat} (hb1 : 1 ≤ b) (hb : b ≤ 3) (hy : 8 * b ≤ y) (hy2 : y < 32) (hd : d ≤ 12) (htk : takeL σ (List.replicate b 0) d = some e) : Ok (FX12_newArray (some q) (nI c) (nI y) (nI b) h) (fun _ g => MRz q c h lk (m, i, d, s, l, hn) (Sx (d - b) 4 σ lk) (xw m (d - b) 4 s l (x_arr 24 (nI y) b d s hn i T)) g) := by
  obtain ⟨lm, pm, mth, msk, mlc, mhd, -, hc⟩ := id mx
  have msk : MSk h q c d σ s := msk
  have fr : Fm q F40 (A41 q) h h := Fm.refl
  have w0 : wd 0 = 1 := rfl
  have t00 : Int32.toInt64 0 = 0 := rfl
  have n0 : ¬ (0 : Int32) < 0 := by decide
  have exa : x_arr 24 (nI y) b d s hn i T = (if ngs s d b = true then xf 4 hn i T else if room T.1 (szs s d b) = true then xo (lN T.1) hn (i + 1) (mk_R (szs s d b) y T).1 else xf 7 hn i T) := by
    unfold x_arr
    rw [if_pos rfl, cN_n (by omega)]
  rw [exa]
  unfold FX12_newArray BX12_newArray_15
  rw [nl_2, if_lt (by decide) (by omega)]
  rcases (show b = 1 ∨ b = 2 ∨ b = 3 by omega) with rfl | rfl | rfl
  · obtain ⟨a1, a2, -⟩ := tk_hd (k := 0) (ks := []) htk
    rw [w0] at a1 a2
    obtain ⟨D, rfl⟩ : ∃ D, d = D + 1 := ⟨d - 1, by omega⟩
    have es : szs s (D + 1) 1 = [cN (s D).toInt32] := by unfold szs; simp [List.range_succ]
    have eg : ngs s (D + 1) 1 = decide ((s D).toInt32 < 0) := by unfold ngs; simp [List.range_succ]
    rw [if_neg (by decide), if_neg (by decide), es, eg, Nat.add_sub_cancel]
    have := na_32 (v2 := 0) (v3 := 0) (zs := [cN (s D).toInt32]) mx fr Fo2.refl msk (by rw [Nat.add_sub_cancel] at a2; exact a2) (show 1 ≤ 1 by omega) (by omega) hy hy2 (by omega) (fun _ => rfl) (by rw [if_pos rfl])
    refine this.mono (fun _ g x => ?_)
    by_cases z : (s D).toInt32 < 0
    · rw [if_pos (Or.inl z)] at x
      rw [decide_eq_true z, if_pos rfl]; exact x
    · rw [if_neg (fun y => y.elim z (fun y => y.elim n0 n0))] at x
      rw [decide_eq_false z, if_neg (by decide)]; exact x
  · obtain ⟨a1, a2, a3⟩ := tk_hd (k := 0) (ks := [0]) htk
    obtain ⟨b1, b2, -⟩ := tk_hd a3
    rw [w0] at a1 a2 b1 b2
    obtain ⟨D, rfl⟩ : ∃ D, d = D + 2 := ⟨d - 2, by omega⟩
    have a2 : σ (D + 1) = 0 := a2
    have b2 : σ D = 0 := b2
    have es : szs s (D + 2) 2 = [cN (s D).toInt32, cN (s (D + 1)).toInt32] := by unfold szs; simp [List.range_succ]
    have eg : ngs s (D + 2) 2 = (decide ((s D).toInt32 < 0) || decide ((s (D + 1)).toInt32 < 0)) := by unfold ngs; simp [List.range_succ]
    rw [if_neg (by decide), if_pos (by decide), es, eg, Nat.add_sub_cancel, rcv_ok lm.1]
    refine ok_cl (m_takeI lm msk hc (by omega) a2) (fun r g1 x => ?_)
    obtain ⟨rfl, x2, x3, x4⟩ := x
    have x2 : MSk g1 q c (D + 1) σ s := x2
    have := na_32 (v2 := (s (D + 1)).toInt32) (v3 := 0) (zs := [cN (s D).toInt32, cN (s (D + 1)).toInt32]) mx x3 x4 x2 b2 (show 1 ≤ 2 by omega) (by omega) hy hy2 (by omega) (fun z => by omega) (by rw [if_neg (by decide), if_pos rfl])
    refine this.mono (fun _ g x => ?_)
    by_cases z : (s D).toInt32 < 0 ∨ (s (D + 1)).toInt32 < 0
    · rw [if_pos (z.elim Or.inl (fun z => Or.inr (Or.inl z)))] at x
      rw [if_pos (by rw [Bool.or_eq_true, decide_eq_true_eq, decide_eq_true_eq]; exact z)]; exact x
    · rw [if_neg (fun y => y.elim (fun y => z (Or.inl y)) (fun y => y.elim (fun y => z (Or.inr y)) n0))] at x
      rw [if_neg (by rw [Bool.or_eq_true, decide_eq_true_eq, decide_eq_true_eq]; exact z)]; exact x
  · obtain ⟨a1, a2, a3⟩ := tk_hd (k := 0) (ks := [0, 0]) htk
    obtain ⟨b1, b2, b3⟩ := tk_hd a3
    obtain ⟨c1, c2, -⟩ := tk_hd b3
    rw [w0] at a1 a2 b1 b2 c1 c2
    obtain ⟨D, rfl⟩ : ∃ D, d = D + 3 := ⟨d - 3, by omega⟩
    have a2 : σ (D + 2) = 0 := a2
    have b2 : σ (D + 1) = 0 := b2
    have c2 : σ D = 0 := c2
    have es : szs s (D + 3) 3 = [cN (s D).toInt32, cN (s (D + 1)).toInt32, cN (s (D + 2)).toInt32] := by unfold szs; simp [List.range_succ]
    have eg : ngs s (D + 3) 3 = (decide ((s D).toInt32 < 0) || (decide ((s (D + 1)).toInt32 < 0) || decide ((s (D + 2)).toInt32 < 0))) := by unfold ngs; simp [List.range_succ, Bool.or_assoc]
    rw [if_pos (by decide), es, eg, Nat.add_sub_cancel, rcv_ok lm.1]
    refine ok_cl (m_takeI lm msk hc (by omega) a2) (fun r g1 x => ?_)
    obtain ⟨rfl, x2, x3, x4⟩ := x
    have x2 : MSk g1 q c (D + 2) σ s := x2
    have l1 := lm.fm x3
    rw [if_pos (by decide), rcv_ok l1.1]
    refine ok_cl (m_takeI l1 x2 hc (by omega) b2) (fun r g2 y => ?_)
    obtain ⟨rfl, y2, y3, y4⟩ := y
    have y2 : MSk g2 q c (D + 1) σ s := y2
    have := na_32 (v2 := (s (D + 1)).toInt32) (v3 := (s (D + 2)).toInt32) (zs := [cN (s D).toInt32, cN (s (D + 1)).toInt32, cN (s (D + 2)).toInt32]) mx (x3.trans y3) (x4.trans y4) y2 c2 (show 1 ≤ 3 by omega) (by omega) hy hy2 (by omega) (fun z => by omega) (by rw [if_neg (by decide), if_neg (by decide)])
    refine this.mono (fun _ g x => ?_)
    by_cases z : (s D).toInt32 < 0 ∨ (s (D + 1)).toInt32 < 0 ∨ (s (D + 2)).toInt32 < 0
    · rw [if_pos z] at x
      rw [if_pos (by rw [Bool.or_eq_true, Bool.or_eq_true, decide_eq_true_eq, decide_eq_true_eq, decide_eq_true_eq]; exact z)]; exact x
    · rw [if_neg z] at x
      rw [if_neg (by rw [Bool.or_eq_true, Bool.or_eq_true, decide_eq_true_eq, decide_eq_true_eq, decide_eq_true_eq]; exact z)]; exact x
theorem m_isArr (lm : LM (hT h) (hR h) q) (v : MTh h q T) (th : TH T) {t : Nat} (ht : t < T.1) : FX12_isArray (some q) (nI t) h = some (b2i (!decide (T.2.1 t < 0)), h) := by
  obtain ⟨mt0, ⟨mr1, mt1⟩, ⟨mr2, mt2⟩, ⟨mr3, mt3⟩, ⟨mr4, mt4⟩, ⟨mr5, mt5⟩, ⟨mr6, mt6⟩, ⟨mr7, mt7⟩, ⟨mr8, mt8⟩, ⟨mr9, mt9⟩, ⟨mr10, mt10⟩, ⟨mr11, mt11⟩, ⟨mr12, mt12⟩, ⟨mr13, mt13⟩, ⟨mr14, mt14⟩, ⟨mr15, mt15⟩, ⟨mr16, mt16⟩, ⟨mr17, mt17⟩, ⟨mr18, mt18⟩, ⟨mr19, mt19⟩, ⟨mr20, mt20⟩, ⟨mr21, mt21⟩, ⟨mr22, mt22⟩, ⟨mr23, mt23⟩, ⟨mr24, mt24⟩, ⟨mr25, mt25⟩, ⟨mr26, mt26⟩, ⟨mr27, mt27⟩, ⟨mr28, mt28⟩, ⟨mr29, mt29⟩, ⟨mr30, mt30⟩, ⟨mr31, mt31⟩, ⟨mr32, mt32⟩, ⟨mr33, mt33⟩, ⟨mr34, mt34⟩, ⟨mr35, mt35⟩, ⟨mr36, mt36⟩, ⟨mr37, mt37⟩, ⟨mr38, mt38⟩, ⟨mr39, mt39⟩, ⟨mr40, mt40⟩, ⟨mr41, mt41⟩, ⟨mr42, mt42⟩, ⟨mr43, mt43⟩⟩ := id lm
  have n60 := v.1.2.2
  obtain ⟨w1, -⟩ := v.2 t ht
  unfold FX12_isArray
  rw [gR_ok mt0, mr33, aI_n mt33 (by omega) (by decide), w1]
  rcases (th.2 t ht).2.1 with ⟨-, hneg, -⟩ | ⟨y, y1, y2, y3, ey⟩
  · have h8 : T.2.1 t < 8 := by
      rw [i32_lt, i32_0] at hneg
      rw [i32_lt, show (8 : Int32).toInt = 8 from rfl]; omega
    rw [if_pos h8, decide_eq_true hneg]; rfl
  · have hn : ¬ T.2.1 t < 0 := by rw [ey]; exact nI_pos (by omega)
    rw [decide_eq_false hn, ey, nl_8, if_lt (by omega) (by decide), if_neg (by omega)]; rfl
/-- a value is put behind a failure: the stack does not count any more -/
theorem mr_fput (mx : MX h q c P (m, i, d, s, l, hn) σ lk T) (f : Fm q F40 (A41 q) h g) (fo : Fo2 q c h g) {D pt : Nat} (w : MSk g q c D σ s) (hp : pt < 5) (hD : D + wd pt ≤ 14) (n : Nat) (v : Int64) (y : Cl) (S : Sh) : Ok (rcv (wI g q 64 (nI n)) (some q) 11 <| cl (FX12_put (some q) (nI c) (nI pt) v (wI g q 64 (nI n))) fun _ h3 => some ((), h3)) (fun _ g' => MRz q c h lk (m, i, d, s, l, hn) S (some (n, none), y, T) g') := by
  obtain ⟨x1, x2, x3, x4, x5, x6, x7, x8⟩ := mr_f mx f fo n y S
  have f3 : Fm q (fun k => k = 64) (A41 q) g (wI g q 64 (nI n)) := Fm.fI rfl
  have l1 := (mx.1.fm f).fm f3
  have w1 : MSk (wI g q 64 (nI n)) q c D σ s := w.fm (Fm.fI (F := fun k => k = 64) (A := fun _ => False) rfl) (fun z => z) (fun z => z)
  rw [rcv_ok l1.1]
  refine ok_cl (m_put l1 w1 mx.2.2.2.2.2.2.2 hp v hD) (fun _ g2 z => ok_some ?_)
  obtain ⟨z1, z2, z3⟩ := z
  have e38 : ∀ b, b = q + 38 ∨ b = q + 39 → hI g2 b = hI (wI g q 64 (nI n)) b := fun b hb => by rw [(z2.2.2.2.1 b (by omega) (n41 (by omega) (by omega))).1]
  exact ⟨x1.trans (z2.mono f40w a41w), x2.trans z3, ⟨by rw [e38 _ (Or.inl rfl)]; exact x3.1, by rw [e38 _ (Or.inr rfl)]; exact x3.2⟩, x4.fm z2 ⟨fun z => z, fun z => z⟩ (fun b h1 h2 => n41 (by omega) (by omega)), by rw [(z2.2.2.2.2 64 (fun z => z)).1]; exact x5, by rw [(z2.2.2.2.2 65 (fun z => z)).1]; exact x6, x7.fm z2 (n41 (by omega) (by omega)), x8.fm z2 (n41 (by omega) (by omega))⟩
/-- a cell is written at the end -/
theorem mr_cell (mx : MX h q c P (m, i, d, s, l, hn) σ lk T) (f : Fm q F40 (A41 q) h g) (fo : Fo2 q c h g) {D t k : Nat} (w : MSk g q c D σ s) (ht : t < T.1) (hk : k < T.2.2.1 t) (v : Int64) : MRz q c h lk (m, i, d, s, l, hn) (Sx D 5 σ lk) (xw m D 5 s l (xo 0 hn (i + 1) (wrC T t k v))) (wL g (q + 37) (off T t + k) v) := by
  obtain ⟨p1, p2, p3, p4, p5, p6, ⟨p7, p8⟩, p9⟩ := mx
  have mg : MTh g q T := p3.fm f ⟨fun z => z, fun z => z⟩ (fun b h1 h2 => n41 (by omega) (by omega))
  have f2 : Fm q F40 (fun b => b = q + 37) g (wL g (q + 37) (off T t + k) v) := Fm.wb rfl (by omega)
  unfold Sx xw xo
  dsimp only
  rw [if_pos rfl, if_pos rfl, if_pos rfl]
  refine ⟨(f.mono f40w a41w).trans (f2.mono f40w (fun b z => by unfold AW; omega)), fo.trans (o2_fm f2 (fun b h1 h2 => by omega)), ⟨?_, ?_⟩, m_wr mg ht hk v, ?_, w.fm f2 (by omega) (by omega), (p5.fm f (n41 (by omega) (by omega))).fm f2 (by omega), (p6.fm f (n41 (by omega) (by omega))).fm f2 (by omega)⟩
  · show hI g (q + 38) c = _
    rw [(f.2.2.2.1 (q + 38) (by omega) (n41 (by omega) (by omega))).1]
  · show hI g (q + 39) c = _
    rw [(f.2.2.2.1 (q + 39) (by omega) (n41 (by omega) (by omega))).1]
  · show hI g q 64 = -1
    rw [(f.2.2.2.2 64 (fun z => z)).1]; exact p7
theorem m_c98 (mx : MX h q c P (m, i, d, s, l, hn) σ lk T) (th : TH T) (f : Fm q F40 (A41 q) h g) (fo : Fo2 q c h g) {D t b op : Nat} {x5 : Int64} {x7 s0 : Int32} (w : MSk g q c D σ s) (ht : t < T.1) (hb : b < 8) (hD : D + 2 ≤ 14) (hop : op = 25 ∨ op = 26) (hs0 : s0 = if T.2.1 t < 0 then -1 else csI (T.2.1 t)) (ty5 : op = 26 → b = 4 → Ty T.1 4 x5) : Ok (BX12_cellOf_98 (some q) (nI c) (nI op) (nI b) (nI (kcl b)) x5 x7 (nI t) s0 g) (fun _ g' => MRz q c h lk (m, i, d, s, l, hn) (Sx D (if op = 25 then kcl b else 5) σ lk) (xw m D (if op = 25 then kcl b else 5) s l (if op = 25 then (match refc T (nI t) x7 b with
    | some f => xf f hn i T
    | none => xo (T.2.2.2.2 t (cN x7)) hn (i + 1) T) else x_put b x5 x7 (nI t) hn i T)) g') := by
  have n60 := mx.2.2.1.1.2.2
  have mg : MTh g q T := mx.2.2.1.fm f ⟨fun z => z, fun z => z⟩ (fun b h1 h2 => n41 (by omega) (by omega))
  have lm := mx.1.fm f
  have hk5 : kcl b < 5 := by unfold kcl; split <;> omega
  have hw := wd_le (kcl b)
  obtain ⟨mt0, ⟨mr1, mt1⟩, ⟨mr2, mt2⟩, ⟨mr3, mt3⟩, ⟨mr4, mt4⟩, ⟨mr5, mt5⟩, ⟨mr6, mt6⟩, ⟨mr7, mt7⟩, ⟨mr8, mt8⟩, ⟨mr9, mt9⟩, ⟨mr10, mt10⟩, ⟨mr11, mt11⟩, ⟨mr12, mt12⟩, ⟨mr13, mt13⟩, ⟨mr14, mt14⟩, ⟨mr15, mt15⟩, ⟨mr16, mt16⟩, ⟨mr17, mt17⟩, ⟨mr18, mt18⟩, ⟨mr19, mt19⟩, ⟨mr20, mt20⟩, ⟨mr21, mt21⟩, ⟨mr22, mt22⟩, ⟨mr23, mt23⟩, ⟨mr24, mt24⟩, ⟨mr25, mt25⟩, ⟨mr26, mt26⟩, ⟨mr27, mt27⟩, ⟨mr28, mt28⟩, ⟨mr29, mt29⟩, ⟨mr30, mt30⟩, ⟨mr31, mt31⟩, ⟨mr32, mt32⟩, ⟨mr33, mt33⟩, ⟨mr34, mt34⟩, ⟨mr35, mt35⟩, ⟨mr36, mt36⟩, ⟨mr37, mt37⟩, ⟨mr38, mt38⟩, ⟨mr39, mt39⟩, ⟨mr40, mt40⟩, ⟨mr41, mt41⟩, ⟨mr42, mt42⟩, ⟨mr43, mt43⟩⟩ := id lm
  obtain ⟨w1, ⟨w2, w2'⟩, w3, w4, w5⟩ := mg.2 t ht
  have m1 := nI_nm1 (a := t) (by omega)
  have er : refc T (nI t) x7 b = (if s0 = nI b then (if wi x7 (T.2.2.1 t) = true then none else some 2) else some 5) := by
    unfold refc
    rw [if_neg m1, cN_n (by omega), hs0]
    by_cases cn : T.2.1 t < 0
    · rw [if_pos (Or.inl cn), if_pos cn, if_neg (fun z => nI_nm1 (a := b) (by omega) z.symm)]
    · rw [if_neg cn]
      by_cases cs : csI (T.2.1 t) = nI b
      · rw [if_pos cs, if_neg (fun z => z.elim cn (fun z => z cs))]
        cases wi x7 (T.2.2.1 t) <;> rfl
      · rw [if_neg cs, if_pos (Or.inr cs)]
  unfold BX12_cellOf_98 x_put
  rw [er]
  have fl : ∀ n : Nat, Ok (rcv g (some q) 11 <| cl (FX12_fail (some q) (nI n) g) fun _ h3 => some ((), h3)) (fun _ g' => MRz q c h lk (m, i, d, s, l, hn) (Sx D (if op = 25 then kcl b else 5) σ lk) (xw m D (if op = 25 then kcl b else 5) s l (if op = 25 then xf n hn i T else xf n hn i T)) g') := by
    intro n
    have : (if op = 25 then xf n hn i T else xf n hn i T) = xf n hn i T := by split <;> rfl
    rw [this]
    exact mr_fail mx f fo n _ _ _
  by_cases cs : s0 = nI b
  · rw [if_pos cs, if_pos cs, gR_ok mt0, mr34, aI_n mt34 (by omega) (by decide), w2, in_n _ (by omega), cl_ok, b2i_if]
    cases hwi : wi x7 (T.2.2.1 t) with
    | false =>
      rw [if_neg (show ¬ (false = true) by decide), if_neg (show ¬ (false = true) by decide)]
      exact fl 2
    | true =>
      obtain ⟨k, hk, rfl, eck⟩ := wi_ex (by omega) hwi
      have hat := m_at mg ht hk
      rw [if_pos rfl, if_pos rfl, gR_ok mt0, mr36, aI_n mt36 (by omega) (by decide), w4, eck, cN_n (show t < 2 ^ 31 by omega)]
      dsimp only
      rcases hop with rfl | rfl
      · rw [if_pos (show nI 25 = 25 from rfl), if_pos rfl, if_pos rfl, gR_ok mt0, mr37, nI_add, aL_n mt37 hat (by decide), w5 k hk]
        exact mr_push mx f fo w hk5 (by omega) _
      · rw [if_neg (by decide), nl_4, if_eq (by omega) (by decide), if_neg (show ¬ (26 = 25) by decide), if_neg (show ¬ (26 = 25) by decide)]
        have c212 : Ok (BX12_cellOf_212 (some q) (nI b) x5 (nI (off T t) + nI k) g) (fun _ g' => MRz q c h lk (m, i, d, s, l, hn) (Sx D 5 σ lk) (xw m D 5 s l (xo 0 hn (i + 1) (wrC T t k (if b < 5 then x5 else Int32.toInt64 (c_nar b x5.toInt32))))) g') := by
          unfold BX12_cellOf_212
          rw [gR_ok mt0, mr37, nl_5, if_eq (by omega) (by decide), nl_6, if_eq (by omega) (by decide), nl_7, if_eq (by omega) (by decide)]
          by_cases b5 : b = 5
          · subst b5
            have gn := g_nar (b := 5) (by omega) (by omega) x5 g
            rw [show nI (5 - 5) = 0 from rfl] at gn
            rw [if_pos rfl, gn, cl_ok, nI_add, sL_n mt37 hat (by decide), if_neg (by decide)]
            exact ok_some (mr_cell mx f fo w ht hk _)
          · rw [if_neg b5]
            by_cases b6 : b = 6
            · subst b6
              have gn := g_nar (b := 6) (by omega) (by omega) x5 g
              rw [show nI (6 - 5) = 1 from rfl] at gn
              rw [if_pos rfl, gn, cl_ok, nI_add, sL_n mt37 hat (by decide), if_neg (by decide)]
              exact ok_some (mr_cell mx f fo w ht hk _)
            · rw [if_neg b6]
              by_cases b7 : b = 7
              · subst b7
                have gn := g_nar (b := 7) (by omega) (by omega) x5 g
                rw [show nI (7 - 5) = 2 from rfl] at gn
                rw [if_pos rfl, gn, cl_ok, nI_add, sL_n mt37 hat (by decide), if_neg (by decide)]
                exact ok_some (mr_cell mx f fo w ht hk _)
              · rw [if_neg b7, nI_add, sL_n mt37 hat (by decide), if_pos (by omega)]
                exact ok_some (mr_cell mx f fo w ht hk _)
        by_cases c4 : b = 4
        · rw [if_pos c4]
          rcases (ty5 rfl c4).2 rfl with z | ⟨u, hu, z⟩
          · have z32 : x5.toInt32 = -1 := by rw [z]; rfl
            rw [if_pos z, if_neg (fun y => y.2 (Or.inl z32))]
            exact c212
          · have z32 : x5.toInt32 = nI u := by rw [z]; exact lN_32 (by omega)
            have zm : ¬ x5 = -1 := by rw [z]; exact lN_nm1 (by omega)
            obtain ⟨u1, -⟩ := mg.2 u hu
            rw [if_neg zm, gR_ok mt0, mr33, z32, aI_n mt33 (by omega) (by decide), u1, gR_ok mt0, mr33, aI_n mt33 (by omega) (by decide), w1, cN_n (show u < 2 ^ 31 by omega)]
            by_cases ce : T.2.1 u = T.2.1 t - 8
            · rw [if_pos ce, if_neg (fun y => y.2 (Or.inr ce))]
              rw [z32] at c212
              exact c212
            · rw [if_neg ce, if_pos ⟨c4, fun y => y.elim (nI_nm1 (by omega)) ce⟩]
              exact mr_fail mx f fo 3 _ _ _
        · rw [if_neg c4, if_neg (fun y => c4 y.1)]
          exact c212
  · rw [if_neg cs, if_neg cs]
    exact fl 5
end MT3
