/-! WHAT CLASS AND MODEL BOTH SHOW: one picture, two views; the calls that only tell -/
/-- program; shapes; judged, good; what is given; the fault; was there a walk; the last walk and its steps -/
abbrev Gs : Type := Pg × (Nat → Tab) × ((Nat → Bool) × (Nat → Bool)) × (Nat × (Nat → Int64)) × (Int32 × Int32) × Bool × Nat × Wk
def CGa (h : Hp) (o : Nat) (ma ta : Nat → Nat) (P : Pg) (tt : Nat → Tab) (jd gd : Nat → Bool) : Prop := PC h o ma ta P ∧ Apt o ma ta P ∧ JT (hT h) (hR h) o ∧ ((∃ s : Sh, SvB h o s.1 s.2.1 s.2.2) ∧ ∃ s : Sh, SvC h o s.1 s.2.1 s.2.2) ∧ (∀ m, m < p_nm P → (hI h (ma m) 14 = b2i (jd m) ∧ hI h (ma m) 15 = b2i (gd m)) ∧ Tv h (ma m + 9) (ma m + 10) (ma m + 11) (ma m + 12) (ma m + 13) (tt m)) ∧ o + 97 ≤ hz h ∧ (∀ m, m < p_nm P → ma m + 14 ≤ hz h) ∧ ∀ t, t < p_nt P → ta t + 3 ≤ hz h
def CGb (h : Hp) (o gc : Nat) (gv : Nat → Int64) (ft : Int32 × Int32) : Prop := (hT h o = some (.inl 10) ∧ (hR h o 0 = some (o + 1) ∧ hR h o 1 = some (o + 5) ∧ hR h o 2 = some (o + 14) ∧ hR h o 3 = some (o + 52)) ∧ hT h (o + 52) = some (.inr (.long, 8))) ∧ (hI h o 4 = nI gc ∧ ∀ j, j < 8 → hL h (o + 52) j = gv j) ∧ hI h (o + 5) 3 = ft.1 ∧ hI h (o + 5) 4 = ft.2
def CGc (h : Hp) (o : Nat) (wl : Bool) (R : Nat × Wk) : Prop := WT (hT h) (hR h) o ∧ TV h o R.2.2.1 U0 ∧ (hI h (o + 14) 6 = b2i wl ∧ hL h (o + 14) 5 = R.2.2.2.2.2) ∧ (wl = true → hI h (o + 14) 4 = nI R.2.1.1 ∧ (hI h (o + 14) 7 = R.2.2.2.1.1 ∧ hI h (o + 14) 8 = R.2.2.2.1.2.1 ∧ hI h (o + 14) 9 = R.2.2.2.1.2.2) ∧ hI h (o + 14) 10 = nI R.1 ∧ hI h (o + 14) 11 = nI R.2.2.2.2.1.1 ∧ hI h (o + 14) 12 = nI R.2.2.2.2.1.2.1 ∧ hI h (o + 14) 13 = nI R.2.2.2.2.1.2.2)
/-- the class's view -/
def CG (h : Hp) (o : Nat) (G : Gs) : Prop := (∃ ma ta, CGa h o ma ta G.1 G.2.1 G.2.2.1.1 G.2.2.1.2) ∧ CGb h o G.2.2.2.1.1 G.2.2.2.1.2 G.2.2.2.2.1 ∧ CGc h o G.2.2.2.2.2.1 G.2.2.2.2.2.2
def MGa (h : Hp) (q : Nat) (P : Pg) (tt : Nat → Tab) (jd gd : Nat → Bool) : Prop := LM (hT h) (hR h) q ∧ PM h q P ∧ (∀ m, m < p_nm P → hI h (q + 14) m = b2i (gd m)) ∧ ∀ m, m < p_nm P → (jd m = true → 0 < p_no P m → Mt h q m (tt m)) ∧ (jd m = false → ∀ i, i < 60 → hI h (q + 22) (60 * m + i) = 0)
def MGb (h : Hp) (q gc : Nat) (gv : Nat → Int64) (ft : Int32 × Int32) : Prop := (hI h q 34 = nI gc ∧ ∀ j, j < 8 → hL h (q + 29) j = gv j) ∧ hI h q 32 = ft.1 ∧ hI h q 33 = ft.2
def MGc (h : Hp) (q : Nat) (wl : Bool) (R : Nat × Wk) : Prop := MTh h q R.2.2.1 ∧ (hI h q 54 = b2i wl ∧ hL h q 55 = R.2.2.2.2.2) ∧ (wl = true → hI h q 63 = nI R.2.1.1 ∧ (hI h q 56 = R.2.2.2.1.1 ∧ hI h q 57 = R.2.2.2.1.2.1 ∧ hI h q 58 = R.2.2.2.1.2.2) ∧ hI h q 59 = nI R.1 ∧ hI h q 60 = nI R.2.2.2.2.1.1 ∧ hI h q 61 = nI R.2.2.2.2.1.2.1 ∧ hI h q 62 = nI R.2.2.2.2.1.2.2)
/-- the model's view -/
def MG (h : Hp) (q : Nat) (G : Gs) : Prop := MGa h q G.1 G.2.1 G.2.2.1.1 G.2.2.1.2 ∧ MGb h q G.2.2.2.1.1 G.2.2.2.1.2 G.2.2.2.2.1 ∧ MGc h q G.2.2.2.2.2.1 G.2.2.2.2.2.2
def GI (G : Gs) : Prop := PW G.1 ∧ G.2.2.2.1.1 ≤ 8 ∧ ∀ m, m < p_nm G.1 → G.2.2.1.2 m = true → G.2.2.1.1 m = true ∧ Stb G.1 m (G.2.1 m) ∧ TW (G.2.1 m)
/-- what each leaves of the other -/
def FC (q : Nat) (h g : Hp) : Prop := ∀ b, q ≤ b → b ≤ q + 43 → hT g b = hT h b ∧ hR g b = hR h b ∧ hI g b = hI h b ∧ hL g b = hL h b
def AMd (q : Nat) : Nat → Prop := fun b => q ≤ b ∧ b ≤ q + 43
/-- what the calls tell -/
def s_count (G : Gs) (x : Int32) : Int32 := if x = 0 then nI (p_nm G.1) else if x = 1 then nI (p_nc G.1) else if x = 2 then nI (p_nt G.1) else if x = 3 then nI G.2.2.2.1.1 else -2
def s_fault (G : Gs) (x : Int32) : Int32 := if x = 0 then G.2.2.2.2.1.1 else if x = 1 then G.2.2.2.2.1.2 else -2
def s_good (G : Gs) (x : Int32) : Int32 := if wi x (p_nm G.1) = true then (if G.2.2.1.2 (cN x) = true then 1 else 0) else -2
def s_told (G : Gs) (x : Int32) : Int32 := if wi x 9 = true then (if G.2.2.2.2.2.1 = true then (if x = 0 then G.2.2.2.2.2.2.2.2.2.1.1 else if x = 1 then G.2.2.2.2.2.2.2.2.2.1.2.1 else if x = 2 then G.2.2.2.2.2.2.2.2.2.1.2.2 else if x = 3 then nI G.2.2.2.2.2.2.1 else if x = 4 then nI G.2.2.2.2.2.2.2.2.2.2.1.1 else if x = 5 then nI G.2.2.2.2.2.2.2.2.1.1 else if x = 6 then nI G.2.2.2.2.2.2.2.2.2.2.1.2.1 else if x = 7 then nI G.2.2.2.2.2.2.2.2.2.2.1.2.2 else nI G.2.2.2.2.2.2.2.1.1) else -3) else -2
def s_thing (G : Gs) (x y : Int32) : Int32 := if wi x G.2.2.2.2.2.2.2.2.1.1 = true then (if y = 0 then G.2.2.2.2.2.2.2.2.1.2.1 (cN x) else if y = 1 then nI (G.2.2.2.2.2.2.2.2.1.2.2.1 (cN x)) else if y = 2 then G.2.2.2.2.2.2.2.2.1.2.2.2.1 (cN x) else -2) else -2
def s_cell (G : Gs) (x y : Int32) : Int64 := if wi x G.2.2.2.2.2.2.2.2.1.1 = true then (if wi y (G.2.2.2.2.2.2.2.2.1.2.2.1 (cN x)) = true then G.2.2.2.2.2.2.2.2.1.2.2.2.2 (cN x) (cN y) else -2) else -2
section GT
variable {h : Hp} {o q : Nat} {G : Gs}
theorem c_count (cg : CG h o G) (x : Int32) : FX11_count (some o) x h = some (s_count G x, h) := by
  obtain ⟨⟨ma, ta, pc, -⟩, ⟨⟨t0, ⟨r0, r1, r2, r3⟩, t52⟩, ⟨g4, -⟩, -⟩, -⟩ := cg
  obtain ⟨⟨t1, -⟩, ⟨n1, n3, n5⟩, -⟩ := pc
  unfold FX11_count s_count
  rw [gR_ok t0, r0, gI_ok t1, n1, gR_ok t0, r0, gI_ok t1, n3, gR_ok t0, r0, gI_ok t1, n5, gI_ok t0, g4]
  split
  · rfl
  · split
    · rfl
    · split
      · rfl
      · split <;> rfl
theorem d_count (mg : MG h q G) (x : Int32) : FX12_count (some q) x h = some (s_count G x, h) := by
  obtain ⟨⟨lm, pm, -⟩, ⟨⟨g4, -⟩, -⟩, -⟩ := mg
  have t0 := lm.1
  obtain ⟨n1, n3, n5⟩ := pm.1
  unfold FX12_count s_count
  rw [gI_ok t0, gI_ok t0, gI_ok t0, gI_ok t0, n1, n3, n5, g4]
  split
  · rfl
  · split
    · rfl
    · split
      · rfl
      · split <;> rfl
theorem c_fault (cg : CG h o G) (x : Int32) : FX11_fault (some o) x h = some (s_fault G x, h) := by
  obtain ⟨⟨ma, ta, pc, ap, jt, -⟩, ⟨⟨t0, ⟨r0, r1, r2, r3⟩, t52⟩, -, f3, f4⟩, -⟩ := cg
  have t5 := jt.1
  unfold FX11_fault s_fault
  rw [gR_ok t0, r1, gI_ok t5, f3, gR_ok t0, r1, gI_ok t5, f4]
  split
  · rfl
  · split <;> rfl
theorem d_fault (mg : MG h q G) (x : Int32) : FX12_fault (some q) x h = some (s_fault G x, h) := by
  obtain ⟨⟨lm, -⟩, ⟨-, f3, f4⟩, -⟩ := mg
  have t0 := lm.1
  unfold FX12_fault s_fault
  rw [gI_ok t0, gI_ok t0, f3, f4]
  split
  · rfl
  · split <;> rfl
theorem c_good (gi : GI G) (cg : CG h o G) (x : Int32) : FX11_good (some o) x h = some (s_good G x, h) := by
  obtain ⟨⟨ma, ta, pc, ap, jt, -, fl, -⟩, ⟨⟨t0, ⟨r0, r1, r2, r3⟩, t52⟩, -⟩, -⟩ := cg
  have hnm := gi.1.1
  unfold FX11_good s_good
  rw [gR_ok t0, r0, rcv_ok pc.1.1]
  cases hx : wi x (p_nm G.1) with
  | false => rw [f_findM_no pc gi.1 hx, cl_ok, if_neg (by decide), nz_no]
  | true =>
    obtain ⟨m, hm, rfl, ec⟩ := wi_ex (by omega) hx
    rw [f_findM pc gi.1 hm, cl_ok, if_pos rfl, nz_ok, gI_ok (pc.2.2.1 m hm).2.1.1, (fl m hm).1.2, b2i_if, ec]
    split <;> rfl
theorem d_good (gi : GI G) (mg : MG h q G) (x : Int32) : FX12_good (some q) x h = some (s_good G x, h) := by
  obtain ⟨⟨lm, pm, fl, -⟩, -⟩ := mg
  have hnm := gi.1.1
  obtain ⟨mt0, ⟨mr1, mt1⟩, ⟨mr2, mt2⟩, ⟨mr3, mt3⟩, ⟨mr4, mt4⟩, ⟨mr5, mt5⟩, ⟨mr6, mt6⟩, ⟨mr7, mt7⟩, ⟨mr8, mt8⟩, ⟨mr9, mt9⟩, ⟨mr10, mt10⟩, ⟨mr11, mt11⟩, ⟨mr12, mt12⟩, ⟨mr13, mt13⟩, ⟨mr14, mt14⟩, ⟨mr15, mt15⟩, ⟨mr16, mt16⟩, ⟨mr17, mt17⟩, ⟨mr18, mt18⟩, ⟨mr19, mt19⟩, ⟨mr20, mt20⟩, ⟨mr21, mt21⟩, ⟨mr22, mt22⟩, ⟨mr23, mt23⟩, ⟨mr24, mt24⟩, ⟨mr25, mt25⟩, ⟨mr26, mt26⟩, ⟨mr27, mt27⟩, ⟨mr28, mt28⟩, ⟨mr29, mt29⟩, ⟨mr30, mt30⟩, ⟨mr31, mt31⟩, ⟨mr32, mt32⟩, ⟨mr33, mt33⟩, ⟨mr34, mt34⟩, ⟨mr35, mt35⟩, ⟨mr36, mt36⟩, ⟨mr37, mt37⟩, ⟨mr38, mt38⟩, ⟨mr39, mt39⟩, ⟨mr40, mt40⟩, ⟨mr41, mt41⟩, ⟨mr42, mt42⟩, ⟨mr43, mt43⟩⟩ := id lm
  unfold FX12_good s_good
  rw [rcv_ok mt0, f_isM lm pm gi.1, cl_ok, b2i_if]
  cases hx : wi x (p_nm G.1) with
  | false => rw [if_neg (by decide), if_neg (by decide)]
  | true =>
    obtain ⟨m, hm, rfl, ec⟩ := wi_ex (by omega) hx
    rw [if_pos rfl, if_pos rfl, gR_ok mt0, mr14, aI_n mt14 (by omega) (by decide), fl m hm, b2i_if, ec]
    split <;> rfl
theorem c_told (cg : CG h o G) (x : Int32) : FX11_told (some o) x h = some (s_told G x, h) := by
  obtain ⟨-, ⟨⟨t0, ⟨r0, r1, r2, r3⟩, t52⟩, -⟩, ⟨wt, tv, ⟨w6, -⟩, w⟩⟩ := cg
  have t14 := wt.1.1
  unfold FX11_told s_told FX9_report
  rw [gR_ok t0, r2, rcv_ok t14, nl_9, f_wi _ (by decide), cl_ok, b2i_if]
  cases hx : wi x 9 with
  | false => rw [if_neg (by decide), if_neg (by decide), cl_ok]
  | true =>
    rw [if_pos rfl, if_pos rfl, gI_ok t14, w6, b2i_if]
    cases hw : G.2.2.2.2.2.1 with
    | false => rw [if_neg (by decide), if_neg (by decide), cl_ok]
    | true =>
      obtain ⟨w4, ⟨w7, w8, w9⟩, w10, w11, w12, w13⟩ := w hw
      rw [if_pos rfl, if_pos rfl, gI_ok t14, gI_ok t14, gI_ok t14, gI_ok t14, gI_ok t14, gR_ok t14, wt.1.2.2.1, gI_ok wt.2.1.1, gI_ok t14, gI_ok t14, gI_ok t14, w4, w7, w8, w9, w10, w11, w12, w13, tv.1.1]
      split
      · rw [cl_ok]
      · split
        · rw [cl_ok]
        · split
          · rw [cl_ok]
          · split
            · rw [cl_ok]
            · split
              · rw [cl_ok]
              · split
                · rw [cl_ok]
                · split
                  · rw [cl_ok]
                  · split <;> rw [cl_ok]
theorem d_told (mg : MG h q G) (x : Int32) : FX12_told (some q) x h = some (s_told G x, h) := by
  obtain ⟨⟨lm, -⟩, -, ⟨mt, ⟨w6, -⟩, w⟩⟩ := mg
  have t0 := lm.1
  unfold FX12_told s_told
  rw [in_8, cl_ok, b2i_if]
  cases hx : wi x 9 with
  | false => rw [if_neg (by decide), if_neg (by decide)]
  | true =>
    rw [if_pos rfl, if_pos rfl, gI_ok t0, w6, b2i_if]
    cases hw : G.2.2.2.2.2.1 with
    | false => rw [if_neg (by decide), if_neg (by decide)]
    | true =>
      obtain ⟨w4, ⟨w7, w8, w9⟩, w10, w11, w12, w13⟩ := w hw
      rw [if_pos rfl, if_pos rfl, gI_ok t0, gI_ok t0, gI_ok t0, gI_ok t0, gI_ok t0, gI_ok t0, gI_ok t0, gI_ok t0, gI_ok t0, w4, w7, w8, w9, w10, w11, w12, w13, mt.1.1]
      split
      · rfl
      · split
        · rfl
        · split
          · rfl
          · split
            · rfl
            · split
              · rfl
              · split
                · rfl
                · split
                  · rfl
                  · split <;> rfl
theorem c_value (cg : CG h o G) : FX11_value (some o) h = some (G.2.2.2.2.2.2.2.2.2.2.2, h) := by
  obtain ⟨-, ⟨⟨t0, ⟨r0, r1, r2, r3⟩, t52⟩, -⟩, ⟨wt, tv, ⟨w6, w5⟩, w⟩⟩ := cg
  unfold FX11_value
  rw [gR_ok t0, r2, gL_ok wt.1.1, w5]
theorem d_value (mg : MG h q G) : FX12_value (some q) h = some (G.2.2.2.2.2.2.2.2.2.2.2, h) := by
  obtain ⟨⟨lm, -⟩, -, ⟨mt, ⟨w6, w5⟩, w⟩⟩ := mg
  unfold FX12_value
  rw [gL_ok lm.1, w5]
theorem c_thing (cg : CG h o G) (x y : Int32) : FX11_thing (some o) x y h = some (s_thing G x y, h) := by
  obtain ⟨-, ⟨⟨t0, ⟨r0, r1, r2, r3⟩, t52⟩, -⟩, ⟨wt, tv, -⟩⟩ := cg
  have t14 := wt.1.1
  have t15 := wt.2.1.1
  have n60 := tv.1.2
  unfold FX11_thing s_thing FX8_describe
  rw [gR_ok t0, r2, gR_ok t14, wt.1.2.2.1, rcv_ok t15, gI_ok t15, tv.1.1, f_wi _ (by omega), cl_ok, b2i_if]
  cases hx : wi x G.2.2.2.2.2.2.2.2.1.1 with
  | false => rw [if_neg (by decide), if_neg (by decide), cl_ok]
  | true =>
    obtain ⟨t, ht, rfl, ec⟩ := wi_ex (by omega) hx
    obtain ⟨v1, ⟨v2, -⟩, v3, -⟩ := tv.2 t ht
    rw [if_pos rfl, if_pos rfl, gR_ok t15, wt.2.1.2.1, aI_n wt.2.2.1.1 (by omega) (by decide), v1, gR_ok t15, wt.2.1.2.2.1, aI_n wt.2.2.1.2.1 (by omega) (by decide), v2, gR_ok t15, wt.2.1.2.2.2.1, aI_n wt.2.2.1.2.2.1 (by omega) (by decide), v3, ec]
    split
    · rw [cl_ok]
    · split
      · rw [cl_ok]
      · split <;> rw [cl_ok]
theorem d_thing (mg : MG h q G) (x y : Int32) : FX12_thing (some q) x y h = some (s_thing G x y, h) := by
  obtain ⟨⟨lm, -⟩, -, ⟨mt, -⟩⟩ := mg
  obtain ⟨mt0, ⟨mr1, mt1⟩, ⟨mr2, mt2⟩, ⟨mr3, mt3⟩, ⟨mr4, mt4⟩, ⟨mr5, mt5⟩, ⟨mr6, mt6⟩, ⟨mr7, mt7⟩, ⟨mr8, mt8⟩, ⟨mr9, mt9⟩, ⟨mr10, mt10⟩, ⟨mr11, mt11⟩, ⟨mr12, mt12⟩, ⟨mr13, mt13⟩, ⟨mr14, mt14⟩, ⟨mr15, mt15⟩, ⟨mr16, mt16⟩, ⟨mr17, mt17⟩, ⟨mr18, mt18⟩, ⟨mr19, mt19⟩, ⟨mr20, mt20⟩, ⟨mr21, mt21⟩, ⟨mr22, mt22⟩, ⟨mr23, mt23⟩, ⟨mr24, mt24⟩, ⟨mr25, mt25⟩, ⟨mr26, mt26⟩, ⟨mr27, mt27⟩, ⟨mr28, mt28⟩, ⟨mr29, mt29⟩, ⟨mr30, mt30⟩, ⟨mr31, mt31⟩, ⟨mr32, mt32⟩, ⟨mr33, mt33⟩, ⟨mr34, mt34⟩, ⟨mr35, mt35⟩, ⟨mr36, mt36⟩, ⟨mr37, mt37⟩, ⟨mr38, mt38⟩, ⟨mr39, mt39⟩, ⟨mr40, mt40⟩, ⟨mr41, mt41⟩, ⟨mr42, mt42⟩, ⟨mr43, mt43⟩⟩ := id lm
  have n60 := mt.1.2.2
  unfold FX12_thing s_thing
  rw [gI_ok mt0, mt.1.1, in_n _ (by omega), cl_ok, b2i_if]
  cases hx : wi x G.2.2.2.2.2.2.2.2.1.1 with
  | false => rw [if_neg (by decide), if_neg (by decide)]
  | true =>
    obtain ⟨t, ht, rfl, ec⟩ := wi_ex (by omega) hx
    obtain ⟨v1, ⟨v2, -⟩, v3, -⟩ := mt.2 t ht
    rw [if_pos rfl, if_pos rfl, in_2, cl_ok, b2i_if, gR_ok mt0, mr33, aI_n mt33 (by omega) (by decide), v1, gR_ok mt0, mr34, aI_n mt34 (by omega) (by decide), v2, gR_ok mt0, mr35, aI_n mt35 (by omega) (by decide), v3, ec]
    cases hy : wi y 3 with
    | false =>
      have n0 : ∀ k : Nat, k < 3 → ¬ y = nI k := fun k hk e => by rw [e, wi_n (by omega), decide_eq_true hk] at hy; cases hy
      rw [if_neg (by decide), if_neg (show ¬ y = 0 from n0 0 (by decide)), if_neg (show ¬ y = 1 from n0 1 (by decide)), if_neg (show ¬ y = 2 from n0 2 (by decide))]
    | true =>
      obtain ⟨k, hk, rfl, -⟩ := wi_ex (by decide) hy
      rw [if_pos rfl]
      rcases (show k = 0 ∨ k = 1 ∨ k = 2 by omega) with rfl | rfl | rfl
      · rw [if_pos (show nI 0 = 0 from rfl), if_pos (show nI 0 = 0 from rfl)]
      · rw [if_neg (show ¬ nI 1 = 0 by decide), if_neg (show ¬ nI 1 = 0 by decide), if_pos (show nI 1 = 1 from rfl), if_pos (show nI 1 = 1 from rfl)]
      · rw [if_neg (show ¬ nI 2 = 0 by decide), if_neg (show ¬ nI 2 = 0 by decide), if_neg (show ¬ nI 2 = 1 by decide), if_neg (show ¬ nI 2 = 1 by decide), if_pos (show nI 2 = 2 from rfl)]
end GT
