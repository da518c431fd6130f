/-! shapes: what is told of them -/
def s_tell (t : Tab) (i : Nat) (k : Int32) : Int32 := match t.1 i with
  | none => -1
  | some d => if k.toInt < -1 then nI (t.2.2.1 i (-2 - k.toInt).toNat) else if k = -1 then nI d else if k.toInt < d then nI (t.2.1 i (cN k)) else -1
section GV
variable {h : Hp} {o q : Nat} {G : Gs}
theorem sh_ix {a : Nat} {k : Int32} (h1 : -17 ≤ k.toInt) (h2 : k.toInt < -1) : nI a - 2 - k = nI (a + (-2 - k.toInt).toNat) := by
  have e : (-2 : Int32) - k = nI (-2 - k.toInt).toNat := by
    rw [i32_eq, Int32.toInt_sub, nI_tI (by omega), show (-2 : Int32).toInt = -2 from by decide, Int.bmod_def]
    split <;> omega
  rw [← nI_add, ← e, Int32.sub_eq_add_neg (nI a - 2) k, Int32.sub_eq_add_neg (nI a) 2, Int32.sub_eq_add_neg (-2) k, Int32.add_assoc]
theorem k_m1 {k : Int32} : (k = -1) = (k.toInt = -1) := by rw [i32_eq]; rfl
theorem c_tell {sh dp sk lc du i : Nat} {t : Tab} {k : Int32} (v : Tv h sh dp sk lc du t) (hi : i < 60) (hk : -17 ≤ k.toInt ∧ k.toInt < 12) : FX6_tell (some sh) (nI i) k h = some (s_tell t i k, h) := by
  obtain ⟨ts, ⟨r0, r1, r2, r3⟩, ⟨td, tk, tl, tu⟩, -, e1, e2⟩ := v
  have ed := (e1 i hi).1
  unfold FX6_tell s_tell
  rw [gR_ok ts, r0, aI_n td hi (by decide), ed]
  cases hd : t.1 i with
  | none => rw [show d2i none = -1 from rfl, if_pos rfl]
  | some d =>
    obtain ⟨d12, es, el⟩ := e2 i d hi hd
    rw [show d2i (some d) = nI d from rfl, ie_m (by omega), gR_ok ts, r0, aI_n td hi (by decide), ed, hd, show d2i (some d) = nI d from rfl]
    have kl : k < nI d ↔ k.toInt < d := by rw [i32_lt, nI_tI (by omega)]
    dsimp only
    by_cases c1 : k.toInt < -1
    · rw [if_pos (kl.mpr (by omega)), if_neg (show ¬ k = -1 by rw [k_m1]; omega), if_pos (show k < 0 by rw [i32_lt, i32_0]; omega), gR_ok ts, r2, nl_16, pk_mul, sh_ix hk.1 c1, aL_n tl (by omega) (by decide), Nat.mul_comm i 16, (el _ (by omega)).1, lN_32 (by have := (el (-2 - k.toInt).toNat (by omega)).2; omega)]
      rw [if_pos c1]
    · rw [if_neg c1]
      by_cases c2 : k = -1
      · have : k.toInt = -1 := by rw [← k_m1]; exact c2
        rw [if_pos (kl.mpr (by omega)), if_pos c2, gR_ok ts, r0, aI_n td hi (by decide), ed, hd, if_pos c2]; rfl
      · have c2' : ¬ k.toInt = -1 := by rw [← k_m1]; exact c2
        rw [if_neg c2, if_neg (show ¬ k < 0 by rw [i32_lt, i32_0]; omega), if_neg c2]
        by_cases c3 : k.toInt < d
        · obtain ⟨j, hj, rfl⟩ := nI_lt_of (x := k) (n := d) (by omega) (by omega) c3
          rw [if_pos (kl.mpr c3), if_pos c3, gR_ok ts, r1, nl_12, pk_mul, nI_add, aL_n tk (by omega) (by decide), Nat.mul_comm i 12, (es j hj).1, lN_32 (by have := (es j hj).2; omega), cN_n (by omega)]
        · rw [if_neg (fun z => c3 (kl.mp z)), if_neg c3]
theorem c_shape (gi : GI G) (cg : CG h o G) (x i k : Int32) : FX11_shape (some o) x i k h = some (s_shape G x i k, h) := by
  obtain ⟨⟨ma, ta, pc, ap, jt, -, fl, -⟩, ⟨⟨t0, ⟨r0, r1, r2, r3⟩, t52⟩, -⟩, -⟩ := cg
  have hnm := gi.1.1
  unfold FX11_shape s_shape
  rw [gR_ok t0, r0, rcv_ok pc.1.1]
  cases hx : wi x (p_nm G.1) with
  | false => rw [f_findM_no pc gi.1 hx, cl_ok, if_neg (by decide), nz_no]
  | true =>
    obtain ⟨m, hm, rfl, ec⟩ := wi_ex (by omega) hx
    have wm := gi.1.2.2.2.1 m hm
    have hno := wm.2.2.2.1
    obtain ⟨-, ⟨tm, rs, -⟩, mc⟩ := pc.2.2.1 m hm
    have rs : hR h (ma m) 13 = some (ma m + 9) := rs.2.2.2.2.2.2.2.2
    obtain ⟨⟨fj, -⟩, tv⟩ := fl m hm
    rw [f_findM pc gi.1 hm, cl_ok, if_pos rfl, nz_ok, gI_ok tm, mc.1.2.2.2.1, f_wi _ (by omega), cl_ok, b2i_if, ec]
    cases hi : wi i (p_no G.1 m) with
    | false => rw [if_neg (by decide), if_neg (by decide)]
    | true =>
      obtain ⟨j, hj, rfl, ej⟩ := wi_ex (by omega) hi
      rw [if_pos rfl, if_pos rfl, ej]
      have e17 : (-17 : Int32).toInt = -17 := by decide
      have e12 : (12 : Int32).toInt = 12 := by decide
      by_cases ck : -17 ≤ k.toInt ∧ k.toInt < 12
      · rw [if_neg (show ¬ k < -17 by rw [i32_lt, e17]; omega), if_pos (show k < 12 by rw [i32_lt, e12]; omega), if_pos ck, gI_ok tm, fj, b2i_if]
        cases hjd : G.2.2.1.1 m with
        | false => rw [if_neg (by decide), if_neg (by decide)]
        | true => rw [if_pos rfl, if_pos rfl, gR_ok tm, rs, rcv_ok tv.1, c_tell tv (by omega) ck, cl_ok]; rfl
      · rw [if_neg ck]
        by_cases c1 : k < -17
        · rw [if_pos c1]
        · have c1' := c1
          rw [i32_lt, e17] at c1'
          rw [if_neg c1, if_neg (show ¬ k < 12 by rw [i32_lt, e12]; omega)]
theorem in_17 (x : Int32) : FX12_in (Int32.toInt64 x) (-17) 11 h = some (b2i (decide (-17 ≤ x.toInt ∧ x.toInt < 12)), h) := by
  rw [f_in, i64_of32, show (-17 : Int64).toInt = -17 from by decide, show (11 : Int64).toInt = 11 from by decide]
  by_cases c : -17 ≤ x.toInt ∧ x.toInt < 12
  · rw [if_pos (by omega), decide_eq_true c]; rfl
  · rw [if_neg (by omega), decide_eq_false c]; rfl
theorem d_shape (gi : GI G) (mg : MG h q G) (x i k : Int32) : FX12_shape (some q) x i k h = some (s_shape G x i k, h) := by
  obtain ⟨⟨lm, pm, -, fl⟩, -⟩ := mg
  have hnm := gi.1.1
  obtain ⟨mt0, ⟨mr1, mt1⟩, ⟨mr2, mt2⟩, ⟨mr3, mt3⟩, ⟨mr4, mt4⟩, ⟨mr5, mt5⟩, ⟨mr6, mt6⟩, ⟨mr7, mt7⟩, ⟨mr8, mt8⟩, ⟨mr9, mt9⟩, ⟨mr10, mt10⟩, ⟨mr11, mt11⟩, ⟨mr12, mt12⟩, ⟨mr13, mt13⟩, ⟨mr14, mt14⟩, ⟨mr15, mt15⟩, ⟨mr16, mt16⟩, ⟨mr17, mt17⟩, ⟨mr18, mt18⟩, ⟨mr19, mt19⟩, ⟨mr20, mt20⟩, ⟨mr21, mt21⟩, ⟨mr22, mt22⟩, ⟨mr23, mt23⟩, ⟨mr24, mt24⟩, ⟨mr25, mt25⟩, ⟨mr26, mt26⟩, ⟨mr27, mt27⟩, ⟨mr28, mt28⟩, ⟨mr29, mt29⟩, ⟨mr30, mt30⟩, ⟨mr31, mt31⟩, ⟨mr32, mt32⟩, ⟨mr33, mt33⟩, ⟨mr34, mt34⟩, ⟨mr35, mt35⟩, ⟨mr36, mt36⟩, ⟨mr37, mt37⟩, ⟨mr38, mt38⟩, ⟨mr39, mt39⟩, ⟨mr40, mt40⟩, ⟨mr41, mt41⟩, ⟨mr42, mt42⟩, ⟨mr43, mt43⟩⟩ := id lm
  unfold FX12_shape s_shape
  rw [rcv_ok mt0, f_isM lm pm gi.1, cl_ok, b2i_if]
  cases hx : wi x (p_nm G.1) with
  | false => rw [if_neg (by decide), if_neg (by decide)]
  | true =>
    obtain ⟨m, hm, rfl, ec⟩ := wi_ex (by omega) hx
    have wm := gi.1.2.2.2.1 m hm
    have hno := wm.2.2.2.1
    have vm := pm.2.1 m hm
    obtain ⟨fj, fn⟩ := fl m hm
    rw [if_pos rfl, if_pos rfl, gR_ok mt0, mr5, aI_n mt5 (by omega) (by decide), vm.1.2.2.2.1, in_n _ (by omega), cl_ok, b2i_if, ec]
    cases hi : wi i (p_no G.1 m) with
    | false => rw [if_neg (by decide), if_neg (by decide)]
    | true =>
      obtain ⟨j, hj, rfl, ej⟩ := wi_ex (by omega) hi
      rw [if_pos rfl, if_pos rfl, ej, in_17, cl_ok, b2i_if]
      by_cases ck : -17 ≤ k.toInt ∧ k.toInt < 12
      · rw [decide_eq_true ck, if_pos rfl, if_pos ck, gR_ok mt0, mr22, nl_60, pk_mul, nI_add, aI_n mt22 (by omega) (by decide)]
        cases hjd : G.2.2.1.1 m with
        | false => rw [fn hjd j (by omega), if_pos rfl, if_neg (by decide)]
        | true =>
          obtain ⟨u1, u2⟩ := fj hjd (by omega) j (by omega)
          rw [u1, b2i_if, if_pos (show true = true from rfl)]
          cases hd : (G.2.1 m).1 j with
          | none => rw [show (none : Option Nat).isSome = false from rfl, if_neg (by decide)]
          | some d =>
            obtain ⟨d12, e0, es, el⟩ := u2 d hd
            have em1 : (-1 : Int32).toInt = -1 := by decide
            have kl : k < nI d ↔ k.toInt < d := by rw [i32_lt, nI_tI (by omega)]
            rw [show (some d).isSome = true from rfl, if_pos rfl]
            dsimp only
            by_cases c1 : k.toInt < -1
            · rw [if_pos (show k < -1 by rw [i32_lt, em1]; omega), gR_ok mt0, mr26, nl_16, pk_mul, sh_ix ck.1 c1, aI_n mt26 (by omega) (by decide), (el _ (by omega)).1, if_pos c1]
            · rw [if_neg (show ¬ k < -1 by rw [i32_lt, em1]; omega), if_neg c1]
              by_cases c2 : k = -1
              · rw [if_pos c2, if_pos c2, gR_ok mt0, mr24, aI_n mt24 (by omega) (by decide), e0]
              · have c2' : ¬ k.toInt = -1 := by rw [← k_m1]; exact c2
                rw [if_neg c2, if_neg c2, gR_ok mt0, mr24, aI_n mt24 (by omega) (by decide), e0]
                by_cases c3 : k.toInt < d
                · obtain ⟨y, hy, rfl⟩ := nI_lt_of (x := k) (n := d) (by omega) (by omega) c3
                  rw [if_pos (kl.mpr c3), if_pos c3, gR_ok mt0, mr25, nl_12, pk_mul, nI_add, aI_n mt25 (by omega) (by decide), (es y hy).1, cN_n (by omega)]
                · rw [if_neg (fun z => c3 (kl.mp z)), if_neg c3]
      · rw [decide_eq_false ck, if_neg (by decide), if_neg ck]
end GV
