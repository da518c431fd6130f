/-! cells, shapes: the calls that only tell -/
def s_shape (G : Gs) (x i k : Int32) : Int32 := if wi x (p_nm G.1) = true then (if wi i (p_no G.1 (cN x)) = true then (if -17 ≤ k.toInt ∧ k.toInt < 12 then (if G.2.2.1.1 (cN x) = true then (match (G.2.1 (cN x)).1 (cN i) with
  | none => -1
  | some d => if k.toInt < -1 then nI ((G.2.1 (cN x)).2.2.1 (cN i) (-2 - k.toInt).toNat) else if k = -1 then nI d else if k.toInt < d then nI ((G.2.1 (cN x)).2.1 (cN i) (cN k)) else -1) else -1) else -2) else -2) else -2
section GU
variable {h : Hp} {o q : Nat} {G : Gs}
theorem i_neg0 {x : Int32} {n : Nat} (hn : n < 2 ^ 31) (hx : wi x n = false) : ¬ (¬ x < 0 ∧ x < nI n) := by
  intro z
  have z1 := z.1
  have z2 := z.2
  rw [i32_lt, i32_0] at z1
  rw [i32_lt, nI_tI hn] at z2
  unfold wi at hx
  have := of_decide_eq_false hx
  omega
theorem c_has (cg : CG h o G) (x y : Int32) : FX8_hasCell (some (o + 15)) x y h = some (b2i (wi x G.2.2.2.2.2.2.2.2.1.1 && wi y (G.2.2.2.2.2.2.2.2.1.2.2.1 (cN x))), h) := by
  obtain ⟨-, -, ⟨wt, tv, -⟩⟩ := cg
  have t15 := wt.2.1.1
  have n60 := tv.1.2
  unfold FX8_hasCell
  cases hx : wi x G.2.2.2.2.2.2.2.2.1.1 with
  | false =>
    have nz := i_neg0 (by omega) hx
    by_cases c : x < 0
    · rw [if_pos c]; rfl
    · rw [if_neg c, gI_ok t15, tv.1.1, if_neg (fun z => nz ⟨c, z⟩)]; rfl
  | true =>
    obtain ⟨t, ht, rfl, ec⟩ := wi_ex (by omega) hx
    obtain ⟨v1, ⟨v2, v2'⟩, v3, -⟩ := tv.2 t ht
    rw [il_0 (by omega), gI_ok t15, tv.1.1, if_lt (by omega) (by omega), if_pos ht, ec, Bool.true_and, gR_ok t15, wt.2.1.2.2.1, aI_n wt.2.2.1.2.1 (by omega) (by decide), v2]
    cases hy : wi y (G.2.2.2.2.2.2.2.2.1.2.2.1 t) with
    | false =>
      have nz := i_neg0 (by omega) hy
      by_cases c : y < 0
      · rw [if_pos c]; rfl
      · rw [if_neg c, if_neg (fun z => nz ⟨c, z⟩)]; rfl
    | true =>
      obtain ⟨k, hk, rfl, -⟩ := wi_ex (by omega) hy
      rw [il_0 (by omega), if_lt (by omega) (by omega), if_pos hk]; rfl
theorem c_cell (cg : CG h o G) (x y : Int32) : FX11_cell (some o) x y h = some (s_cell G x y, h) := by
  have hc := c_has cg x y
  obtain ⟨-, ⟨⟨t0, ⟨r0, r1, r2, r3⟩, t52⟩, -⟩, ⟨wt, tv, -⟩⟩ := cg
  have t14 := wt.1.1
  have t15 := wt.2.1.1
  have n60 := tv.1.2
  unfold FX11_cell s_cell FX8_read
  rw [gR_ok t0, r2, gR_ok t14, wt.1.2.2.1, rcv_ok t15, hc, cl_ok, b2i_if, rcv_ok t15, rcv_ok t15, hc, cl_ok, b2i_if]
  cases hx : wi x G.2.2.2.2.2.2.2.2.1.1 with
  | false => rw [Bool.false_and, if_neg (by decide), if_neg (by decide)]
  | true =>
    obtain ⟨t, ht, rfl, ec⟩ := wi_ex (by omega) hx
    obtain ⟨v1, ⟨v2, v2'⟩, v3, v4⟩ := tv.2 t ht
    rw [ec, Bool.true_and, if_pos (show true = true from rfl)]
    cases hy : wi y (G.2.2.2.2.2.2.2.2.1.2.2.1 t) with
    | false => rw [if_neg (by decide), if_neg (by decide)]
    | true =>
      obtain ⟨k, hk, rfl, ek⟩ := wi_ex (by omega) hy
      rw [if_pos rfl, if_pos rfl, if_pos rfl, gR_ok t15, wt.2.1.2.2.2.2, nl_100, pk_mul, nI_add, aL_n wt.2.2.1.2.2.2 (by omega) (by decide), cl_ok, ek, Nat.mul_comm t 100, v4 k hk (fun z => z)]
theorem d_cell (mg : MG h q G) (x y : Int32) : FX12_cell (some q) x y h = some (s_cell G x y, h) := by
  obtain ⟨⟨lm, -⟩, -, ⟨mt, -⟩⟩ := mg
  obtain ⟨mt0, ⟨mr1, mt1⟩, ⟨mr2, mt2⟩, ⟨mr3, mt3⟩, ⟨mr4, mt4⟩, ⟨mr5, mt5⟩, ⟨mr6, mt6⟩, ⟨mr7, mt7⟩, ⟨mr8, mt8⟩, ⟨mr9, mt9⟩, ⟨mr10, mt10⟩, ⟨mr11, mt11⟩, ⟨mr12, mt12⟩, ⟨mr13, mt13⟩, ⟨mr14, mt14⟩, ⟨mr15, mt15⟩, ⟨mr16, mt16⟩, ⟨mr17, mt17⟩, ⟨mr18, mt18⟩, ⟨mr19, mt19⟩, ⟨mr20, mt20⟩, ⟨mr21, mt21⟩, ⟨mr22, mt22⟩, ⟨mr23, mt23⟩, ⟨mr24, mt24⟩, ⟨mr25, mt25⟩, ⟨mr26, mt26⟩, ⟨mr27, mt27⟩, ⟨mr28, mt28⟩, ⟨mr29, mt29⟩, ⟨mr30, mt30⟩, ⟨mr31, mt31⟩, ⟨mr32, mt32⟩, ⟨mr33, mt33⟩, ⟨mr34, mt34⟩, ⟨mr35, mt35⟩, ⟨mr36, mt36⟩, ⟨mr37, mt37⟩, ⟨mr38, mt38⟩, ⟨mr39, mt39⟩, ⟨mr40, mt40⟩, ⟨mr41, mt41⟩, ⟨mr42, mt42⟩, ⟨mr43, mt43⟩⟩ := id lm
  have n60 := mt.1.2.2
  unfold FX12_cell s_cell
  rw [gI_ok mt0, mt.1.1, in_n _ (by omega), cl_ok, b2i_if]
  cases hx : wi x G.2.2.2.2.2.2.2.2.1.1 with
  | false => rw [if_neg (by decide), if_neg (by decide)]
  | true =>
    obtain ⟨t, ht, rfl, ec⟩ := wi_ex (by omega) hx
    obtain ⟨v1, ⟨v2, v2'⟩, v3, v4, v5⟩ := mt.2 t ht
    rw [if_pos rfl, if_pos rfl, gR_ok mt0, mr34, aI_n mt34 (by omega) (by decide), v2, in_n _ (by omega), cl_ok, b2i_if, ec]
    cases hy : wi y (G.2.2.2.2.2.2.2.2.1.2.2.1 t) with
    | false => rw [if_neg (by decide), if_neg (by decide)]
    | true =>
      obtain ⟨k, hk, rfl, ek⟩ := wi_ex (by omega) hy
      have hb := off_b (T := G.2.2.2.2.2.2.2.2.1) (n := t) (fun x hx => (mt.2 x (by omega)).2.1.2)
      rw [if_pos rfl, if_pos rfl, gR_ok mt0, mr37, gR_ok mt0, mr36, aI_n mt36 (by omega) (by decide), v4, nI_add, aL_n mt37 (by omega) (by decide), v5 k hk, ek]
end GU
