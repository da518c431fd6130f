/-! a handler is added: the model -/
section GI4
variable {h g : Hp} {o q : Nat} {G : Gs}
theorem hd_pre {a b c d : Int32} (K : Hp → Option (Int32 × Hp)) : (cl (FX12_in (Int32.toInt64 b) 0 60 h) fun v8 h9 => if v8 = 0 then some (-2, h9) else cl (FX12_in (Int32.toInt64 a) 0 (Int32.toInt64 b) h9) fun v12 h13 => if v12 = 0 then some (-2, h13) else cl (FX12_in (Int32.toInt64 c) 0 59 h13) fun v16 h17 => if v16 = 0 then some (-2, h17) else cl (FX12_in (Int32.toInt64 d) (-1) 15 h17) fun v20 h21 => if v20 = 0 then some (-2, h21) else K h21) = if okh a b c d = true then K h else some (-2, h) := by
  rw [in_60, cl_ok, b2i_if]
  cases h1 : wi b 61 with
  | false =>
    have := of_decide_eq_false h1
    rw [if_neg (by decide), if_neg (okh_no (by omega))]
  | true =>
    have w1 := of_decide_eq_true h1
    rw [if_pos rfl, f_in, cl_ok, i64_of32, i64_of32, i64_0]
    by_cases h2 : 0 ≤ a.toInt ∧ a.toInt ≤ b.toInt
    · rw [if_pos h2, if_neg (show ¬ (1 : Int32) = 0 by decide), in_59, cl_ok, b2i_if]
      cases h3 : wi c 60 with
      | false =>
        have := of_decide_eq_false h3
        rw [if_neg (by decide), if_neg (okh_no (by omega))]
      | true =>
        have w3 := of_decide_eq_true h3
        rw [if_pos rfl, f_in, cl_ok, i64_of32, show (-1 : Int64).toInt = -1 from by decide, show (15 : Int64).toInt = 15 from by decide]
        by_cases h4 : -1 ≤ d.toInt ∧ d.toInt ≤ 15
        · rw [if_pos h4, if_neg (show ¬ (1 : Int32) = 0 by decide), if_pos (show okh a b c d = true from decide_eq_true (by omega))]
        · rw [if_neg h4, if_pos rfl, if_neg (okh_no (by omega))]
    · rw [if_neg h2, if_pos rfl, if_neg (okh_no (by omega))]
theorem d_han (gi : GI G) (mg : MG h q G) (x a b c d : Int32) : Ok (FX12_handler (some q) x a b c d h) (DQ q h (s_han G x a b c d)) := by
  have lm := mg.1.1
  have pm := mg.1.2.1
  have hnm := gi.1.1
  have frr : Fr (AMd q) h h := ⟨rfl, rfl, rfl, fun _ _ => ⟨rfl, rfl⟩⟩
  obtain ⟨mt0, ⟨mr1, mt1⟩, ⟨mr2, mt2⟩, ⟨mr3, mt3⟩, ⟨mr4, mt4⟩, ⟨mr5, mt5⟩, ⟨mr6, mt6⟩, ⟨mr7, mt7⟩, ⟨mr8, mt8⟩, ⟨mr9, mt9⟩, ⟨mr10, mt10⟩, ⟨mr11, mt11⟩, ⟨mr12, mt12⟩, ⟨mr13, mt13⟩, ⟨mr14, mt14⟩, ⟨mr15, mt15⟩, ⟨mr16, mt16⟩, ⟨mr17, mt17⟩, ⟨mr18, mt18⟩, ⟨mr19, mt19⟩, ⟨mr20, mt20⟩, ⟨mr21, mt21⟩, ⟨mr22, mt22⟩, ⟨mr23, mt23⟩, ⟨mr24, mt24⟩, ⟨mr25, mt25⟩, ⟨mr26, mt26⟩, ⟨mr27, mt27⟩, ⟨mr28, mt28⟩, ⟨mr29, mt29⟩, ⟨mr30, mt30⟩, ⟨mr31, mt31⟩, ⟨mr32, mt32⟩, ⟨mr33, mt33⟩, ⟨mr34, mt34⟩, ⟨mr35, mt35⟩, ⟨mr36, mt36⟩, ⟨mr37, mt37⟩, ⟨mr38, mt38⟩, ⟨mr39, mt39⟩, ⟨mr40, mt40⟩, ⟨mr41, mt41⟩, ⟨mr42, mt42⟩, ⟨mr43, mt43⟩⟩ := id lm
  unfold FX12_handler s_han
  rw [rcv_ok mt0, f_isM lm pm gi.1, cl_ok, b2i_if]
  cases hx : wi x (p_nm G.1) with
  | false =>
    rw [if_neg (by decide), if_neg (by decide)]
    exact ok_some ⟨rfl, mg, frr⟩
  | true =>
    obtain ⟨m, hm, rfl, ec⟩ := wi_ex (by omega) hx
    have wm := gi.1.2.2.2.1 m hm
    have hnh := wm.2.2.2.2.1
    have vm := pm.2.1 m hm
    rw [if_pos rfl, if_pos rfl, ec, hd_pre]
    by_cases z : okh a b c d = true
    · rw [if_pos z, if_pos z]
      obtain ⟨u, v, w, ⟨h1, h2, h3⟩, ⟨rfl, rfl, rfl⟩, ⟨c1, c2, c3⟩, hd⟩ := okh_ex z
      rw [gR_ok mt0, mr9, aI_n mt9 (by omega) (by decide), vm.1.2.2.2.2, nl_6, if_eq (by omega) (by decide)]
      by_cases y : p_nh G.1 m = 6
      · rw [if_pos y, if_pos y]
        exact ok_some ⟨rfl, mg, frr⟩
      · rw [if_neg y, if_neg y, rcv_ok mt0, c1, c2, c3]
        refine ok_cl (d_change gi mg) (fun _ h1 z => ?_)
        obtain ⟨m1, z1, z2, z3⟩ := z
        have l1 := m1.1.1
        have v1 : PMm h1 q G.1 m := m1.1.2.1.2.1 m hm
        have lm := l1
        obtain ⟨mt0, ⟨mr1, mt1⟩, ⟨mr2, mt2⟩, ⟨mr3, mt3⟩, ⟨mr4, mt4⟩, ⟨mr5, mt5⟩, ⟨mr6, mt6⟩, ⟨mr7, mt7⟩, ⟨mr8, mt8⟩, ⟨mr9, mt9⟩, ⟨mr10, mt10⟩, ⟨mr11, mt11⟩, ⟨mr12, mt12⟩, ⟨mr13, mt13⟩, ⟨mr14, mt14⟩, ⟨mr15, mt15⟩, ⟨mr16, mt16⟩, ⟨mr17, mt17⟩, ⟨mr18, mt18⟩, ⟨mr19, mt19⟩, ⟨mr20, mt20⟩, ⟨mr21, mt21⟩, ⟨mr22, mt22⟩, ⟨mr23, mt23⟩, ⟨mr24, mt24⟩, ⟨mr25, mt25⟩, ⟨mr26, mt26⟩, ⟨mr27, mt27⟩, ⟨mr28, mt28⟩, ⟨mr29, mt29⟩, ⟨mr30, mt30⟩, ⟨mr31, mt31⟩, ⟨mr32, mt32⟩, ⟨mr33, mt33⟩, ⟨mr34, mt34⟩, ⟨mr35, mt35⟩, ⟨mr36, mt36⟩, ⟨mr37, mt37⟩, ⟨mr38, mt38⟩, ⟨mr39, mt39⟩, ⟨mr40, mt40⟩, ⟨mr41, mt41⟩, ⟨mr42, mt42⟩, ⟨mr43, mt43⟩⟩ := id lm
        have n9 : hI h1 (q + 9) m = nI (p_nh G.1 m) := v1.1.2.2.2.2
        have n9' : hI (wI (wI (wI (wI h1 (q + 10) (6 * m + p_nh G.1 m) (nI u)) (q + 11) (6 * m + p_nh G.1 m) (nI v)) (q + 12) (6 * m + p_nh G.1 m) (nI w)) (q + 13) (6 * m + p_nh G.1 m) d) (q + 9) m = nI (p_nh G.1 m) := by rw [hI_wI_a (by omega), hI_wI_a (by omega), hI_wI_a (by omega), hI_wI_a (by omega)]; exact n9
        have n9'' : hI (wI (wI (wI (wI (wI h1 (q + 10) (6 * m + p_nh G.1 m) (nI u)) (q + 11) (6 * m + p_nh G.1 m) (nI v)) (q + 12) (6 * m + p_nh G.1 m) (nI w)) (q + 13) (6 * m + p_nh G.1 m) d) (q + 9) m (nI (p_nh G.1 m + 1))) (q + 9) m = nI (p_nh G.1 m + 1) := hI_wI_s
        rw [gR_ok mt0, mr9, aI_n mt9 (by omega) (by decide), n9, gR_ok mt0, mr10, pk_mul, nI_add, sI_n mt10 (by omega) (by decide), gR_ok (show hT (wI h1 (q + 10) (6 * m + p_nh G.1 m) (nI u)) q = _ from mt0), show hR (wI h1 (q + 10) (6 * m + p_nh G.1 m) (nI u)) q 11 = _ from mr11, sI_n (show hT (wI h1 (q + 10) (6 * m + p_nh G.1 m) (nI u)) (q + 11) = _ from mt11) (by omega) (by decide), gR_ok (show hT (wI (wI h1 (q + 10) (6 * m + p_nh G.1 m) (nI u)) (q + 11) (6 * m + p_nh G.1 m) (nI v)) q = _ from mt0), show hR (wI (wI h1 (q + 10) (6 * m + p_nh G.1 m) (nI u)) (q + 11) (6 * m + p_nh G.1 m) (nI v)) q 12 = _ from mr12, sI_n (show hT (wI (wI h1 (q + 10) (6 * m + p_nh G.1 m) (nI u)) (q + 11) (6 * m + p_nh G.1 m) (nI v)) (q + 12) = _ from mt12) (by omega) (by decide), gR_ok (show hT (wI (wI (wI h1 (q + 10) (6 * m + p_nh G.1 m) (nI u)) (q + 11) (6 * m + p_nh G.1 m) (nI v)) (q + 12) (6 * m + p_nh G.1 m) (nI w)) q = _ from mt0), show hR (wI (wI (wI h1 (q + 10) (6 * m + p_nh G.1 m) (nI u)) (q + 11) (6 * m + p_nh G.1 m) (nI v)) (q + 12) (6 * m + p_nh G.1 m) (nI w)) q 13 = _ from mr13, sI_n (show hT (wI (wI (wI h1 (q + 10) (6 * m + p_nh G.1 m) (nI u)) (q + 11) (6 * m + p_nh G.1 m) (nI v)) (q + 12) (6 * m + p_nh G.1 m) (nI w)) (q + 13) = _ from mt13) (by omega) (by decide), gR_ok (show hT (wI (wI (wI (wI h1 (q + 10) (6 * m + p_nh G.1 m) (nI u)) (q + 11) (6 * m + p_nh G.1 m) (nI v)) (q + 12) (6 * m + p_nh G.1 m) (nI w)) (q + 13) (6 * m + p_nh G.1 m) d) q = _ from mt0), show hR (wI (wI (wI (wI h1 (q + 10) (6 * m + p_nh G.1 m) (nI u)) (q + 11) (6 * m + p_nh G.1 m) (nI v)) (q + 12) (6 * m + p_nh G.1 m) (nI w)) (q + 13) (6 * m + p_nh G.1 m) d) q 9 = _ from mr9, aI_n (show hT (wI (wI (wI (wI h1 (q + 10) (6 * m + p_nh G.1 m) (nI u)) (q + 11) (6 * m + p_nh G.1 m) (nI v)) (q + 12) (6 * m + p_nh G.1 m) (nI w)) (q + 13) (6 * m + p_nh G.1 m) d) (q + 9) = _ from mt9) (by omega) (by decide), n9', nI_1, sI_n (show hT (wI (wI (wI (wI h1 (q + 10) (6 * m + p_nh G.1 m) (nI u)) (q + 11) (6 * m + p_nh G.1 m) (nI v)) (q + 12) (6 * m + p_nh G.1 m) (nI w)) (q + 13) (6 * m + p_nh G.1 m) d) (q + 9) = _ from mt9) (by omega) (by decide), gR_ok (show hT (wI (wI (wI (wI (wI h1 (q + 10) (6 * m + p_nh G.1 m) (nI u)) (q + 11) (6 * m + p_nh G.1 m) (nI v)) (q + 12) (6 * m + p_nh G.1 m) (nI w)) (q + 13) (6 * m + p_nh G.1 m) d) (q + 9) m (nI (p_nh G.1 m + 1))) q = _ from mt0), show hR (wI (wI (wI (wI (wI h1 (q + 10) (6 * m + p_nh G.1 m) (nI u)) (q + 11) (6 * m + p_nh G.1 m) (nI v)) (q + 12) (6 * m + p_nh G.1 m) (nI w)) (q + 13) (6 * m + p_nh G.1 m) d) (q + 9) m (nI (p_nh G.1 m + 1))) q 9 = _ from mr9, aI_n (show hT (wI (wI (wI (wI (wI h1 (q + 10) (6 * m + p_nh G.1 m) (nI u)) (q + 11) (6 * m + p_nh G.1 m) (nI v)) (q + 12) (6 * m + p_nh G.1 m) (nI w)) (q + 13) (6 * m + p_nh G.1 m) d) (q + 9) m (nI (p_nh G.1 m + 1))) (q + 9) = _ from mt9) (by omega) (by decide), n9'']
        have f2 : Fm q F40 (fun b => q + 9 ≤ b ∧ b ≤ q + 13) h1 (wI (wI (wI (wI (wI h1 (q + 10) (6 * m + p_nh G.1 m) (nI u)) (q + 11) (6 * m + p_nh G.1 m) (nI v)) (q + 12) (6 * m + p_nh G.1 m) (nI w)) (q + 13) (6 * m + p_nh G.1 m) d) (q + 9) m (nI (p_nh G.1 m + 1))) := (((((Fm.wa (q := q) (F := F40) (A := fun b => q + 9 ≤ b ∧ b ≤ q + 13) ⟨by omega, by omega⟩ (by omega)).trans (Fm.wa (q := q) (F := F40) (A := fun b => q + 9 ≤ b ∧ b ≤ q + 13) ⟨by omega, by omega⟩ (by omega))).trans (Fm.wa (q := q) (F := F40) (A := fun b => q + 9 ≤ b ∧ b ≤ q + 13) ⟨by omega, by omega⟩ (by omega))).trans (Fm.wa (q := q) (F := F40) (A := fun b => q + 9 ≤ b ∧ b ≤ q + 13) ⟨by omega, by omega⟩ (by omega))).trans (Fm.wa (q := q) (F := F40) (A := fun b => q + 9 ≤ b ∧ b ≤ q + 13) ⟨by omega, by omega⟩ (by omega)))
        have e9 : ∀ j, hI (wI (wI (wI (wI (wI h1 (q + 10) (6 * m + p_nh G.1 m) (nI u)) (q + 11) (6 * m + p_nh G.1 m) (nI v)) (q + 12) (6 * m + p_nh G.1 m) (nI w)) (q + 13) (6 * m + p_nh G.1 m) d) (q + 9) m (nI (p_nh G.1 m + 1))) (q + 9) j = if j = m then nI (p_nh G.1 m + 1) else hI h1 (q + 9) j := fun j => by
          by_cases z : j = m
          · rw [if_pos z, z]; exact hI_wI_s
          · rw [if_neg z, hI_wI_k z, hI_wI_a (by omega), hI_wI_a (by omega), hI_wI_a (by omega), hI_wI_a (by omega)]
        have e10 : ∀ j, hI (wI (wI (wI (wI (wI h1 (q + 10) (6 * m + p_nh G.1 m) (nI u)) (q + 11) (6 * m + p_nh G.1 m) (nI v)) (q + 12) (6 * m + p_nh G.1 m) (nI w)) (q + 13) (6 * m + p_nh G.1 m) d) (q + 9) m (nI (p_nh G.1 m + 1))) (q + 10) j = if j = (6 * m + p_nh G.1 m) then (nI u) else hI h1 (q + 10) j := fun j => by
          rw [hI_wI_a (by omega), hI_wI_a (by omega), hI_wI_a (by omega), hI_wI_a (by omega)]
          by_cases z : j = (6 * m + p_nh G.1 m)
          · rw [if_pos z, z]; exact hI_wI_s
          · rw [if_neg z, hI_wI_k z]
        have e11 : ∀ j, hI (wI (wI (wI (wI (wI h1 (q + 10) (6 * m + p_nh G.1 m) (nI u)) (q + 11) (6 * m + p_nh G.1 m) (nI v)) (q + 12) (6 * m + p_nh G.1 m) (nI w)) (q + 13) (6 * m + p_nh G.1 m) d) (q + 9) m (nI (p_nh G.1 m + 1))) (q + 11) j = if j = (6 * m + p_nh G.1 m) then (nI v) else hI h1 (q + 11) j := fun j => by
          rw [hI_wI_a (by omega), hI_wI_a (by omega), hI_wI_a (by omega)]
          by_cases z : j = (6 * m + p_nh G.1 m)
          · rw [if_pos z, z]; exact hI_wI_s
          · rw [if_neg z, hI_wI_k z, hI_wI_a (by omega)]
        have e12 : ∀ j, hI (wI (wI (wI (wI (wI h1 (q + 10) (6 * m + p_nh G.1 m) (nI u)) (q + 11) (6 * m + p_nh G.1 m) (nI v)) (q + 12) (6 * m + p_nh G.1 m) (nI w)) (q + 13) (6 * m + p_nh G.1 m) d) (q + 9) m (nI (p_nh G.1 m + 1))) (q + 12) j = if j = (6 * m + p_nh G.1 m) then (nI w) else hI h1 (q + 12) j := fun j => by
          rw [hI_wI_a (by omega), hI_wI_a (by omega)]
          by_cases z : j = (6 * m + p_nh G.1 m)
          · rw [if_pos z, z]; exact hI_wI_s
          · rw [if_neg z, hI_wI_k z, hI_wI_a (by omega), hI_wI_a (by omega)]
        have e13 : ∀ j, hI (wI (wI (wI (wI (wI h1 (q + 10) (6 * m + p_nh G.1 m) (nI u)) (q + 11) (6 * m + p_nh G.1 m) (nI v)) (q + 12) (6 * m + p_nh G.1 m) (nI w)) (q + 13) (6 * m + p_nh G.1 m) d) (q + 9) m (nI (p_nh G.1 m + 1))) (q + 13) j = if j = (6 * m + p_nh G.1 m) then d else hI h1 (q + 13) j := fun j => by
          rw [hI_wI_a (by omega)]
          by_cases z : j = (6 * m + p_nh G.1 m)
          · rw [if_pos z, z]; exact hI_wI_s
          · rw [if_neg z, hI_wI_k z, hI_wI_a (by omega), hI_wI_a (by omega), hI_wI_a (by omega)]
        generalize wI (wI (wI (wI (wI h1 (q + 10) (6 * m + p_nh G.1 m) (nI u)) (q + 11) (6 * m + p_nh G.1 m) (nI v)) (q + 12) (6 * m + p_nh G.1 m) (nI w)) (q + 13) (6 * m + p_nh G.1 m) d) (q + 9) m (nI (p_nh G.1 m + 1)) = g at f2 e9 e10 e11 e12 e13 ⊢
        have eb : ∀ b, b ≤ 8 → b ≠ 0 → hI g (q + b) = hI h1 (q + b) := fun b h1 h2 => (f2.2.2.2.1 (q + b) (by omega) (by omega)).1
        have mm : PMm g q (pgH G.1 m u v w d) m := by
          obtain ⟨⟨v1, v2, v3, v4, v5⟩, v6, v7, v8⟩ := v1
          refine ⟨⟨by rw [eb 1 (by omega) (by omega)]; exact v1, by rw [eb 2 (by omega) (by omega)]; exact v2, by rw [eb 3 (by omega) (by omega)]; exact v3, by rw [eb 5 (by omega) (by omega)]; exact v4, by rw [e9, if_pos rfl, pH_nh]⟩, fun j hj => by rw [eb 4 (by omega) (by omega)]; exact v6 j hj, fun y hy => by rw [eb 6 (by omega) (by omega), eb 7 (by omega) (by omega), eb 8 (by omega) (by omega)]; exact v7 y hy, fun j hj => ?_⟩
          rw [pH_nh] at hj
          obtain ⟨k1, k2, k3, k4⟩ := pH_k (P := G.1) (m := m) (a := u) (b := v) (c := w) (d := d) j
          rw [e10, e11, e12, e13, k1, k2, k3, k4]
          by_cases z : j = p_nh G.1 m
          · subst z
            rw [if_pos rfl, if_pos rfl, if_pos rfl, if_pos rfl, if_pos rfl, if_pos rfl, if_pos rfl, if_pos rfl]; exact ⟨rfl, rfl, rfl, rfl⟩
          · have z' : ¬ 6 * m + j = 6 * m + p_nh G.1 m := by omega
            rw [if_neg z', if_neg z', if_neg z', if_neg z', if_neg z, if_neg z, if_neg z, if_neg z]; exact v8 j (by omega)
        have f5 : Fr5 q m h1 g := fun m' hm' => ⟨fun b hb => by
          by_cases b9 : b = 9
          · subst b9; rw [e9, if_neg hm']
          · rw [eb b (by omega) (by omega)], fun j hj => by rw [eb 4 (by omega) (by omega)], fun b y h1 h2 hy => by rw [eb b (by omega) (by omega)], fun b j h1 h2 hj => by
          rcases (show b = 10 ∨ b = 11 ∨ b = 12 ∨ b = 13 by omega) with rfl | rfl | rfl | rfl
          · rw [e10, if_neg (by omega)]
          · rw [e11, if_neg (by omega)]
          · rw [e12, if_neg (by omega)]
          · rw [e13, if_neg (by omega)]⟩
        have pm2 : PM g q (pgH G.1 m u v w d) := pm_row gi.1 m1.1.2.1 hm eqm_H f2 (fun b z => by omega) f5 mm
        have i14 : hI g (q + 14) = hI h1 (q + 14) := (f2.2.2.2.1 (q + 14) (by omega) (by omega)).1
        have i22 : hI g (q + 22) = hI h1 (q + 22) := (f2.2.2.2.1 (q + 22) (by omega) (by omega)).1
        have m2 : MG g q (fgt (fgt G G.1) (pgH G.1 m u v w d)) := m1.pg f2 (fun k z => z.elim) (fun b z => by omega) (fun j hj => by rw [i14]; exact z1 j (by have hj : j < p_nm G.1 := hj; omega)) (fun i hi => by rw [i22]; exact z2 i hi) pm2 hnm
        exact ok_some ⟨rfl, m2, (z3.fr (fun b z => by omega)).trans (f2.fr (fun b z => by omega))⟩
    · rw [if_neg z, if_neg z]
      exact ok_some ⟨rfl, mg, frr⟩
end GI4
