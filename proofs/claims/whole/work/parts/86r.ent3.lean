/-! an entry is added: the model -/
section GE3
variable {h g : Hp} {o q : Nat} {G : Gs} {P : Pg} {t : Nat}
theorem de_core (gi : GI G) (mg : MG h q G) {t j : Nat} (ht : t < p_nt G.1) (k : Int32) (b : Bool) (hb : b = mayf G.1 t k) : Ok (BX12_entry_101 (some q) (nI t) k (nI j) (nI (p_ne G.1 t)) (b2i b) h) (DQ q h (if mayf G.1 t k = true then (if p_ne G.1 t = 8 then (-4, G) else (nI (p_ne G.1 t + 1), fgt G (pgE G.1 t j k))) else (-3, G))) := by
  have lm := mg.1.1
  have pm := mg.1.2.1
  have hnt := gi.1.2.2.1
  have hnm := gi.1.1
  have frr : Fr (AMd q) h h := ⟨rfl, rfl, rfl, fun _ _ => ⟨rfl, rfl⟩⟩
  have wt := gi.1.2.2.2.2 t ht
  have hne := wt.2.1
  have mt0 := lm.1
  unfold BX12_entry_101
  rw [b2i_if, hb]
  by_cases c : mayf G.1 t k = true
  · rw [if_pos c, if_pos c, nl_8, if_eq (by omega) (by decide)]
    by_cases c8 : p_ne G.1 t = 8
    · rw [if_pos c8, if_pos c8]
      exact ok_some ⟨rfl, mg, frr⟩
    · rw [if_neg c8, if_neg c8, rcv_ok mt0]
      refine ok_cl (d_change gi mg) (fun _ h1 z => ?_)
      obtain ⟨m1, z1, z2, z3⟩ := z
      have l1 := m1.1.1
      have v1 : PMt h1 q G.1 t := m1.1.2.1.2.2.1 t ht
      have lm := l1
      obtain ⟨mt0, ⟨mr1, mt1⟩, ⟨mr2, mt2⟩, ⟨mr3, mt3⟩, ⟨mr4, mt4⟩, ⟨mr5, mt5⟩, ⟨mr6, mt6⟩, ⟨mr7, mt7⟩, ⟨mr8, mt8⟩, ⟨mr9, mt9⟩, ⟨mr10, mt10⟩, ⟨mr11, mt11⟩, ⟨mr12, mt12⟩, ⟨mr13, mt13⟩, ⟨mr14, mt14⟩, ⟨mr15, mt15⟩, ⟨mr16, mt16⟩, ⟨mr17, mt17⟩, ⟨mr18, mt18⟩, ⟨mr19, mt19⟩, ⟨mr20, mt20⟩, ⟨mr21, mt21⟩, ⟨mr22, mt22⟩, ⟨mr23, mt23⟩, ⟨mr24, mt24⟩, ⟨mr25, mt25⟩, ⟨mr26, mt26⟩, ⟨mr27, mt27⟩, ⟨mr28, mt28⟩, ⟨mr29, mt29⟩, ⟨mr30, mt30⟩, ⟨mr31, mt31⟩, ⟨mr32, mt32⟩, ⟨mr33, mt33⟩, ⟨mr34, mt34⟩, ⟨mr35, mt35⟩, ⟨mr36, mt36⟩, ⟨mr37, mt37⟩, ⟨mr38, mt38⟩, ⟨mr39, mt39⟩, ⟨mr40, mt40⟩, ⟨mr41, mt41⟩, ⟨mr42, mt42⟩, ⟨mr43, mt43⟩⟩ := id lm
      have n5 : hI h1 (q + 19) t = nI (p_ne G.1 t) := v1.1.2.2.2
      have n5' : hI (wI (wI h1 (q + 20) (8 * t + p_ne G.1 t) k) (q + 21) (8 * t + p_ne G.1 t) (nI j)) (q + 19) t = nI (p_ne G.1 t) := by rw [hI_wI_a (by omega), hI_wI_a (by omega)]; exact n5
      have n5'' : hI (wI (wI (wI h1 (q + 20) (8 * t + p_ne G.1 t) k) (q + 21) (8 * t + p_ne G.1 t) (nI j)) (q + 19) t (nI (p_ne G.1 t + 1))) (q + 19) t = nI (p_ne G.1 t + 1) := hI_wI_s
      rw [gR_ok mt0, mr20, pk_mul, nI_add, sI_n mt20 (by omega) (by decide), gR_ok (show hT (wI h1 (q + 20) (8 * t + p_ne G.1 t) k) q = _ from mt0), show hR (wI h1 (q + 20) (8 * t + p_ne G.1 t) k) q 23 = _ from mr21, sI_n (show hT (wI h1 (q + 20) (8 * t + p_ne G.1 t) k) (q + 21) = _ from mt21) (by omega) (by decide), gR_ok (show hT (wI (wI h1 (q + 20) (8 * t + p_ne G.1 t) k) (q + 21) (8 * t + p_ne G.1 t) (nI j)) q = _ from mt0), show hR (wI (wI h1 (q + 20) (8 * t + p_ne G.1 t) k) (q + 21) (8 * t + p_ne G.1 t) (nI j)) q 21 = _ from mr19, aI_n (show hT (wI (wI h1 (q + 20) (8 * t + p_ne G.1 t) k) (q + 21) (8 * t + p_ne G.1 t) (nI j)) (q + 19) = _ from mt19) (by omega) (by decide), n5', nI_1, sI_n (show hT (wI (wI h1 (q + 20) (8 * t + p_ne G.1 t) k) (q + 21) (8 * t + p_ne G.1 t) (nI j)) (q + 19) = _ from mt19) (by omega) (by decide), gR_ok (show hT (wI (wI (wI h1 (q + 20) (8 * t + p_ne G.1 t) k) (q + 21) (8 * t + p_ne G.1 t) (nI j)) (q + 19) t (nI (p_ne G.1 t + 1))) q = _ from mt0), show hR (wI (wI (wI h1 (q + 20) (8 * t + p_ne G.1 t) k) (q + 21) (8 * t + p_ne G.1 t) (nI j)) (q + 19) t (nI (p_ne G.1 t + 1))) q 21 = _ from mr19, aI_n (show hT (wI (wI (wI h1 (q + 20) (8 * t + p_ne G.1 t) k) (q + 21) (8 * t + p_ne G.1 t) (nI j)) (q + 19) t (nI (p_ne G.1 t + 1))) (q + 19) = _ from mt19) (by omega) (by decide), n5'']
      have f2 : Fm q F40 (fun b => q + 19 ≤ b ∧ b ≤ q + 21) h1 (wI (wI (wI h1 (q + 20) (8 * t + p_ne G.1 t) k) (q + 21) (8 * t + p_ne G.1 t) (nI j)) (q + 19) t (nI (p_ne G.1 t + 1))) := ((Fm.wa (q := q) (F := F40) (A := fun b => q + 19 ≤ b ∧ b ≤ q + 21) ⟨by omega, by omega⟩ (by omega)).trans (Fm.wa (q := q) (F := F40) (A := fun b => q + 19 ≤ b ∧ b ≤ q + 21) ⟨by omega, by omega⟩ (by omega))).trans (Fm.wa (q := q) (F := F40) (A := fun b => q + 19 ≤ b ∧ b ≤ q + 21) ⟨by omega, by omega⟩ (by omega))
      have e19 : ∀ i, hI (wI (wI (wI h1 (q + 20) (8 * t + p_ne G.1 t) k) (q + 21) (8 * t + p_ne G.1 t) (nI j)) (q + 19) t (nI (p_ne G.1 t + 1))) (q + 19) i = if i = t then nI (p_ne G.1 t + 1) else hI h1 (q + 19) i := fun i => by
        by_cases z : i = t
        · rw [if_pos z, z]; exact hI_wI_s
        · rw [if_neg z, hI_wI_k z, hI_wI_a (by omega), hI_wI_a (by omega)]
      have e21 : ∀ i, hI (wI (wI (wI h1 (q + 20) (8 * t + p_ne G.1 t) k) (q + 21) (8 * t + p_ne G.1 t) (nI j)) (q + 19) t (nI (p_ne G.1 t + 1))) (q + 21) i = if i = 8 * t + p_ne G.1 t then nI j else hI h1 (q + 21) i := fun i => by
        rw [hI_wI_a (by omega)]
        by_cases z : i = 8 * t + p_ne G.1 t
        · rw [if_pos z, z]; exact hI_wI_s
        · rw [if_neg z, hI_wI_k z, hI_wI_a (by omega)]
      have e20 : ∀ i, hI (wI (wI (wI h1 (q + 20) (8 * t + p_ne G.1 t) k) (q + 21) (8 * t + p_ne G.1 t) (nI j)) (q + 19) t (nI (p_ne G.1 t + 1))) (q + 20) i = if i = 8 * t + p_ne G.1 t then k else hI h1 (q + 20) i := fun i => by
        rw [hI_wI_a (by omega), hI_wI_a (by omega)]
        by_cases z : i = 8 * t + p_ne G.1 t
        · rw [if_pos z, z]; exact hI_wI_s
        · rw [if_neg z, hI_wI_k z]
      generalize wI (wI (wI h1 (q + 20) (8 * t + p_ne G.1 t) k) (q + 21) (8 * t + p_ne G.1 t) (nI j)) (q + 19) t (nI (p_ne G.1 t + 1)) = g at f2 e19 e20 e21 ⊢
      have eb : ∀ b, b ≤ 18 → b ≠ 0 → hI g (q + b) = hI h1 (q + b) := fun b h1 h2 => (f2.2.2.2.1 (q + b) (by omega) (by omega)).1
      have mm : PMt g q (pgE G.1 t j k) t := by
        obtain ⟨⟨v1, v2, v3, v4⟩, v5⟩ := v1
        refine ⟨⟨by rw [eb 16 (by omega) (by omega)]; exact v1, by rw [eb 17 (by omega) (by omega)]; exact v2, by rw [eb 18 (by omega) (by omega)]; exact v3, by rw [e19, if_pos rfl, pE_ne]⟩, fun i hi => ?_⟩
        rw [pE_ne] at hi
        rw [e20, e21, (pE_k i).1, (pE_k i).2]
        by_cases z : i = p_ne G.1 t
        · have z' : 8 * t + i = 8 * t + p_ne G.1 t := by omega
          rw [if_pos z', if_pos z', if_pos z, if_pos z]; exact ⟨rfl, rfl⟩
        · have z' : ¬ 8 * t + i = 8 * t + p_ne G.1 t := by omega
          rw [if_neg z', if_neg z', if_neg z, if_neg z]; exact v5 i (by omega)
      have f5 : Ft5 q t h1 g := fun t' ht' => ⟨fun b b1 b2 => by
        by_cases b9 : b = 19
        · subst b9; rw [e19, if_neg ht']
        · rw [eb b (by omega) (by omega)], fun b x hb hx => by
        rcases hb with rfl | rfl
        · rw [e20, if_neg (by omega)]
        · rw [e21, if_neg (by omega)]⟩
      have pm2 : PM g q (pgE G.1 t j k) := pmT_row gi.1 m1.1.2.1 ht eqt_E f2 (fun b z => by omega) f5 mm
      have i14 : hI g (q + 14) = hI h1 (q + 14) := (f2.2.2.2.1 (q + 14) (by omega) (by omega)).1
      have i22 : hI g (q + 22) = hI h1 (q + 22) := (f2.2.2.2.1 (q + 22) (by omega) (by omega)).1
      have m2 : MG g q (fgt (fgt G G.1) (pgE G.1 t j k)) := m1.pg f2 (fun k z => z.elim) (fun b z => by omega) (fun j hj => by rw [i14]; exact z1 j (by have hj : j < p_nm G.1 := hj; omega)) (fun i hi => by rw [i22]; exact z2 i hi) pm2 hnm
      exact ok_some ⟨rfl, m2, (z3.fr (fun b z => by omega)).trans (f2.fr (fun b z => by omega))⟩
  · rw [if_neg c, if_neg c]
    exact ok_some ⟨rfl, mg, frr⟩
theorem d_ent (gi : GI G) (mg : MG h q G) (x k v : Int32) : Ok (FX12_entry (some q) x k v h) (DQ q h (s_ent G x k v)) := by
  have lm := mg.1.1
  have pm := mg.1.2.1
  have hnt := gi.1.2.2.1
  have frr : Fr (AMd q) h h := ⟨rfl, rfl, rfl, fun _ _ => ⟨rfl, rfl⟩⟩
  obtain ⟨mt0, ⟨mr1, mt1⟩, ⟨mr2, mt2⟩, ⟨mr3, mt3⟩, ⟨mr4, mt4⟩, ⟨mr5, mt5⟩, ⟨mr6, mt6⟩, ⟨mr7, mt7⟩, ⟨mr8, mt8⟩, ⟨mr9, mt9⟩, ⟨mr10, mt10⟩, ⟨mr11, mt11⟩, ⟨mr12, mt12⟩, ⟨mr13, mt13⟩, ⟨mr14, mt14⟩, ⟨mr15, mt15⟩, ⟨mr16, mt16⟩, ⟨mr17, mt17⟩, ⟨mr18, mt18⟩, ⟨mr19, mt19⟩, ⟨mr20, mt20⟩, ⟨mr21, mt21⟩, ⟨mr22, mt22⟩, ⟨mr23, mt23⟩, ⟨mr24, mt24⟩, ⟨mr25, mt25⟩, ⟨mr26, mt26⟩, ⟨mr27, mt27⟩, ⟨mr28, mt28⟩, ⟨mr29, mt29⟩, ⟨mr30, mt30⟩, ⟨mr31, mt31⟩, ⟨mr32, mt32⟩, ⟨mr33, mt33⟩, ⟨mr34, mt34⟩, ⟨mr35, mt35⟩, ⟨mr36, mt36⟩, ⟨mr37, mt37⟩, ⟨mr38, mt38⟩, ⟨mr39, mt39⟩, ⟨mr40, mt40⟩, ⟨mr41, mt41⟩, ⟨mr42, mt42⟩, ⟨mr43, mt43⟩⟩ := id lm
  unfold FX12_entry s_ent
  rw [gI_ok mt0, pm.1.2.2, in_n _ (by omega), cl_ok, b2i_if]
  cases hx : wi x (p_nt G.1) with
  | false =>
    rw [if_neg (by decide), if_neg (by decide)]
    exact ok_some ⟨rfl, mg, frr⟩
  | true =>
    obtain ⟨t, ht, rfl, ec⟩ := wi_ex (by omega) hx
    have wt := gi.1.2.2.2.2 t ht
    have hne := wt.2.1
    have hsp := wt.2.2.1
    have vm := pm.2.2.1 t ht
    rw [if_pos rfl, if_pos rfl, ec, in_59, cl_ok, b2i_if]
    cases hv : wi v 60 with
    | false =>
      rw [if_neg (by decide), if_neg (by decide)]
      exact ok_some ⟨rfl, mg, frr⟩
    | true =>
      obtain ⟨j, hj, rfl, ej⟩ := wi_ex (by decide) hv
      rw [if_pos rfl, if_pos rfl, ej, gR_ok mt0, mr19, aI_n mt19 (by omega) (by decide), vm.1.2.2.2, gR_ok mt0, mr16, aI_n mt16 (by omega) (by decide), vm.1.1, ie_0 (by omega)]
      by_cases z : p_sp G.1 t = 0
      · rw [if_pos z, gR_ok mt0, mr17, aI_n mt17 (by omega) (by decide), vm.1.2.1]
        have e := sum64 (p_lo G.1 t) (nI (p_ne G.1 t)) k
        rw [nI_tI (by omega)] at e
        by_cases y : k.toInt = (p_lo G.1 t).toInt + p_ne G.1 t
        · rw [if_pos (e.mpr y)]
          exact de_core gi mg ht k true (by unfold mayf; rw [if_pos z, decide_eq_true y])
        · rw [if_neg (fun q => y (e.mp q))]
          exact de_core gi mg ht k false (by unfold mayf; rw [if_pos z, decide_eq_false y])
      · rw [if_neg z, ie_0 (by omega)]
        unfold BX12_entry_71
        by_cases y : p_ne G.1 t = 0
        · rw [if_pos y]
          exact de_core gi mg ht k true (by unfold mayf; rw [if_neg z, decide_eq_true (Or.inl y)])
        · rw [if_neg y, gR_ok mt0, mr20, nl_8, pk_mul, nI_add]
          obtain ⟨n, en⟩ : ∃ n, p_ne G.1 t = n + 1 := ⟨p_ne G.1 t - 1, by omega⟩
          have e6 := (vm.2 n (by omega)).1
          have e9 : 8 * t + p_ne G.1 t = (8 * t + n) + 1 := by omega
          have en1 : p_ne G.1 t - 1 = n := by omega
          rw [e9, nI_pred, aI_n mt20 (by omega) (by decide), e6]
          by_cases w : p_ky G.1 t n < k
          · have w' := w
            rw [i32_lt] at w'
            rw [if_pos w]
            exact de_core gi mg ht k true (by unfold mayf; rw [if_neg z, en1, decide_eq_true (Or.inr w')])
          · have w' := w
            rw [i32_lt] at w'
            rw [if_neg w]
            exact de_core gi mg ht k false (by unfold mayf; rw [if_neg z, en1, decide_eq_false (by omega)])
end GE3
