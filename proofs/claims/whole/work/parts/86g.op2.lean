/-! an operation is added: the model; an argument is added: the class -/
section GS
variable {h g : Hp} {o q : Nat} {G : Gs} {P : Pg} {m i op : Nat} {A B : Int32}
theorem d_op (gi : GI G) (mg : MG h q G) (x p A B : Int32) : Ok (FX12_op (some q) x p A B h) (DQ q h (s_op G x p A B)) := by
  have lm := mg.1.1
  have pm := mg.1.2.1
  have hnm := gi.1.1
  have frr : Fr (AMd q) h h := ⟨rfl, rfl, rfl, fun _ _ => ⟨rfl, rfl⟩⟩
  obtain ⟨mt0, ⟨mr1, mt1⟩, ⟨mr2, mt2⟩, ⟨mr3, mt3⟩, ⟨mr4, mt4⟩, ⟨mr5, mt5⟩, ⟨mr6, mt6⟩, ⟨mr7, mt7⟩, ⟨mr8, mt8⟩, ⟨mr9, mt9⟩, ⟨mr10, mt10⟩, ⟨mr11, mt11⟩, ⟨mr12, mt12⟩, ⟨mr13, mt13⟩, ⟨mr14, mt14⟩, ⟨mr15, mt15⟩, ⟨mr16, mt16⟩, ⟨mr17, mt17⟩, ⟨mr18, mt18⟩, ⟨mr19, mt19⟩, ⟨mr20, mt20⟩, ⟨mr21, mt21⟩, ⟨mr22, mt22⟩, ⟨mr23, mt23⟩, ⟨mr24, mt24⟩, ⟨mr25, mt25⟩, ⟨mr26, mt26⟩, ⟨mr27, mt27⟩, ⟨mr28, mt28⟩, ⟨mr29, mt29⟩, ⟨mr30, mt30⟩, ⟨mr31, mt31⟩, ⟨mr32, mt32⟩, ⟨mr33, mt33⟩, ⟨mr34, mt34⟩, ⟨mr35, mt35⟩, ⟨mr36, mt36⟩, ⟨mr37, mt37⟩, ⟨mr38, mt38⟩, ⟨mr39, mt39⟩, ⟨mr40, mt40⟩, ⟨mr41, mt41⟩, ⟨mr42, mt42⟩, ⟨mr43, mt43⟩⟩ := id lm
  unfold FX12_op s_op
  rw [rcv_ok mt0, f_isM lm pm gi.1, cl_ok, b2i_if]
  cases hx : wi x (p_nm G.1) with
  | false =>
    rw [if_neg (by decide), if_neg (by decide)]
    exact ok_some ⟨rfl, mg, frr⟩
  | true =>
    obtain ⟨m, hm, rfl, ec⟩ := wi_ex (by omega) hx
    have wm := gi.1.2.2.2.1 m hm
    have hno := wm.2.2.2.1
    have vm := pm.2.1 m hm
    rw [if_pos rfl, if_pos rfl, ec, in_35, cl_ok, b2i_if]
    cases hp : wi p 36 with
    | false =>
      rw [if_neg (by decide), if_neg (by decide)]
      exact ok_some ⟨rfl, mg, frr⟩
    | true =>
      obtain ⟨op, hop, rfl, ep⟩ := wi_ex (by decide) hp
      rw [if_pos rfl, if_pos rfl, ep, gR_ok mt0, mr5, aI_n mt5 (by omega) (by decide), vm.1.2.2.2.1, nl_60, if_eq (by omega) (by decide)]
      by_cases c : p_no G.1 m = 60
      · rw [if_pos c, if_pos c]
        exact ok_some ⟨rfl, mg, frr⟩
      · rw [if_neg c, if_neg c, gR_ok mt0, mr5, aI_n mt5 (by omega) (by decide), vm.1.2.2.2.1, nI_1, sI_n mt5 (by omega) (by decide)]
        have f1 : Fm q F40 (fun b => b = q + 5) h (wI h (q + 5) m (nI (p_no G.1 m + 1))) := Fm.wa rfl (by omega)
        have e5 : ∀ j, hI (wI h (q + 5) m (nI (p_no G.1 m + 1))) (q + 5) j = if j = m then nI (p_no G.1 m + 1) else hI h (q + 5) j := fun j => by
          by_cases z : j = m
          · rw [if_pos z, z]; exact hI_wI_s
          · rw [if_neg z, hI_wI_k z]
        have i1 : ∀ b, b ≠ q + 5 → hI (wI h (q + 5) m (nI (p_no G.1 m + 1))) b = hI h b := fun b hb => hI_wI_a hb
        generalize wI h (q + 5) m (nI (p_no G.1 m + 1)) = h1 at f1 e5 i1 ⊢
        have l1 := lm.fm f1
        have e5m : hI h1 (q + 5) m = nI (p_no G.1 m + 1) := by rw [e5, if_pos rfl]
        have w5 : hR h1 q 5 = some (q + 5) ∧ hT h1 (q + 5) = some (.inr (.int, 8)) := by rw [f1.1, f1.2.1]; exact ⟨mr5, mt5⟩
        rw [gR_ok l1.1, w5.1, aI_n w5.2 (by omega) (by decide), e5m, nI_pred, rcv_ok l1.1]
        refine ok_cl (da_core l1 (by rw [i1 _ (by omega)]; exact pm.1.1) hnm hm e5m (by omega) (Nat.lt_succ_self _) hop) (fun r g z => ?_)
        obtain ⟨z1, z2, z3, z4, z5, z6, z7⟩ := z
        have eb : ∀ b, b ≤ 13 → b ≠ 0 → b ≠ 5 → ¬ (6 ≤ b ∧ b ≤ 8) → hI g (q + b) = hI h (q + b) := fun b h1 h2 h3 h4 => by rw [(z7.2.2.2.1 (q + b) (by omega) (fun z => by unfold A68 at z; omega)).1, i1 _ (by omega)]
        have g5 : ∀ j, hI g (q + 5) j = if j = m then nI (p_no G.1 m + 1) else hI h (q + 5) j := fun j => by rw [(z7.2.2.2.1 (q + 5) (by omega) (fun z => by unfold A68 at z; omega)).1, e5]
        rw [i1 _ (by omega)] at z4 z5 z6
        have mm : PMm g q (pgQ G.1 m op A B) m := by
          obtain ⟨⟨v1, v2, v3, v4, v5⟩, v6, v7, v8⟩ := vm
          refine ⟨⟨by rw [eb 1 (by omega) (by omega) (by omega) (by omega)]; exact v1, by rw [eb 2 (by omega) (by omega) (by omega) (by omega)]; exact v2, by rw [eb 3 (by omega) (by omega) (by omega) (by omega)]; exact v3, by rw [g5, if_pos rfl, pQ_no], by rw [eb 9 (by omega) (by omega) (by omega) (by omega)]; exact v5⟩, fun k hk => by rw [eb 4 (by omega) (by omega) (by omega) (by omega)]; exact v6 k hk, fun y hy => ?_, fun k hk => by rw [eb 10 (by omega) (by omega) (by omega) (by omega), eb 11 (by omega) (by omega) (by omega) (by omega), eb 12 (by omega) (by omega) (by omega) (by omega), eb 13 (by omega) (by omega) (by omega) (by omega)]; exact v8 k hk⟩
          rw [pQ_no] at hy
          show hI g (q + 6) (60 * m + y) = nI (p_op (pgO G.1 m (p_no G.1 m) op A B) m y) ∧ hI g (q + 7) (60 * m + y) = p_A (pgO G.1 m (p_no G.1 m) op A B) m y ∧ hI g (q + 8) (60 * m + y) = p_B (pgO G.1 m (p_no G.1 m) op A B) m y
          rw [z4, z5, z6, pO_op, pO_A, pO_B]
          by_cases w : y = p_no G.1 m
          · subst w
            rw [if_pos rfl, if_pos rfl, if_pos rfl, if_pos rfl, if_pos rfl, if_pos rfl]; exact ⟨rfl, rfl, rfl⟩
          · rw [if_neg (show ¬ 60 * m + y = 60 * m + p_no G.1 m by omega), if_neg (show ¬ 60 * m + y = 60 * m + p_no G.1 m by omega), if_neg (show ¬ 60 * m + y = 60 * m + p_no G.1 m by omega), if_neg w, if_neg w, if_neg w]; exact v7 y (by omega)
        have f5 : Fr5 q m h g := fun m' hm' => ⟨fun b hb => by
          by_cases b5 : b = 5
          · subst b5; rw [g5, if_neg hm']
          · rw [eb b (by omega) (by omega) b5 (by omega)], fun k hk => by rw [eb 4 (by omega) (by omega) (by omega) (by omega)], fun b y h1 h2 hy => by
          rcases (show b = 6 ∨ b = 7 ∨ b = 8 by omega) with rfl | rfl | rfl
          · rw [z4, if_neg (by omega)]
          · rw [z5, if_neg (by omega)]
          · rw [z6, if_neg (by omega)], fun b k h1 h2 hk => by rw [eb b (by omega) (by omega) (by omega) (by omega)]⟩
        have ff : Fm q F40 (fun b => b = q + 5 ∨ A68 q b) h g := (f1.mono (fun _ z => z) (fun b z => Or.inl z)).trans (z7.mono (fun _ z => z) (fun b z => Or.inr z))
        have hA : ∀ b, (b = q + 5 ∨ A68 q b) → (q + 1 ≤ b ∧ b ≤ q + 14) ∨ b = q + 22 := fun b z => by unfold A68 at z; omega
        have pm2 : PM g q (pgQ G.1 m op A B) := pm_row gi.1 pm hm eqm_Q ff hA f5 mm
        exact ok_some ⟨z1, mg.pg ff (fun k z => z.elim) (fun b z => by have := hA b z; omega) (fun k hk => z2 k (by have hk : k < p_nm G.1 := hk; omega)) z3 pm2 hnm, ff.fr (fun b z => by have := hA b z; omega)⟩
end GS
