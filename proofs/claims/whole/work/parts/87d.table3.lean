/-! a table is made: the model -/
section GP
variable {h g : Hp} {o q : Nat} {G : Gs} {P : Pg} {s v : Nat} {l : Int32}
theorem d_tab (gi : GI G) (mg : MG h q G) (x : Bool) (l v : Int32) : Ok (FX12_table (some q) (if x = true then 1 else 0) l v h) (DQ q h (s_tab G x l v)) := by
  have lm := mg.1.1
  have pm := mg.1.2.1
  have hnt := gi.1.2.2.1
  have hnm := gi.1.1
  have frr : Fr (AMd q) h h := ⟨rfl, rfl, rfl, fun _ _ => ⟨rfl, rfl⟩⟩
  have mt0 := lm.1
  unfold FX12_table s_tab
  rw [in_59, cl_ok, b2i_if]
  cases hv : wi v 60 with
  | false =>
    rw [if_neg (by decide), if_neg (by decide)]
    exact ok_some ⟨rfl, mg, frr⟩
  | true =>
    obtain ⟨j, hj, rfl, ej⟩ := wi_ex (by decide) hv
    rw [if_pos rfl, if_pos rfl, ej, gI_ok mt0, pm.1.2.2, nl_8, if_eq (by omega) (by decide)]
    by_cases c8 : p_nt G.1 = 8
    · rw [if_pos c8, if_pos c8]
      exact ok_some ⟨rfl, mg, frr⟩
    · rw [if_neg c8, if_neg c8, rcv_ok mt0]
      refine ok_cl (d_change gi mg) (fun _ h1 z => ?_)
      obtain ⟨m1, z1, z2, z3⟩ := z
      have lm := m1.1.1
      obtain ⟨mt0, ⟨mr1, mt1⟩, ⟨mr2, mt2⟩, ⟨mr3, mt3⟩, ⟨mr4, mt4⟩, ⟨mr5, mt5⟩, ⟨mr6, mt6⟩, ⟨mr7, mt7⟩, ⟨mr8, mt8⟩, ⟨mr9, mt9⟩, ⟨mr10, mt10⟩, ⟨mr11, mt11⟩, ⟨mr12, mt12⟩, ⟨mr13, mt13⟩, ⟨mr14, mt14⟩, ⟨mr15, mt15⟩, ⟨mr16, mt16⟩, ⟨mr17, mt17⟩, ⟨mr18, mt18⟩, ⟨mr19, mt19⟩, ⟨mr20, mt20⟩, ⟨mr21, mt21⟩, ⟨mr22, mt22⟩, ⟨mr23, mt23⟩, ⟨mr24, mt24⟩, ⟨mr25, mt25⟩, ⟨mr26, mt26⟩, ⟨mr27, mt27⟩, ⟨mr28, mt28⟩, ⟨mr29, mt29⟩, ⟨mr30, mt30⟩, ⟨mr31, mt31⟩, ⟨mr32, mt32⟩, ⟨mr33, mt33⟩, ⟨mr34, mt34⟩, ⟨mr35, mt35⟩, ⟨mr36, mt36⟩, ⟨mr37, mt37⟩, ⟨mr38, mt38⟩, ⟨mr39, mt39⟩, ⟨mr40, mt40⟩, ⟨mr41, mt41⟩, ⟨mr42, mt42⟩, ⟨mr43, mt43⟩⟩ := id lm
      generalize es : (if x = true then (1 : Int32) else 0) = sx
      have hs : sx = nI (if x = true then 1 else 0) := by rw [← es]; cases x <;> rfl
      have hs1 : sx = 0 ∨ sx = 1 := by rw [← es]; cases x <;> decide
      have n17 : hI h1 q 17 = nI (p_nt G.1) := m1.1.2.1.1.2.2
      have na : hI (wI h1 (q + 16) (p_nt G.1) sx) q 17 = nI (p_nt G.1) := by rw [hI_wI_a (by omega)]; exact n17
      have nb : hI (wI (wI h1 (q + 16) (p_nt G.1) sx) (q + 17) (p_nt G.1) l) q 17 = nI (p_nt G.1) := by rw [hI_wI_a (by omega)]; exact na
      have nc : hI (wI (wI (wI h1 (q + 16) (p_nt G.1) sx) (q + 17) (p_nt G.1) l) (q + 18) (p_nt G.1) (nI j)) q 17 = nI (p_nt G.1) := by rw [hI_wI_a (by omega)]; exact nb
      rw [gR_ok mt0, mr16, gI_ok mt0, n17, sZ_n mt16 (by omega) (by decide) hs1, gR_ok (show hT (wI h1 (q + 16) (p_nt G.1) sx) q = _ from mt0), show hR (wI h1 (q + 16) (p_nt G.1) sx) q 19 = _ from mr17, gI_ok (show hT (wI h1 (q + 16) (p_nt G.1) sx) q = _ from mt0), na, sI_n (show hT (wI h1 (q + 16) (p_nt G.1) sx) (q + 17) = _ from mt17) (by omega) (by decide), gR_ok (show hT (wI (wI h1 (q + 16) (p_nt G.1) sx) (q + 17) (p_nt G.1) l) q = _ from mt0), show hR (wI (wI h1 (q + 16) (p_nt G.1) sx) (q + 17) (p_nt G.1) l) q 20 = _ from mr18, gI_ok (show hT (wI (wI h1 (q + 16) (p_nt G.1) sx) (q + 17) (p_nt G.1) l) q = _ from mt0), nb, sI_n (show hT (wI (wI h1 (q + 16) (p_nt G.1) sx) (q + 17) (p_nt G.1) l) (q + 18) = _ from mt18) (by omega) (by decide), gI_ok (show hT (wI (wI (wI h1 (q + 16) (p_nt G.1) sx) (q + 17) (p_nt G.1) l) (q + 18) (p_nt G.1) (nI j)) q = _ from mt0), nc, nI_1, pI_ok (show hT (wI (wI (wI h1 (q + 16) (p_nt G.1) sx) (q + 17) (p_nt G.1) l) (q + 18) (p_nt G.1) (nI j)) q = _ from mt0), gI_ok (show hT (wI (wI (wI (wI h1 (q + 16) (p_nt G.1) sx) (q + 17) (p_nt G.1) l) (q + 18) (p_nt G.1) (nI j)) q 17 (nI (p_nt G.1 + 1))) q = _ from mt0), hI_wI_s, nI_pred]
      have f2 : Fm q (fun k => k = 17) (fun b => q + 16 ≤ b ∧ b ≤ q + 18) h1 (wI (wI (wI (wI h1 (q + 16) (p_nt G.1) sx) (q + 17) (p_nt G.1) l) (q + 18) (p_nt G.1) (nI j)) q 17 (nI (p_nt G.1 + 1))) := (((Fm.wa (q := q) (F := fun k => k = 17) (A := fun b => q + 16 ≤ b ∧ b ≤ q + 18) ⟨by omega, by omega⟩ (by omega)).trans (Fm.wa (q := q) (F := fun k => k = 17) (A := fun b => q + 16 ≤ b ∧ b ≤ q + 18) ⟨by omega, by omega⟩ (by omega))).trans (Fm.wa (q := q) (F := fun k => k = 17) (A := fun b => q + 16 ≤ b ∧ b ≤ q + 18) ⟨by omega, by omega⟩ (by omega))).trans (Fm.fI rfl)
      have e17 : hI (wI (wI (wI (wI h1 (q + 16) (p_nt G.1) sx) (q + 17) (p_nt G.1) l) (q + 18) (p_nt G.1) (nI j)) q 17 (nI (p_nt G.1 + 1))) q 17 = nI (p_nt G.1 + 1) := hI_wI_s
      have r16 : ∀ i, hI (wI (wI (wI (wI h1 (q + 16) (p_nt G.1) sx) (q + 17) (p_nt G.1) l) (q + 18) (p_nt G.1) (nI j)) q 17 (nI (p_nt G.1 + 1))) (q + 16) i = if i = p_nt G.1 then sx else hI h1 (q + 16) i := fun i => by
        rw [hI_wI_a (by omega), hI_wI_a (by omega), hI_wI_a (by omega)]
        by_cases z : i = p_nt G.1
        · rw [if_pos z, z]; exact hI_wI_s
        · rw [if_neg z, hI_wI_k z]
      have r17 : ∀ i, hI (wI (wI (wI (wI h1 (q + 16) (p_nt G.1) sx) (q + 17) (p_nt G.1) l) (q + 18) (p_nt G.1) (nI j)) q 17 (nI (p_nt G.1 + 1))) (q + 17) i = if i = p_nt G.1 then l else hI h1 (q + 17) i := fun i => by
        rw [hI_wI_a (by omega), hI_wI_a (by omega)]
        by_cases z : i = p_nt G.1
        · rw [if_pos z, z]; exact hI_wI_s
        · rw [if_neg z, hI_wI_k z, hI_wI_a (by omega)]
      have r18 : ∀ i, hI (wI (wI (wI (wI h1 (q + 16) (p_nt G.1) sx) (q + 17) (p_nt G.1) l) (q + 18) (p_nt G.1) (nI j)) q 17 (nI (p_nt G.1 + 1))) (q + 18) i = if i = p_nt G.1 then nI j else hI h1 (q + 18) i := fun i => by
        rw [hI_wI_a (by omega)]
        by_cases z : i = p_nt G.1
        · rw [if_pos z, z]; exact hI_wI_s
        · rw [if_neg z, hI_wI_k z, hI_wI_a (by omega), hI_wI_a (by omega)]
      generalize wI (wI (wI (wI h1 (q + 16) (p_nt G.1) sx) (q + 17) (p_nt G.1) l) (q + 18) (p_nt G.1) (nI j)) q 17 (nI (p_nt G.1 + 1)) = g at f2 e17 r16 r17 r18 ⊢
      obtain ⟨e1, e2, e3⟩ := pT_n (P := G.1) (s := if x = true then 1 else 0) (v := j) (l := l)
      obtain ⟨w1, w2, w3, w4⟩ := pT_r (P := G.1) (s := if x = true then 1 else 0) (v := j) (l := l)
      have eq := eqt_T (P := G.1) (s := if x = true then 1 else 0) (v := j) (l := l)
      have nA : ∀ b, 1 ≤ b ∧ b ≤ 22 ∧ ¬ (16 ≤ b ∧ b ≤ 18) → hI g (q + b) = hI h1 (q + b) ∧ hL g (q + b) = hL h1 (q + b) := fun b hb => f2.2.2.2.1 (q + b) (by omega) (by omega)
      have pm2 : PM g q (pgT G.1 (if x = true then 1 else 0) j l) := by
        obtain ⟨⟨p1, p1', p1''⟩, p2, p3, p4, p5, p6⟩ := m1.1.2.1
        have p2 : ∀ m, m < p_nm G.1 → PMm h1 q G.1 m := p2
        have p3 : ∀ t, t < p_nt G.1 → PMt h1 q G.1 t := p3
        refine ⟨⟨by rw [(f2.2.2.2.2 0 (by decide)).1, e1]; exact p1, by rw [(f2.2.2.2.2 15 (by decide)).1, e2]; exact p1', by rw [e17, e3]⟩, fun m hm => ?_, fun t ht => ?_, fun c hc => ?_, fun m h1 h2 => ?_, fun t h1 h2 => ?_⟩
        · rw [e1] at hm
          obtain ⟨⟨v1, v2, v3, v4, v5⟩, v6, v7, v8⟩ := p2 m hm
          obtain ⟨⟨a1, a2, a3, a4, a5⟩, a6, a7, a8⟩ := eq.mr m
          refine ⟨⟨by rw [a1, (nA 1 (by omega)).1]; exact v1, by rw [a2, (nA 2 (by omega)).1]; exact v2, by rw [a3, (nA 3 (by omega)).1]; exact v3, by rw [a4, (nA 5 (by omega)).1]; exact v4, by rw [a5, (nA 9 (by omega)).1]; exact v5⟩, fun k hk => ?_, fun i hi => ?_, fun k hk => ?_⟩
          · rw [a2] at hk
            rw [a6, (nA 4 (by omega)).1]; exact v6 k hk
          · rw [a4] at hi
            obtain ⟨d1, d2, d3⟩ := a7 i
            rw [d1, d2, d3, (nA 6 (by omega)).1, (nA 7 (by omega)).1, (nA 8 (by omega)).1]; exact v7 i hi
          · rw [a5] at hk
            obtain ⟨d1, d2, d3, d4⟩ := a8 k
            rw [d1, d2, d3, d4, (nA 10 (by omega)).1, (nA 11 (by omega)).1, (nA 12 (by omega)).1, (nA 13 (by omega)).1]; exact v8 k hk
        · rw [e3] at ht
          by_cases z : t = p_nt G.1
          · subst z
            refine ⟨⟨by rw [r16, if_pos rfl, w3, hs], by rw [r17, if_pos rfl, w4], by rw [r18, if_pos rfl, w1], by rw [w2, (nA 19 (by omega)).1]; exact p6 _ (Nat.le_refl _) (by omega)⟩, fun e he => by rw [w2] at he; omega⟩
          · obtain ⟨⟨a1, a2, a3, a4⟩, a5⟩ := eq.tr z
            obtain ⟨⟨v1, v2, v3, v4⟩, v5⟩ := p3 t (by omega)
            refine ⟨⟨by rw [a3, r16, if_neg z]; exact v1, by rw [a4, r17, if_neg z]; exact v2, by rw [a1, r18, if_neg z]; exact v3, by rw [a2, (nA 19 (by omega)).1]; exact v4⟩, fun x hx => ?_⟩
            rw [a2] at hx
            rw [(a5 x).1, (a5 x).2, (nA 20 (by omega)).1, (nA 21 (by omega)).1]; exact v5 x hx
        · rw [e2] at hc
          rw [(nA 15 (by omega)).2, eq.c]; exact p4 c hc
        · rw [e1] at h1
          rw [(nA 2 (by omega)).1, (nA 3 (by omega)).1, (nA 5 (by omega)).1, (nA 9 (by omega)).1]; exact p5 m h1 h2
        · rw [e3] at h1
          rw [(nA 19 (by omega)).1]; exact p6 t (by show p_nt G.1 ≤ t; omega) h2
      have m2 : MG g q (fgt (fgt G G.1) (pgT G.1 (if x = true then 1 else 0) j l)) := m1.pg f2 (fun k z => by omega) (fun b z => by omega) (fun i hi => by rw [(nA 14 (by omega)).1]; exact z1 i (by rw [e1] at hi; omega)) (fun i hi => by rw [(nA 22 (by omega)).1]; exact z2 i hi) pm2 (by rw [e1]; exact hnm)
      exact ok_some ⟨rfl, m2, (z3.fr (fun b z => by omega)).trans (f2.fr (fun b z => by omega))⟩
end GP
