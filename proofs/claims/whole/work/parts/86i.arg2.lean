/-! an argument is added: both sides -/
section GB
variable {h g : Hp} {o q : Nat} {G : Gs} {P : Pg} {m k : Nat}
theorem c_arg (gi : GI G) (cg : CG h o G) (x p : Int32) : Ok (FX11_argument (some o) x p h) (CQ o h (s_arg G x p)) := by
  obtain ⟨⟨ma, ta, va⟩, ⟨⟨t0, ⟨r0, r1, r2, r3⟩, t52⟩, -⟩, vc⟩ := id cg
  have pc := va.1
  have ap := va.2.1
  have hnm := gi.1.1
  unfold FX11_argument s_arg
  rw [gR_ok t0, r0, rcv_ok pc.1.1]
  cases hx : wi x (p_nm G.1) with
  | false =>
    rw [f_findM_no pc gi.1 hx, cl_ok, if_neg (by decide), nz_no]
    exact ok_some ⟨rfl, cg, FC.refl⟩
  | true =>
    obtain ⟨m, hm, rfl, ec⟩ := wi_ex (by omega) hx
    have wm := gi.1.2.2.2.1 m hm
    have hnw := wm.2.2.1
    obtain ⟨x1, x2, x3⟩ := pc.2.2.1 m hm
    rw [f_findM pc gi.1 hm, cl_ok, if_pos rfl, nz_ok, nl_5, f_wi _ (by decide), cl_ok, b2i_if, ec]
    cases hp : wi p 5 with
    | false =>
      rw [if_neg (by decide), if_neg (by decide)]
      exact ok_some ⟨rfl, cg, FC.refl⟩
    | true =>
      obtain ⟨k, hk, rfl, ek⟩ := wi_ex (by decide) hp
      have hw := wd_le k
      rw [if_pos rfl, if_pos rfl, ek, gI_ok x2.1, x3.1.2.2.1, f_width (by omega), cl_ok, nI_add, nl_8, if_lt (by decide) (by omega)]
      by_cases c : 8 < p_nw G.1 m + wd k
      · rw [if_pos c, if_pos c]
        exact ok_some ⟨rfl, cg, FC.refl⟩
      · rw [if_neg c, if_neg c, gR_ok t0, r0, rcv_ok pc.1.1]
        have hg := paw_ge (P := G.1) (m := m) (p_na G.1 m)
        rw [wm.2.2.2.2.2.1] at hg
        refine ok_cl (c_forget gi.1 va) (fun _ h1 z => ?_)
        obtain ⟨v1, f1⟩ := z
        obtain ⟨y1, y2, y3⟩ := v1.1.2.2.1 m hm
        have om := ap.1 m hm
        obtain ⟨a0, ⟨s1, -⟩, u1, -⟩ := id y2
        unfold FX2_addArgument
        have n2 : hI h1 (ma m) 2 = nI (p_na G.1 m) := y3.1.2.1
        have n3 : hI h1 (ma m) 3 = nI (p_nw G.1 m) := y3.1.2.2.1
        have k1 : ∀ {z : Hp}, z = wI h1 (ma m + 1) (p_na G.1 m) (nI k) → hT z (ma m) = some (.inl 2) ∧ hI z (ma m) 2 = nI (p_na G.1 m) := fun e => by subst e; exact ⟨a0, by rw [hI_wI_a (by omega)]; exact n2⟩
        obtain ⟨b1, b2⟩ := k1 rfl
        rw [rcv_ok a0, gR_ok a0, s1, gI_ok a0, n2, sI_n u1 (by omega) (by decide), gI_ok b1, b2, nI_1, pI_ok b1]
        have k2 : ∀ {z : Hp}, z = wI (wI h1 (ma m + 1) (p_na G.1 m) (nI k)) (ma m) 2 (nI (p_na G.1 m + 1)) → hT z (ma m) = some (.inl 2) ∧ hI z (ma m) 3 = nI (p_nw G.1 m) := fun e => by subst e; exact ⟨a0, by rw [hI_wI_k (by decide), hI_wI_a (by omega)]; exact n3⟩
        obtain ⟨d1, d2⟩ := k2 rfl
        rw [gI_ok d1, d2, f_width (by omega), cl_ok, nI_add, pI_ok d1, gI_ok (show hT (wI (wI (wI h1 (ma m + 1) (p_na G.1 m) (nI k)) (ma m) 2 (nI (p_na G.1 m + 1))) (ma m) 3 (nI (p_nw G.1 m + wd k))) (ma m) = _ from a0), hI_wI_s, cl_ok]
        have f23 : Fr (fun b => b = ma m ∨ b = ma m + 1) h1 (wI (wI (wI h1 (ma m + 1) (p_na G.1 m) (nI k)) (ma m) 2 (nI (p_na G.1 m + 1))) (ma m) 3 (nI (p_nw G.1 m + wd k))) := ((Fr.wI (A := fun b => b = ma m ∨ b = ma m + 1) (Or.inr rfl)).trans (Fr.wI (A := fun b => b = ma m ∨ b = ma m + 1) (Or.inl rfl))).trans (Fr.wI (A := fun b => b = ma m ∨ b = ma m + 1) (Or.inl rfl))
        have e3 : hI (wI (wI (wI h1 (ma m + 1) (p_na G.1 m) (nI k)) (ma m) 2 (nI (p_na G.1 m + 1))) (ma m) 3 (nI (p_nw G.1 m + wd k))) (ma m) 3 = nI (p_nw G.1 m + wd k) := hI_wI_s
        have e2 : hI (wI (wI (wI h1 (ma m + 1) (p_na G.1 m) (nI k)) (ma m) 2 (nI (p_na G.1 m + 1))) (ma m) 3 (nI (p_nw G.1 m + wd k))) (ma m) 2 = nI (p_na G.1 m + 1) := by rw [hI_wI_k (by decide)]; exact hI_wI_s
        have gk : ∀ j, j ≠ 2 → j ≠ 3 → hI (wI (wI (wI h1 (ma m + 1) (p_na G.1 m) (nI k)) (ma m) 2 (nI (p_na G.1 m + 1))) (ma m) 3 (nI (p_nw G.1 m + wd k))) (ma m) j = hI h1 (ma m) j := fun j j2 j3 => by rw [hI_wI_k j3, hI_wI_k j2, hI_wI_a (by omega)]
        have e1 : ∀ j, hI (wI (wI (wI h1 (ma m + 1) (p_na G.1 m) (nI k)) (ma m) 2 (nI (p_na G.1 m + 1))) (ma m) 3 (nI (p_nw G.1 m + wd k))) (ma m + 1) j = if j = p_na G.1 m then nI k else hI h1 (ma m + 1) j := fun j => by
          rw [hI_wI_a (by omega), hI_wI_a (by omega)]
          by_cases z : j = p_na G.1 m
          · rw [if_pos z, z]; exact hI_wI_s
          · rw [if_neg z, hI_wI_k z]
        generalize wI (wI (wI h1 (ma m + 1) (p_na G.1 m) (nI k)) (ma m) 2 (nI (p_na G.1 m + 1))) (ma m) 3 (nI (p_nw G.1 m + wd k)) = g at f23 e3 e2 gk e1 ⊢
        have eb : ∀ b, ma m + 2 ≤ b ∧ b ≤ ma m + 8 → hI g b = hI h1 b := fun b hb => (f23.2.2.2 b (by omega)).1
        have mc : MC g (ma m) (pgG G.1 m k) m := by
          obtain ⟨⟨v1, v2, v3, v4, v5⟩, v6, v7, v8⟩ := y3
          refine ⟨⟨by rw [gk _ (by decide) (by decide)]; exact v1, by rw [e2, pG_na], by rw [e3, pG_nw], by rw [gk _ (by decide) (by decide)]; exact v4, by rw [gk _ (by decide) (by decide)]; exact v5⟩, fun j hj => ?_, fun j hj => by rw [eb _ (by omega), eb _ (by omega), eb _ (by omega)]; exact v7 j hj, fun j hj => by rw [eb _ (by omega), eb _ (by omega), eb _ (by omega), eb _ (by omega)]; exact v8 j hj⟩
          rw [pG_na] at hj
          rw [e1, pG_ka]
          by_cases z : j = p_na G.1 m
          · rw [if_pos z, if_pos z]
          · rw [if_neg z, if_neg z]; exact v6 j (by omega)
        have pc2 : PC g o ma ta (pgG G.1 m k) := pc_row v1.1 ap hm eqm_G f23 (fun b z => by omega) mc
        have va2 : CGa g o ma ta (pgG G.1 m k) G.2.1 nob nob := by
          refine v1.pg f23 (fun b h1 h2 => by omega) (fun m' hm' b h1 h2 => ?_) (fun m' hm' => ?_) pc2 rfl rfl
          · by_cases c : m' = m
            · subst c; omega
            · have := ap.2.2.1 m' m hm' hm c; omega
          · by_cases c : m' = m
            · subst c; rw [gk _ (by decide) (by decide), gk _ (by decide) (by decide)]; exact ⟨rfl, rfl⟩
            · have := ap.2.2.1 m' m hm' hm c
              rw [(f23.2.2.2 (ma m') (by omega)).1]; exact ⟨rfl, rfl⟩
        have ff : Fr (fun b => (∃ k, k < p_nm G.1 ∧ b = ma k) ∨ (b = ma m ∨ b = ma m + 1)) h g := (f1.mono (fun b z => Or.inl z)).trans (f23.mono (fun b z => Or.inr z))
        obtain ⟨q1, q2⟩ := cq_pg cg va2 ff (fun b z => by
          rcases z with ⟨k, hk, e⟩ | z
          · have := ap.1 k hk; omega
          · omega)
        exact ok_some ⟨rfl, q1, q2⟩
theorem d_arg (gi : GI G) (mg : MG h q G) (x p : Int32) : Ok (FX12_argument (some q) x p h) (DQ q h (s_arg G x p)) := by
  have lm := mg.1.1
  have pm := mg.1.2.1
  have hnm := gi.1.1
  have frr : Fr (AMd q) h h := ⟨rfl, rfl, rfl, fun _ _ => ⟨rfl, rfl⟩⟩
  obtain ⟨mt0, ⟨mr1, mt1⟩, ⟨mr2, mt2⟩, ⟨mr3, mt3⟩, ⟨mr4, mt4⟩, ⟨mr5, mt5⟩, ⟨mr6, mt6⟩, ⟨mr7, mt7⟩, ⟨mr8, mt8⟩, ⟨mr9, mt9⟩, ⟨mr10, mt10⟩, ⟨mr11, mt11⟩, ⟨mr12, mt12⟩, ⟨mr13, mt13⟩, ⟨mr14, mt14⟩, ⟨mr15, mt15⟩, ⟨mr16, mt16⟩, ⟨mr17, mt17⟩, ⟨mr18, mt18⟩, ⟨mr19, mt19⟩, ⟨mr20, mt20⟩, ⟨mr21, mt21⟩, ⟨mr22, mt22⟩, ⟨mr23, mt23⟩, ⟨mr24, mt24⟩, ⟨mr25, mt25⟩, ⟨mr26, mt26⟩, ⟨mr27, mt27⟩, ⟨mr28, mt28⟩, ⟨mr29, mt29⟩, ⟨mr30, mt30⟩, ⟨mr31, mt31⟩, ⟨mr32, mt32⟩, ⟨mr33, mt33⟩, ⟨mr34, mt34⟩, ⟨mr35, mt35⟩, ⟨mr36, mt36⟩, ⟨mr37, mt37⟩, ⟨mr38, mt38⟩, ⟨mr39, mt39⟩, ⟨mr40, mt40⟩, ⟨mr41, mt41⟩, ⟨mr42, mt42⟩, ⟨mr43, mt43⟩⟩ := id lm
  unfold FX12_argument s_arg
  rw [rcv_ok mt0, f_isM lm pm gi.1, cl_ok, b2i_if]
  cases hx : wi x (p_nm G.1) with
  | false =>
    rw [if_neg (by decide), if_neg (by decide)]
    exact ok_some ⟨rfl, mg, frr⟩
  | true =>
    obtain ⟨m, hm, rfl, ec⟩ := wi_ex (by omega) hx
    have wm := gi.1.2.2.2.1 m hm
    have hnw := wm.2.2.1
    have vm := pm.2.1 m hm
    rw [if_pos rfl, if_pos rfl, ec, in_4, cl_ok, b2i_if]
    cases hp : wi p 5 with
    | false =>
      rw [if_neg (by decide), if_neg (by decide)]
      exact ok_some ⟨rfl, mg, frr⟩
    | true =>
      obtain ⟨k, hk, rfl, ek⟩ := wi_ex (by decide) hp
      have hw := wd_le k
      rw [if_pos rfl, if_pos rfl, ek, gR_ok mt0, mr3, aI_n mt3 (by omega) (by decide), vm.1.2.2.1, f_wordsOf (by omega), cl_ok, nI_add, nl_8, if_lt (by decide) (by omega)]
      by_cases c : 8 < p_nw G.1 m + wd k
      · rw [if_pos c, if_pos c]
        exact ok_some ⟨rfl, mg, frr⟩
      · rw [if_neg c, if_neg c, rcv_ok mt0]
        have hg := paw_ge (P := G.1) (m := m) (p_na G.1 m)
        rw [wm.2.2.2.2.2.1] at hg
        refine ok_cl (d_change gi mg) (fun _ h1 z => ?_)
        obtain ⟨m1, z1, z2, z3⟩ := z
        have l1 := m1.1.1
        have v1 : PMm h1 q G.1 m := m1.1.2.1.2.1 m hm
        have lm := l1
        obtain ⟨mt0, ⟨mr1, mt1⟩, ⟨mr2, mt2⟩, ⟨mr3, mt3⟩, ⟨mr4, mt4⟩, ⟨mr5, mt5⟩, ⟨mr6, mt6⟩, ⟨mr7, mt7⟩, ⟨mr8, mt8⟩, ⟨mr9, mt9⟩, ⟨mr10, mt10⟩, ⟨mr11, mt11⟩, ⟨mr12, mt12⟩, ⟨mr13, mt13⟩, ⟨mr14, mt14⟩, ⟨mr15, mt15⟩, ⟨mr16, mt16⟩, ⟨mr17, mt17⟩, ⟨mr18, mt18⟩, ⟨mr19, mt19⟩, ⟨mr20, mt20⟩, ⟨mr21, mt21⟩, ⟨mr22, mt22⟩, ⟨mr23, mt23⟩, ⟨mr24, mt24⟩, ⟨mr25, mt25⟩, ⟨mr26, mt26⟩, ⟨mr27, mt27⟩, ⟨mr28, mt28⟩, ⟨mr29, mt29⟩, ⟨mr30, mt30⟩, ⟨mr31, mt31⟩, ⟨mr32, mt32⟩, ⟨mr33, mt33⟩, ⟨mr34, mt34⟩, ⟨mr35, mt35⟩, ⟨mr36, mt36⟩, ⟨mr37, mt37⟩, ⟨mr38, mt38⟩, ⟨mr39, mt39⟩, ⟨mr40, mt40⟩, ⟨mr41, mt41⟩, ⟨mr42, mt42⟩, ⟨mr43, mt43⟩⟩ := id lm
        have n2 : hI h1 (q + 2) m = nI (p_na G.1 m) := v1.1.2.1
        have n3 : hI h1 (q + 3) m = nI (p_nw G.1 m) := v1.1.2.2.1
        have n2' : hI (wI h1 (q + 4) (8 * m + p_na G.1 m) (nI k)) (q + 2) m = nI (p_na G.1 m) := by rw [hI_wI_a (by omega)]; exact n2
        have n3' : hI (wI (wI h1 (q + 4) (8 * m + p_na G.1 m) (nI k)) (q + 2) m (nI (p_na G.1 m + 1))) (q + 3) m = nI (p_nw G.1 m) := by rw [hI_wI_a (by omega), hI_wI_a (by omega)]; exact n3
        have n3'' : hI (wI (wI (wI h1 (q + 4) (8 * m + p_na G.1 m) (nI k)) (q + 2) m (nI (p_na G.1 m + 1))) (q + 3) m (nI (p_nw G.1 m + wd k))) (q + 3) m = nI (p_nw G.1 m + wd k) := hI_wI_s
        rw [gR_ok mt0, mr4, gR_ok mt0, mr2, aI_n mt2 (by omega) (by decide), n2, pk_mul, nI_add, sI_n mt4 (by omega) (by decide), gR_ok (show hT (wI h1 (q + 4) (8 * m + p_na G.1 m) (nI k)) q = _ from mt0), show hR (wI h1 (q + 4) (8 * m + p_na G.1 m) (nI k)) q 2 = _ from mr2, aI_n (show hT (wI h1 (q + 4) (8 * m + p_na G.1 m) (nI k)) (q + 2) = _ from mt2) (by omega) (by decide), n2', nI_1, sI_n (show hT (wI h1 (q + 4) (8 * m + p_na G.1 m) (nI k)) (q + 2) = _ from mt2) (by omega) (by decide), gR_ok (show hT (wI (wI h1 (q + 4) (8 * m + p_na G.1 m) (nI k)) (q + 2) m (nI (p_na G.1 m + 1))) q = _ from mt0), show hR (wI (wI h1 (q + 4) (8 * m + p_na G.1 m) (nI k)) (q + 2) m (nI (p_na G.1 m + 1))) q 3 = _ from mr3, aI_n (show hT (wI (wI h1 (q + 4) (8 * m + p_na G.1 m) (nI k)) (q + 2) m (nI (p_na G.1 m + 1))) (q + 3) = _ from mt3) (by omega) (by decide), n3', f_wordsOf (by omega), cl_ok, nI_add, sI_n (show hT (wI (wI h1 (q + 4) (8 * m + p_na G.1 m) (nI k)) (q + 2) m (nI (p_na G.1 m + 1))) (q + 3) = _ from mt3) (by omega) (by decide), gR_ok (show hT (wI (wI (wI h1 (q + 4) (8 * m + p_na G.1 m) (nI k)) (q + 2) m (nI (p_na G.1 m + 1))) (q + 3) m (nI (p_nw G.1 m + wd k))) q = _ from mt0), show hR (wI (wI (wI h1 (q + 4) (8 * m + p_na G.1 m) (nI k)) (q + 2) m (nI (p_na G.1 m + 1))) (q + 3) m (nI (p_nw G.1 m + wd k))) q 3 = _ from mr3, aI_n (show hT (wI (wI (wI h1 (q + 4) (8 * m + p_na G.1 m) (nI k)) (q + 2) m (nI (p_na G.1 m + 1))) (q + 3) m (nI (p_nw G.1 m + wd k))) (q + 3) = _ from mt3) (by omega) (by decide), n3'']
        have f2 : Fm q F40 (fun b => q + 2 ≤ b ∧ b ≤ q + 4) h1 (wI (wI (wI h1 (q + 4) (8 * m + p_na G.1 m) (nI k)) (q + 2) m (nI (p_na G.1 m + 1))) (q + 3) m (nI (p_nw G.1 m + wd k))) := ((Fm.wa (q := q) (F := F40) (A := fun b => q + 2 ≤ b ∧ b ≤ q + 4) ⟨by omega, by omega⟩ (by omega)).trans (Fm.wa (q := q) (F := F40) (A := fun b => q + 2 ≤ b ∧ b ≤ q + 4) ⟨by omega, by omega⟩ (by omega))).trans (Fm.wa (q := q) (F := F40) (A := fun b => q + 2 ≤ b ∧ b ≤ q + 4) ⟨by omega, by omega⟩ (by omega))
        have e3 : ∀ j, hI (wI (wI (wI h1 (q + 4) (8 * m + p_na G.1 m) (nI k)) (q + 2) m (nI (p_na G.1 m + 1))) (q + 3) m (nI (p_nw G.1 m + wd k))) (q + 3) j = if j = m then nI (p_nw G.1 m + wd k) else hI h1 (q + 3) j := fun j => by
          by_cases z : j = m
          · rw [if_pos z, z]; exact hI_wI_s
          · rw [if_neg z, hI_wI_k z, hI_wI_a (by omega), hI_wI_a (by omega)]
        have e2 : ∀ j, hI (wI (wI (wI h1 (q + 4) (8 * m + p_na G.1 m) (nI k)) (q + 2) m (nI (p_na G.1 m + 1))) (q + 3) m (nI (p_nw G.1 m + wd k))) (q + 2) j = if j = m then nI (p_na G.1 m + 1) else hI h1 (q + 2) j := fun j => by
          rw [hI_wI_a (by omega)]
          by_cases z : j = m
          · rw [if_pos z, z]; exact hI_wI_s
          · rw [if_neg z, hI_wI_k z, hI_wI_a (by omega)]
        have e4 : ∀ j, hI (wI (wI (wI h1 (q + 4) (8 * m + p_na G.1 m) (nI k)) (q + 2) m (nI (p_na G.1 m + 1))) (q + 3) m (nI (p_nw G.1 m + wd k))) (q + 4) j = if j = 8 * m + p_na G.1 m then nI k else hI h1 (q + 4) j := fun j => by
          rw [hI_wI_a (by omega), hI_wI_a (by omega)]
          by_cases z : j = 8 * m + p_na G.1 m
          · rw [if_pos z, z]; exact hI_wI_s
          · rw [if_neg z, hI_wI_k z]
        generalize wI (wI (wI h1 (q + 4) (8 * m + p_na G.1 m) (nI k)) (q + 2) m (nI (p_na G.1 m + 1))) (q + 3) m (nI (p_nw G.1 m + wd k)) = g at f2 e3 e2 e4 ⊢
        have eb : ∀ b, b ≤ 13 → b ≠ 0 → ¬ (2 ≤ b ∧ b ≤ 4) → hI g (q + b) = hI h1 (q + b) := fun b h1 h2 h3 => (f2.2.2.2.1 (q + b) (by omega) (by omega)).1
        have mm : PMm g q (pgG G.1 m k) m := by
          obtain ⟨⟨v1, v2, v3, v4, v5⟩, v6, v7, v8⟩ := v1
          refine ⟨⟨by rw [eb 1 (by omega) (by omega) (by omega)]; exact v1, by rw [e2, if_pos rfl, pG_na], by rw [e3, if_pos rfl, pG_nw], by rw [eb 5 (by omega) (by omega) (by omega)]; exact v4, by rw [eb 9 (by omega) (by omega) (by omega)]; exact v5⟩, fun j hj => ?_, fun y hy => by rw [eb 6 (by omega) (by omega) (by omega), eb 7 (by omega) (by omega) (by omega), eb 8 (by omega) (by omega) (by omega)]; exact v7 y hy, fun j hj => by rw [eb 10 (by omega) (by omega) (by omega), eb 11 (by omega) (by omega) (by omega), eb 12 (by omega) (by omega) (by omega), eb 13 (by omega) (by omega) (by omega)]; exact v8 j hj⟩
          rw [pG_na] at hj
          rw [e4, pG_ka]
          by_cases z : j = p_na G.1 m
          · rw [if_pos (by rw [z]), if_pos z]
          · rw [if_neg (by omega), if_neg z]; exact v6 j (by omega)
        have f5 : Fr5 q m h1 g := fun m' hm' => ⟨fun b hb => by
          by_cases b2 : b = 2
          · subst b2; rw [e2, if_neg hm']
          · by_cases b3 : b = 3
            · subst b3; rw [e3, if_neg hm']
            · rw [eb b (by omega) (by omega) (by omega)], fun j hj => by rw [e4, if_neg (by omega)], fun b y h1 h2 hy => by rw [eb b (by omega) (by omega) (by omega)], fun b j h1 h2 hj => by rw [eb b (by omega) (by omega) (by omega)]⟩
        have pm2 : PM g q (pgG G.1 m k) := pm_row gi.1 m1.1.2.1 hm eqm_G f2 (fun b z => by omega) f5 mm
        have i14 : hI g (q + 14) = hI h1 (q + 14) := (f2.2.2.2.1 (q + 14) (by omega) (by omega)).1
        have i22 : hI g (q + 22) = hI h1 (q + 22) := (f2.2.2.2.1 (q + 22) (by omega) (by omega)).1
        have m2 : MG g q (fgt (fgt G G.1) (pgG G.1 m k)) := m1.pg f2 (fun k z => z.elim) (fun b z => by omega) (fun j hj => by rw [i14]; exact z1 j (by have hj : j < p_nm G.1 := hj; omega)) (fun i hi => by rw [i22]; exact z2 i hi) pm2 hnm
        exact ok_some ⟨rfl, m2, (z3.fr (fun b z => by omega)).trans (f2.fr (fun b z => by omega))⟩
end GB
