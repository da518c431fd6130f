/-! constants; an operation is altered: on both sides -/
def s_const (G : Gs) (v : Int64) : Int32 × Gs := if p_nc G.1 = 40 then (-4, G) else (nI (p_nc G.1), fgt G (pgC (pgN G.1 1 0 0 (p_nc G.1 + 1)) (p_nc G.1) v))
section GK
variable {h g : Hp} {o q : Nat} {G : Gs}
theorem paw_c {P P' : Pg} {m : Nat} (e : ∀ k, p_ka P' m k = p_ka P m k) : ∀ k, p_aw P' m k = p_aw P m k := by
  intro k
  induction k with
  | zero => rfl
  | succ k ih => rw [p_aw, p_aw, ih, e k]
theorem pw_const {P : Pg} (pw : PW P) (hc : ¬ p_nc P = 40) (v : Int64) : PW (pgC (pgN P 1 0 0 (p_nc P + 1)) (p_nc P) v) := by
  refine ⟨pw.1, by have := pw.2.1; show p_nc P + 1 ≤ 40; omega, pw.2.2.1, fun m hm => ?_, pw.2.2.2.2⟩
  obtain ⟨w1, w2, w3, w4, w5, w6, w7⟩ := pw.2.2.2.1 m hm
  exact ⟨w1, w2, w3, w4, w5, (paw_c (P := P) (P' := pgC (pgN P 1 0 0 (p_nc P + 1)) (p_nc P) v) (m := m) (fun _ => rfl) (p_na P m)).trans w6, w7⟩
theorem gi_const (gi : GI G) (v : Int64) : GI (s_const G v).2 := by
  unfold s_const
  by_cases c : p_nc G.1 = 40
  · rw [if_pos c]; exact gi
  · rw [if_neg c]; exact gi_fgt gi (pw_const gi.1 c v)
/-- what the program's part of a call on the class's side leaves -/
theorem cq_pg {A : Nat → Prop} {ma ta : Nat → Nat} {P' : Pg} (cg : CG h o G) (va : CGa g o ma ta P' G.2.1 nob nob) (f : Fr A h g) (hA : ∀ b, A b → (o + 1 ≤ b ∧ b ≤ o + 4) ∨ o + 97 ≤ b) : CG g o (fgt G P') ∧ FC (o + 53) h g := by
  obtain ⟨-, vb, vc⟩ := cg
  exact ⟨⟨⟨ma, ta, va⟩, vb.fr f (fun z => by have := hA _ z; omega) (fun z => by have := hA _ z; omega) (fun z => by have := hA _ z; omega), vc.fr f (fun b h1 h2 z => by have := hA _ z; omega)⟩, FC.of f (fun b h1 h2 z => by have := hA _ z; omega)⟩
theorem c_const (gi : GI G) (cg : CG h o G) (v : Int64) : Ok (FX11_constant (some o) v h) (CQ o h (s_const G v)) := by
  obtain ⟨⟨ma, ta, va⟩, ⟨⟨t0, ⟨r0, r1, r2, r3⟩, t52⟩, -⟩, vc⟩ := id cg
  have pc := va.1
  have ap := va.2.1
  have hnc := gi.1.2.1
  unfold FX11_constant s_const
  rw [gR_ok t0, r0, gI_ok pc.1.1, pc.2.1.2.1, nl_40, if_eq (by omega) (by decide)]
  by_cases c : p_nc G.1 = 40
  · rw [if_pos c, if_pos c]
    exact ok_some ⟨rfl, cg, FC.refl⟩
  · rw [if_neg c, if_neg c, gR_ok t0, r0, rcv_ok pc.1.1]
    refine ok_cl (c_forget gi.1 va) (fun _ h1 z => ?_)
    obtain ⟨v1, f1⟩ := z
    obtain ⟨pc1, -⟩ := id v1
    unfold FX4_addConstant
    rw [gR_ok (by rw [f1.1]; exact t0), f1.2.1, r0, rcv_ok pc1.1.1, gI_ok pc1.1.1, pc1.2.1.2.1, gR_ok pc1.1.1, pc1.1.2.1.2.1, sL_n pc1.1.2.2.2.1 (by omega) (by decide), gI_ok (show hT (wL h1 (o + 3) (p_nc G.1) v) (o + 1) = _ from pc1.1.1), show hI (wL h1 (o + 3) (p_nc G.1) v) (o + 1) 3 = _ from pc1.2.1.2.1, nI_1, pI_ok (show hT (wL h1 (o + 3) (p_nc G.1) v) (o + 1) = _ from pc1.1.1), cl_ok]
    have f2 : Fr (fun b => b = o + 1 ∨ b = o + 3) h1 (wI (wL h1 (o + 3) (p_nc G.1) v) (o + 1) 3 (nI (p_nc G.1 + 1))) := (Fr.wL (Or.inr rfl)).trans (Fr.wI (Or.inl rfl))
    have e3 : hI (wI (wL h1 (o + 3) (p_nc G.1) v) (o + 1) 3 (nI (p_nc G.1 + 1))) (o + 1) 3 = nI (p_nc G.1 + 1) := hI_wI_s
    have ek : ∀ k, k ≠ 3 → hI (wI (wL h1 (o + 3) (p_nc G.1) v) (o + 1) 3 (nI (p_nc G.1 + 1))) (o + 1) k = hI h1 (o + 1) k := fun k hk => hI_wI_k hk
    have eL : ∀ j, hL (wI (wL h1 (o + 3) (p_nc G.1) v) (o + 1) 3 (nI (p_nc G.1 + 1))) (o + 3) j = if j = p_nc G.1 then v else hL h1 (o + 3) j := fun j => by
      rw [hL_wI]
      by_cases z : j = p_nc G.1
      · rw [if_pos z, z]; exact hL_wL_s
      · rw [if_neg z]; exact hL_wL_k z
    generalize wI (wL h1 (o + 3) (p_nc G.1) v) (o + 1) 3 (nI (p_nc G.1 + 1)) = g at f2 e3 ek eL ⊢
    have pc2 : PC g o ma ta (pgC (pgN G.1 1 0 0 (p_nc G.1 + 1)) (p_nc G.1) v) := by
      obtain ⟨p1, p2, p3, p4, p5⟩ := pc1
      refine ⟨by rw [f2.1, f2.2.1]; exact p1, ⟨by rw [ek 1 (by decide)]; exact p2.1, e3, by rw [ek 5 (by decide)]; exact p2.2.2⟩, fun m hm => ?_, fun t ht => ?_, fun x hx => ?_⟩
      · obtain ⟨x1, x2, x3⟩ := p3 m hm
        have := ap.1 m hm
        exact ⟨by rw [f2.2.1]; exact x1, by rw [f2.1, f2.2.1]; exact x2, x3.fr f2 (fun b h1 h2 => by omega)⟩
      · obtain ⟨x1, x2, x3⟩ := p4 t ht
        have := ap.2.1 t ht
        exact ⟨by rw [f2.2.1]; exact x1, by rw [f2.1, f2.2.1]; exact x2, x3.fr f2 (fun b h1 h2 => by omega)⟩
      · have hx : x < p_nc G.1 + 1 := hx
        rw [eL]
        show _ = va_up G.1.2.2 (p_nc G.1) v x
        by_cases z : x = p_nc G.1
        · rw [if_pos z, z, va_s]
        · rw [if_neg z, va_n _ _ z]; exact p5 x (by omega)
    have va2 : CGa g o ma ta (pgC (pgN G.1 1 0 0 (p_nc G.1 + 1)) (p_nc G.1) v) G.2.1 nob nob := v1.pg f2 (fun b h1 h2 => by omega) (fun m hm b h1 h2 => by have := ap.1 m hm; omega) (fun m hm => by have := ap.1 m hm; rw [(f2.2.2.2 (ma m) (by omega)).1]; exact ⟨rfl, rfl⟩) pc2 rfl rfl
    have ff : Fr (fun b => (∃ m, m < p_nm G.1 ∧ b = ma m) ∨ b = o + 1 ∨ b = o + 3) h g := (f1.mono (fun b z => Or.inl z)).trans (f2.mono (fun b z => Or.inr z))
    obtain ⟨q1, q2⟩ := cq_pg cg va2 ff (fun b z => by
      rcases z with ⟨m, hm, e⟩ | z | z
      · have := ap.1 m hm; omega
      · omega
      · omega)
    exact ok_some ⟨rfl, q1, q2⟩
theorem d_const (gi : GI G) (mg : MG h q G) (v : Int64) : Ok (FX12_constant (some q) v h) (DQ q h (s_const G v)) := by
  have lm := mg.1.1
  have pm := mg.1.2.1
  have hnc := gi.1.2.1
  have frr : Fr (AMd q) h h := ⟨rfl, rfl, rfl, fun _ _ => ⟨rfl, rfl⟩⟩
  unfold FX12_constant s_const
  rw [gI_ok lm.1, pm.1.2.1, nl_40, if_eq (by omega) (by decide)]
  by_cases c : p_nc G.1 = 40
  · rw [if_pos c, if_pos c]
    exact ok_some ⟨rfl, mg, frr⟩
  · rw [if_neg c, if_neg c, rcv_ok lm.1]
    refine ok_cl (d_change gi mg) (fun _ h1 z => ?_)
    obtain ⟨m1, z1, z2, z3⟩ := z
    have pm1 := m1.1.2.1
    have lm := m1.1.1
    obtain ⟨mt0, ⟨mr1, mt1⟩, ⟨mr2, mt2⟩, ⟨mr3, mt3⟩, ⟨mr4, mt4⟩, ⟨mr5, mt5⟩, ⟨mr6, mt6⟩, ⟨mr7, mt7⟩, ⟨mr8, mt8⟩, ⟨mr9, mt9⟩, ⟨mr10, mt10⟩, ⟨mr11, mt11⟩, ⟨mr12, mt12⟩, ⟨mr13, mt13⟩, ⟨mr14, mt14⟩, ⟨mr15, mt15⟩, ⟨mr16, mt16⟩, ⟨mr17, mt17⟩, ⟨mr18, mt18⟩, ⟨mr19, mt19⟩, ⟨mr20, mt20⟩, ⟨mr21, mt21⟩, ⟨mr22, mt22⟩, ⟨mr23, mt23⟩, ⟨mr24, mt24⟩, ⟨mr25, mt25⟩, ⟨mr26, mt26⟩, ⟨mr27, mt27⟩, ⟨mr28, mt28⟩, ⟨mr29, mt29⟩, ⟨mr30, mt30⟩, ⟨mr31, mt31⟩, ⟨mr32, mt32⟩, ⟨mr33, mt33⟩, ⟨mr34, mt34⟩, ⟨mr35, mt35⟩, ⟨mr36, mt36⟩, ⟨mr37, mt37⟩, ⟨mr38, mt38⟩, ⟨mr39, mt39⟩, ⟨mr40, mt40⟩, ⟨mr41, mt41⟩, ⟨mr42, mt42⟩, ⟨mr43, mt43⟩⟩ := id lm
    have n15 : hI h1 q 15 = nI (p_nc G.1) := pm1.1.2.1
    rw [gR_ok mt0, mr15, gI_ok mt0, n15, sL_n mt15 (by omega) (by decide), gI_ok (show hT (wL h1 (q + 15) (p_nc G.1) v) q = _ from mt0), show hI (wL h1 (q + 15) (p_nc G.1) v) q 15 = _ from n15, nI_1, pI_ok (show hT (wL h1 (q + 15) (p_nc G.1) v) q = _ from mt0), gI_ok (show hT (wI (wL h1 (q + 15) (p_nc G.1) v) q 15 (nI (p_nc G.1 + 1))) q = _ from mt0), hI_wI_s, nI_pred]
    have f1 : Fm q (fun k => k = 15) (fun b => b = q + 15) h1 (wI (wL h1 (q + 15) (p_nc G.1) v) q 15 (nI (p_nc G.1 + 1))) := (Fm.wb (q := q) (F := fun k => k = 15) (A := fun b => b = q + 15) rfl (by omega)).trans (Fm.fI rfl)
    have e15 : hI (wI (wL h1 (q + 15) (p_nc G.1) v) q 15 (nI (p_nc G.1 + 1))) q 15 = nI (p_nc G.1 + 1) := hI_wI_s
    have eI : ∀ b, b ≠ q → hI (wI (wL h1 (q + 15) (p_nc G.1) v) q 15 (nI (p_nc G.1 + 1))) b = hI h1 b := fun b hb => by rw [hI_wI_a hb]; rfl
    have eL : ∀ j, hL (wI (wL h1 (q + 15) (p_nc G.1) v) q 15 (nI (p_nc G.1 + 1))) (q + 15) j = if j = p_nc G.1 then v else hL h1 (q + 15) j := fun j => by
      rw [hL_wI]
      by_cases z : j = p_nc G.1
      · rw [if_pos z, z]; exact hL_wL_s
      · rw [if_neg z]; exact hL_wL_k z
    generalize wI (wL h1 (q + 15) (p_nc G.1) v) q 15 (nI (p_nc G.1 + 1)) = g at f1 e15 eI eL ⊢
    have pm2 : PM g q (pgC (pgN G.1 1 0 0 (p_nc G.1 + 1)) (p_nc G.1) v) := by
      obtain ⟨⟨p1, -, p3⟩, p4, p5, p6, p7, p8⟩ := pm1
      refine ⟨⟨by rw [(f1.2.2.2.2 0 (by decide)).1]; exact p1, e15, by rw [(f1.2.2.2.2 17 (by decide)).1]; exact p3⟩, fun m hm => ?_, fun t ht => ?_, fun x hx => ?_, fun m h1 h2 => ?_, fun t h1 h2 => ?_⟩
      · have := p4 m hm
        unfold PMm at this ⊢
        rw [eI _ (by omega), eI _ (by omega), eI _ (by omega), eI _ (by omega), eI _ (by omega), eI _ (by omega), eI _ (by omega), eI _ (by omega), eI _ (by omega), eI _ (by omega), eI _ (by omega), eI _ (by omega), eI _ (by omega)]
        exact this
      · have := p5 t ht
        unfold PMt at this ⊢
        rw [eI _ (by omega), eI _ (by omega), eI _ (by omega), eI _ (by omega), eI _ (by omega), eI _ (by omega)]
        exact this
      · have hx : x < p_nc G.1 + 1 := hx
        rw [eL]
        show _ = va_up G.1.2.2 (p_nc G.1) v x
        by_cases z : x = p_nc G.1
        · rw [if_pos z, z, va_s]
        · rw [if_neg z, va_n _ _ z]; exact p6 x (by show x < p_nc G.1; omega)
      · rw [eI _ (by omega), eI _ (by omega), eI _ (by omega), eI _ (by omega)]; exact p7 m h1 h2
      · rw [eI _ (by omega)]; exact p8 t h1 h2
    have hn := gi.1.1
    have m2 : MG g q (fgt (fgt G G.1) (pgC (pgN G.1 1 0 0 (p_nc G.1 + 1)) (p_nc G.1) v)) := m1.pg f1 (fun k z => by omega) (fun b z => by omega) (fun m hm => by rw [eI _ (by omega)]; exact z1 m (by have hm : m < p_nm G.1 := hm; omega)) (fun i hi => by rw [eI _ (by omega)]; exact z2 i hi) pm2 hn
    exact ok_some ⟨rfl, m2, (z3.fr (fun b z => by omega)).trans (f1.fr (fun b z => by omega))⟩
end GK
