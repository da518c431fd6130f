/-! what one side leaves of the other -/
section GF
variable {h g : Hp} {o q : Nat} {G : Gs}
theorem LM.fc (lm : LM (hT h) (hR h) q) (f : FC q h g) : LM (hT g) (hR g) q := by
  have e : ∀ k, k ≤ 43 → hT g (q + k) = hT h (q + k) := fun k hk => (f (q + k) (by omega) (by omega)).1
  have e0 : hT g q = hT h q := (f q (by omega) (by omega)).1
  have r0 : hR g q = hR h q := (f q (by omega) (by omega)).2.1
  unfold LM at lm ⊢
  rw [e0, r0, e 1 (by omega), e 2 (by omega), e 3 (by omega), e 4 (by omega), e 5 (by omega), e 6 (by omega), e 7 (by omega), e 8 (by omega), e 9 (by omega), e 10 (by omega), e 11 (by omega), e 12 (by omega), e 13 (by omega), e 14 (by omega), e 15 (by omega), e 16 (by omega), e 17 (by omega), e 18 (by omega), e 19 (by omega), e 20 (by omega), e 21 (by omega), e 22 (by omega), e 23 (by omega), e 24 (by omega), e 25 (by omega), e 26 (by omega), e 27 (by omega), e 28 (by omega), e 29 (by omega), e 30 (by omega), e 31 (by omega), e 32 (by omega), e 33 (by omega), e 34 (by omega), e 35 (by omega), e 36 (by omega), e 37 (by omega), e 38 (by omega), e 39 (by omega), e 40 (by omega), e 41 (by omega), e 42 (by omega), e 43 (by omega)]
  exact lm
theorem Mt.fm {F A : Nat → Prop} {m : Nat} {t : Tab} (v : Mt h q m t) (f : Fm q F A h g) (hA : ∀ b, b = 22 ∨ b = 24 ∨ b = 25 ∨ b = 26 → ¬ A (q + b)) : Mt g q m t := by
  unfold Mt at v ⊢
  rw [(f.2.2.2.1 (q + 22) (by omega) (hA 22 (by omega))).1, (f.2.2.2.1 (q + 24) (by omega) (hA 24 (by omega))).1, (f.2.2.2.1 (q + 25) (by omega) (hA 25 (by omega))).1, (f.2.2.2.1 (q + 26) (by omega) (hA 26 (by omega))).1]
  exact v
theorem MG.fc (mg : MG h q G) (f : FC q h g) : MG g q G := by
  obtain ⟨⟨lm, pm, m1, m2⟩, ⟨⟨g1, g2⟩, g3, g4⟩, mt, ⟨w1, w2⟩, w⟩ := mg
  have ff : Fm q (fun _ => False) (fun b => ¬ (q ≤ b ∧ b ≤ q + 43)) h (hT h, hI g, hL g, hR h, hz h) := ⟨rfl, rfl, rfl, fun b _ hb => by
    have : q ≤ b ∧ b ≤ q + 43 := Decidable.not_not.mp hb
    exact ⟨(f b this.1 this.2).2.2.1, (f b this.1 this.2).2.2.2⟩, fun k _ => by
    have := f q (by omega) (by omega)
    exact ⟨by show hI g q k = _; rw [this.2.2.1], by show hL g q k = _; rw [this.2.2.2]⟩⟩
  have i : ∀ b, b ≤ 43 → hI g (q + b) = hI h (q + b) := fun b hb => (f (q + b) (by omega) (by omega)).2.2.1
  have i0 : hI g q = hI h q := (f q (by omega) (by omega)).2.2.1
  have l0 : hL g q = hL h q := (f q (by omega) (by omega)).2.2.2
  have l29 : hL g (q + 29) = hL h (q + 29) := (f (q + 29) (by omega) (by omega)).2.2.2
  have pm' : PM (hT h, hI g, hL g, hR h, hz h) q G.1 := pm.fm ff (fun b _ _ z => z (by omega)) ⟨fun z => z, fun z => z, fun z => z⟩
  have mt' : MTh (hT h, hI g, hL g, hR h, hz h) q G.2.2.2.2.2.2.2.2.1 := mt.fm ff ⟨fun z => z, fun z => z⟩ (fun b _ _ z => z (by omega))
  have mm' : ∀ m, Mt h q m (G.2.1 m) → Mt (hT h, hI g, hL g, hR h, hz h) q m (G.2.1 m) := fun m z => z.fm ff (fun b _ z => z (by omega))
  refine ⟨⟨lm.fc f, pm', fun m hm => by rw [i 14 (by omega)]; exact m1 m hm, fun m hm => ⟨fun z1 z2 => mm' m ((m2 m hm).1 z1 z2), fun z x hx => by rw [i 22 (by omega)]; exact (m2 m hm).2 z x hx⟩⟩, ⟨⟨by rw [i0]; exact g1, fun j hj => by rw [l29]; exact g2 j hj⟩, by rw [i0]; exact g3, by rw [i0]; exact g4⟩, mt', ⟨by rw [i0]; exact w1, by rw [l0]; exact w2⟩, fun z => by rw [i0]; exact w z⟩
theorem CGa.fr {A : Nat → Prop} {ma ta : Nat → Nat} {P : Pg} {tt : Nat → Tab} {jd gd : Nat → Bool} (v : CGa h o ma ta P tt jd gd) (f : Fr A h g) (hA : ∀ b, (o + 1 ≤ b ∧ b ≤ o + 13) ∨ o + 97 ≤ b → ¬ A b) : CGa g o ma ta P tt jd gd := by
  obtain ⟨pc, ap, jt, ⟨sb, sc⟩, fl, z1, z2, z3⟩ := v
  refine ⟨pc.fr f (fun b hb => hA b ?_), ap, by rw [f.1, f.2.1]; exact jt, ⟨svE (s := o + 6) sb f (fun b h1 h2 => hA b (by omega)), svE (s := o + 10) sc f (fun b h1 h2 => hA b (by omega))⟩, fun m hm => ?_, by rw [f.2.2.1]; exact z1, fun m hm => by rw [f.2.2.1]; exact z2 m hm, fun t ht => by rw [f.2.2.1]; exact z3 t ht⟩
  · rcases hb with hb | ⟨m, hm, h1, h2⟩ | ⟨t, ht, h1, h2⟩
    · omega
    · have := ap.1 m hm; omega
    · have := ap.2.1 t ht; omega
  · have := ap.1 m hm
    obtain ⟨⟨f1, f2⟩, tv⟩ := fl m hm
    refine ⟨⟨by rw [(f.2.2.2 _ (hA _ (by omega))).1]; exact f1, by rw [(f.2.2.2 _ (hA _ (by omega))).1]; exact f2⟩, tv.fr f (hA _ (by omega)) (hA _ (by omega)) (hA _ (by omega)) (hA _ (by omega))⟩
theorem CGb.fr {A : Nat → Prop} {gc : Nat} {gv : Nat → Int64} {ft : Int32 × Int32} (v : CGb h o gc gv ft) (f : Fr A h g) (h0 : ¬ A o) (h5 : ¬ A (o + 5)) (h52 : ¬ A (o + 52)) : CGb g o gc gv ft := by
  unfold CGb at v ⊢
  rw [f.1, f.2.1, (f.2.2.2 o h0).1, (f.2.2.2 (o + 5) h5).1, (f.2.2.2 (o + 52) h52).2]
  exact v
theorem CGc.fr {A : Nat → Prop} {wl : Bool} {R : Nat × Wk} (v : CGc h o wl R) (f : Fr A h g) (hA : ∀ b, o + 14 ≤ b → b ≤ o + 19 → ¬ A b) : CGc g o wl R := by
  obtain ⟨wt, tv, ⟨w6, w5⟩, w⟩ := v
  have e := f.2.2.2 (o + 14) (hA _ (by omega) (by omega))
  exact ⟨wt.fr f, tv.fr f (fun b h1 h2 => hA b (by omega) (by omega)), ⟨by rw [e.1]; exact w6, by rw [e.2]; exact w5⟩, fun z => by rw [e.1]; exact w z⟩
theorem CG.fr {A : Nat → Prop} (v : CG h o G) (f : Fr A h g) (hA : ∀ b, b ≤ o + 52 ∨ o + 97 ≤ b → ¬ A b) : CG g o G := by
  obtain ⟨⟨ma, ta, va⟩, vb, vc⟩ := v
  exact ⟨⟨ma, ta, va.fr f (fun b hb => hA b (by omega))⟩, vb.fr f (hA _ (by omega)) (hA _ (by omega)) (hA _ (by omega)), vc.fr f (fun b h1 h2 => hA b (by omega))⟩
theorem FC.of {A : Nat → Prop} (f : Fr A h g) (hA : ∀ b, q ≤ b → b ≤ q + 43 → ¬ A b) : FC q h g := fun b h1 h2 => ⟨by rw [f.1], by rw [f.2.1], (f.2.2.2 b (hA b h1 h2)).1, (f.2.2.2 b (hA b h1 h2)).2⟩
theorem FC.trans {k : Hp} (a : FC q h g) (b : FC q g k) : FC q h k := fun x h1 h2 => ⟨(b x h1 h2).1.trans (a x h1 h2).1, (b x h1 h2).2.1.trans (a x h1 h2).2.1, (b x h1 h2).2.2.1.trans (a x h1 h2).2.2.1, (b x h1 h2).2.2.2.trans (a x h1 h2).2.2.2⟩
theorem FC.refl : FC q h h := fun _ _ _ => ⟨rfl, rfl, rfl, rfl⟩
def CQ (o : Nat) (h : Hp) (X : Int32 × Gs) : Int32 → Hp → Prop := fun r g => r = X.1 ∧ CG g o X.2 ∧ FC (o + 53) h g
def DQ (q : Nat) (h : Hp) (X : Int32 × Gs) : Int32 → Hp → Prop := fun r g => r = X.1 ∧ MG g q X.2 ∧ Fr (AMd q) h g
theorem Fm.fr {F A : Nat → Prop} (f : Fm q F A h g) (hA : ∀ b, A b → q ≤ b ∧ b ≤ q + 43) : Fr (AMd q) h g := ⟨f.1, f.2.1, f.2.2.1, fun b hb => f.2.2.2.1 b (fun z => hb (by rw [z]; exact ⟨by omega, by omega⟩)) (fun z => hb (hA b z))⟩
/-- something is given -/
def s_give (G : Gs) (v : Int64) : Int32 × Gs := if G.2.2.2.1.1 = 8 then (-4, G) else (nI (G.2.2.2.1.1 + 1), G.1, G.2.1, G.2.2.1, (G.2.2.2.1.1 + 1, va_up G.2.2.2.1.2 G.2.2.2.1.1 v), G.2.2.2.2)
theorem c_give (gi : GI G) (cg : CG h o G) (v : Int64) : Ok (FX11_give (some o) v h) (CQ o h (s_give G v)) := by
  obtain ⟨⟨ma, ta, va⟩, ⟨⟨t0, ⟨r0, r1, r2, r3⟩, t52⟩, ⟨g4, g5⟩, f3, f4⟩, vc⟩ := id cg
  have g8 := gi.2.1
  unfold FX11_give s_give
  rw [gI_ok t0, g4, nl_8, if_eq (by omega) (by decide)]
  by_cases c : G.2.2.2.1.1 = 8
  · rw [if_pos c, if_pos c]
    exact ok_some ⟨rfl, cg, FC.refl⟩
  · rw [if_neg c, if_neg c, gR_ok t0, r3, gI_ok t0, g4, sL_n t52 (by omega) (by decide), gI_ok (show hT (wL h (o + 52) G.2.2.2.1.1 v) o = _ from t0), show hI (wL h (o + 52) G.2.2.2.1.1 v) o 4 = _ from g4, nI_1, pI_ok (show hT (wL h (o + 52) G.2.2.2.1.1 v) o = _ from t0), gI_ok (show hT (wI (wL h (o + 52) G.2.2.2.1.1 v) o 4 (nI (G.2.2.2.1.1 + 1))) o = _ from t0), hI_wI_s]
    have f1 : Fr (fun b => b = o ∨ b = o + 52) h (wI (wL h (o + 52) G.2.2.2.1.1 v) o 4 (nI (G.2.2.2.1.1 + 1))) := (Fr.wL (Or.inr rfl)).trans (Fr.wI (Or.inl rfl))
    have e4 : hI (wI (wL h (o + 52) G.2.2.2.1.1 v) o 4 (nI (G.2.2.2.1.1 + 1))) o 4 = nI (G.2.2.2.1.1 + 1) := hI_wI_s
    have e5 : ∀ j, hL (wI (wL h (o + 52) G.2.2.2.1.1 v) o 4 (nI (G.2.2.2.1.1 + 1))) (o + 52) j = if j = G.2.2.2.1.1 then v else hL h (o + 52) j := fun j => by
      rw [hL_wI]
      by_cases z : j = G.2.2.2.1.1
      · rw [if_pos z, z]; exact hL_wL_s
      · rw [if_neg z]; exact hL_wL_k z
    generalize wI (wL h (o + 52) G.2.2.2.1.1 v) o 4 (nI (G.2.2.2.1.1 + 1)) = g at f1 e4 e5 ⊢
    have e55 : hI g (o + 5) = hI h (o + 5) := (f1.2.2.2 _ (by omega)).1
    refine ok_some ⟨rfl, ⟨⟨ma, ta, va.fr f1 (fun b hb => by omega)⟩, ⟨⟨by rw [f1.1]; exact t0, by rw [f1.2.1]; exact ⟨r0, r1, r2, r3⟩, by rw [f1.1]; exact t52⟩, ⟨e4, fun j hj => ?_⟩, by rw [e55]; exact f3, by rw [e55]; exact f4⟩, vc.fr f1 (fun b h1 h2 => by omega)⟩, FC.of f1 (fun b h1 h2 => by omega)⟩
    rw [e5]
    show _ = va_up G.2.2.2.1.2 G.2.2.2.1.1 v j
    by_cases z : j = G.2.2.2.1.1
    · rw [if_pos z, z, va_s]
    · rw [if_neg z, va_n _ _ z]; exact g5 j hj
theorem d_give (gi : GI G) (mg : MG h q G) (v : Int64) : Ok (FX12_give (some q) v h) (DQ q h (s_give G v)) := by
  obtain ⟨⟨lm, pm, m1, m2⟩, ⟨⟨g1, g2⟩, g3, g4⟩, mt, ⟨w1, w2⟩, w⟩ := id mg
  have g8 := gi.2.1
  obtain ⟨mt0, ⟨mr1, mt1⟩, ⟨mr2, mt2⟩, ⟨mr3, mt3⟩, ⟨mr4, mt4⟩, ⟨mr5, mt5⟩, ⟨mr6, mt6⟩, ⟨mr7, mt7⟩, ⟨mr8, mt8⟩, ⟨mr9, mt9⟩, ⟨mr10, mt10⟩, ⟨mr11, mt11⟩, ⟨mr12, mt12⟩, ⟨mr13, mt13⟩, ⟨mr14, mt14⟩, ⟨mr15, mt15⟩, ⟨mr16, mt16⟩, ⟨mr17, mt17⟩, ⟨mr18, mt18⟩, ⟨mr19, mt19⟩, ⟨mr20, mt20⟩, ⟨mr21, mt21⟩, ⟨mr22, mt22⟩, ⟨mr23, mt23⟩, ⟨mr24, mt24⟩, ⟨mr25, mt25⟩, ⟨mr26, mt26⟩, ⟨mr27, mt27⟩, ⟨mr28, mt28⟩, ⟨mr29, mt29⟩, ⟨mr30, mt30⟩, ⟨mr31, mt31⟩, ⟨mr32, mt32⟩, ⟨mr33, mt33⟩, ⟨mr34, mt34⟩, ⟨mr35, mt35⟩, ⟨mr36, mt36⟩, ⟨mr37, mt37⟩, ⟨mr38, mt38⟩, ⟨mr39, mt39⟩, ⟨mr40, mt40⟩, ⟨mr41, mt41⟩, ⟨mr42, mt42⟩, ⟨mr43, mt43⟩⟩ := id lm
  unfold FX12_give s_give
  rw [gI_ok mt0, g1, nl_8, if_eq (by omega) (by decide)]
  by_cases c : G.2.2.2.1.1 = 8
  · rw [if_pos c, if_pos c]
    exact ok_some ⟨rfl, mg, rfl, rfl, rfl, fun _ _ => ⟨rfl, rfl⟩⟩
  · rw [if_neg c, if_neg c, gR_ok mt0, mr29, gI_ok mt0, g1, sL_n mt29 (by omega) (by decide), gI_ok (show hT (wL h (q + 29) G.2.2.2.1.1 v) q = _ from mt0), show hI (wL h (q + 29) G.2.2.2.1.1 v) q 34 = _ from g1, nI_1, pI_ok (show hT (wL h (q + 29) G.2.2.2.1.1 v) q = _ from mt0), gI_ok (show hT (wI (wL h (q + 29) G.2.2.2.1.1 v) q 34 (nI (G.2.2.2.1.1 + 1))) q = _ from mt0), hI_wI_s]
    have f1 : Fm q (fun k => k = 34) (fun b => b = q + 29) h (wI (wL h (q + 29) G.2.2.2.1.1 v) q 34 (nI (G.2.2.2.1.1 + 1))) := (Fm.wb (q := q) (F := fun k => k = 34) (A := fun b => b = q + 29) rfl (by omega)).trans (Fm.fI rfl)
    have e4 : hI (wI (wL h (q + 29) G.2.2.2.1.1 v) q 34 (nI (G.2.2.2.1.1 + 1))) q 34 = nI (G.2.2.2.1.1 + 1) := hI_wI_s
    have e5 : ∀ j, hL (wI (wL h (q + 29) G.2.2.2.1.1 v) q 34 (nI (G.2.2.2.1.1 + 1))) (q + 29) j = if j = G.2.2.2.1.1 then v else hL h (q + 29) j := fun j => by
      rw [hL_wI]
      by_cases z : j = G.2.2.2.1.1
      · rw [if_pos z, z]; exact hL_wL_s
      · rw [if_neg z]; exact hL_wL_k z
    generalize wI (wL h (q + 29) G.2.2.2.1.1 v) q 34 (nI (G.2.2.2.1.1 + 1)) = g at f1 e4 e5 ⊢
    have k : ∀ k, k ≠ 34 → hI g q k = hI h q k ∧ hL g q k = hL h q k := fun k hk => f1.2.2.2.2 k hk
    refine ok_some ⟨rfl, ⟨⟨lm.fm f1, pm.fm f1 (fun b _ _ => by omega) ⟨by decide, by decide, by decide⟩, fun m hm => by rw [(f1.2.2.2.1 (q + 14) (by omega) (by omega)).1]; exact m1 m hm, fun m hm => ⟨fun z1 z2 => ((m2 m hm).1 z1 z2).fm f1 (fun b _ => by omega), fun z x hx => by rw [(f1.2.2.2.1 (q + 22) (by omega) (by omega)).1]; exact (m2 m hm).2 z x hx⟩⟩, ⟨⟨e4, fun j hj => ?_⟩, by rw [(k 32 (by decide)).1]; exact g3, by rw [(k 33 (by decide)).1]; exact g4⟩, mt.fm f1 ⟨by decide, by decide⟩ (fun b _ _ => by omega), ⟨by rw [(k 54 (by decide)).1]; exact w1, by rw [(k 55 (by decide)).2]; exact w2⟩, fun z => by rw [(k 56 (by decide)).1, (k 57 (by decide)).1, (k 58 (by decide)).1, (k 59 (by decide)).1, (k 60 (by decide)).1, (k 61 (by decide)).1, (k 62 (by decide)).1, (k 63 (by decide)).1]; exact w z⟩, f1.fr (fun b z => by omega)⟩
    rw [e5]
    show _ = va_up G.2.2.2.1.2 G.2.2.2.1.1 v j
    by_cases z : j = G.2.2.2.1.1
    · rw [if_pos z, z, va_s]
    · rw [if_neg z, va_n _ _ z]; exact g2 j hj
theorem gi_give (gi : GI G) (v : Int64) : GI (s_give G v).2 := by
  unfold s_give
  split
  · exact gi
  · exact ⟨gi.1, by have := gi.2.1; show G.2.2.2.1.1 + 1 ≤ 8; omega, gi.2.2⟩
end GF
