/-! walking, on both sides -/
def agd (G : Gs) : Bool := (List.range (p_nm G.1)).all G.2.2.1.2
def wkR (G : Gs) (m s : Nat) (L : Nat → Nat → Int64) : Nat × Wk := w_run G.1 s 0 (w_0 G.1 m G.2.2.2.1.2 L)
def s_walk (G : Gs) (x n : Int32) (L : Nat → Nat → Int64) : Int32 × Gs := if wi x (p_nm G.1) = true then (if wi n 3001 = true then (if agd G = true ∧ G.2.2.2.1.1 = p_na G.1 (cN x) then (nI (w_ans (wkR G (cN x) (cN n) L).2), G.1, G.2.1, G.2.2.1, (0, G.2.2.2.1.2), G.2.2.2.2.1, true, wkR G (cN x) (cN n) L) else (-3, G)) else (-2, G)) else (-2, G)
section GW
variable {h g : Hp} {o q : Nat} {G : Gs}
theorem agd_iff : agd G = true ↔ ∀ m, m < p_nm G.1 → G.2.2.1.2 m = true := by
  unfold agd
  rw [List.all_eq_true]
  exact ⟨fun z m hm => z m (List.mem_range.mpr hm), fun z m hm => z m (List.mem_range.mp hm)⟩
theorem gi_st (gi : GI G) (ha : agd G = true) : ST G.1 G.2.1 := fun m hm => (gi.2.2 m hm (agd_iff.mp ha m hm)).2
theorem gi_walk (gi : GI G) (x n : Int32) (L : Nat → Nat → Int64) : GI (s_walk G x n L).2 := by
  unfold s_walk
  split
  · split
    · split
      · exact ⟨gi.1, Nat.zero_le 8, gi.2.2⟩
      · exact gi
    · exact gi
  · exact gi
theorem argG_c {P : Pg} {m : Nat} {gv gw : Nat → Int64} {l : Nat → Int64} : ∀ k, (∀ j, j < k → gv j = gw j) → argG P m gv k l = argG P m gw k l := by
  intro k
  induction k with
  | zero => intro _; rfl
  | succ k ih =>
    intro e
    rw [argG, argG, ih (fun j hj => e j (by omega)), e k (by omega)]
theorem w_0_c {P : Pg} {m : Nat} {gv gw : Nat → Int64} {L : Nat → Nat → Int64} (e : ∀ j, j < p_na P m → gv j = gw j) : w_0 P m gv L = w_0 P m gw L := by
  unfold w_0
  rw [argG_c (p_na P m) e]
theorem c_all {ma ta : Nat → Nat} (gi : GI G) (va : CGa h o ma ta G.1 G.2.1 G.2.2.1.1 G.2.2.1.2) : FX4_allFaultless (some (o + 1)) h = some (b2i (agd G), h) := by
  obtain ⟨pc, ap, jt, ⟨sb, sc⟩, fl, z1, z2, z3⟩ := va
  have hnm := gi.1.1
  have lp : ∀ (f k : Nat), k ≤ p_nm G.1 → p_nm G.1 - k < f → (∀ x, x < k → G.2.2.1.2 x = true) → BX4_allFaultless_2 f (some (o + 1)) (nI k) h = some (b2i (agd G), h) := by
    intro f
    induction f with
    | zero => intro k h1 h2; omega
    | succ f ih =>
      intro k h1 h2 hk
      unfold BX4_allFaultless_2
      rw [gI_ok pc.1.1, pc.2.1.1, if_lt (by omega) (by omega)]
      by_cases c : k < p_nm G.1
      · obtain ⟨x1, x2, x3⟩ := pc.2.2.1 k c
        rw [if_pos c, gR_ok pc.1.1, pc.1.2.1.1, aR_n pc.1.2.2.1 (by omega) (by decide), x1, gI_ok x2.1, (fl k c).1.2, b2i_if]
        cases hg : G.2.2.1.2 k with
        | false =>
          have : agd G = false := by
            cases ha : agd G with
            | false => rfl
            | true => rw [agd_iff.mp ha k c] at hg; cases hg
          rw [if_neg (by decide), this, bz_0]; rfl
        | true =>
          rw [if_pos rfl, nI_1]
          exact ih (k + 1) (by omega) (by omega) (fun x hx => by
            by_cases y : x = k
            · subst y; exact hg
            · exact hk x (by omega))
      · have : agd G = true := agd_iff.mpr (fun m hm => hk m (by omega))
        rw [if_neg c, this, bz_1]; rfl
  unfold FX4_allFaultless
  rw [nI_c0]
  exact lp 100000 0 (by omega) (by omega) (fun x hx => by omega)
theorem CGa.fu {ma ta : Nat → Nat} {P : Pg} {tt : Nat → Tab} {jd gd : Nat → Bool} (v : CGa h o ma ta P tt jd gd) (pcg : PC g o ma ta P) (e1 : hT g = hT h) (e2 : hz g = hz h) (e3 : ∀ b, ¬ (o + 14 ≤ b ∧ b ≤ o + 51) → b ≠ o → hI g b = hI h b ∧ hL g b = hL h b ∧ hR g b = hR h b) : CGa g o ma ta P tt jd gd := by
  have ap := v.2.1
  have fr : Fr (fun b => (o + 14 ≤ b ∧ b ≤ o + 51) ∨ b = o) h (hT h, hI g, hL g, hR h, hz h) := ⟨rfl, rfl, rfl, fun b hb => ⟨(e3 b (fun z => hb (Or.inl z)) (fun z => hb (Or.inr z))).1, (e3 b (fun z => hb (Or.inl z)) (fun z => hb (Or.inr z))).2.1⟩⟩
  obtain ⟨-, -, jt, ⟨sb, sc⟩, fl, z1, z2, z3⟩ := v.fr fr (fun b hb z => by omega)
  have er : ∀ b, ¬ (o + 14 ≤ b ∧ b ≤ o + 51) → b ≠ o → hR g b = hR h b := fun b hb h0 => (e3 b hb h0).2.2
  have jt : JT (hT h) (hR h) o := jt
  refine ⟨pcg, ap, ?_, ⟨?_, ?_⟩, fun m hm => ⟨(fl m hm).1, ?_⟩, by rw [e2]; exact z1, fun m hm => by rw [e2]; exact z2 m hm, fun t ht => by rw [e2]; exact z3 t ht⟩
  · unfold JT at jt ⊢
    rw [e1, er (o + 5) (by omega) (by omega)]; exact jt
  · obtain ⟨s, u⟩ := sb
    refine ⟨s, ?_⟩
    unfold SvB Sv Wv at u ⊢
    rw [e1, er (o + 6) (by omega) (by omega), er (o + 7) (by omega) (by omega)]; exact u
  · obtain ⟨s, u⟩ := sc
    refine ⟨s, ?_⟩
    unfold SvC Sv Wv at u ⊢
    rw [e1, er (o + 10) (by omega) (by omega), er (o + 11) (by omega) (by omega)]; exact u
  · have h97 := ap.1 m hm
    have u := (fl m hm).2
    unfold Tv at u ⊢
    rw [e1, er (ma m + 9) (by omega) (by omega)]; exact u
theorem c_walk (gi : GI G) (cg : CG h o G) (x n : Int32) : Ok (FX11_walk (some o) x n h) (fun r g => ∃ L, CQ o h (s_walk G x n L) r g) := by
  obtain ⟨⟨ma, ta, va⟩, ⟨⟨t0, ⟨r0, r1, r2, r3⟩, t52⟩, ⟨g4, g5⟩, f3, f4⟩, vc⟩ := id cg
  obtain ⟨pc, ap, jt, -⟩ := id va
  have hnm := gi.1.1
  have g8 := gi.2.1
  unfold FX11_walk
  rw [gR_ok t0, r0, rcv_ok pc.1.1]
  cases hx : wi x (p_nm G.1) with
  | false =>
    rw [f_findM_no pc gi.1 hx, cl_ok, nz_no]
    exact ok_some ⟨fun _ _ => 0, by unfold s_walk; rw [if_neg (by rw [hx]; decide)]; exact ⟨rfl, cg, FC.refl⟩⟩
  | true =>
    obtain ⟨m, hm, rfl, ec⟩ := wi_ex (by omega) hx
    obtain ⟨y1, y2, y3⟩ := pc.2.2.1 m hm
    have wm := gi.1.2.2.2.1 m hm
    have hna := wm.2.1
    rw [f_findM pc gi.1 hm, cl_ok, nz_ok]
    cases hn : wi n 3001 with
    | false =>
      have out : Ok (some ((-2 : Int32), h)) (fun r g => ∃ L, CQ o h (s_walk G (nI m) n L) r g) := ok_some ⟨fun _ _ => 0, by unfold s_walk; rw [if_pos hx, if_neg (by rw [hn]; decide)]; exact ⟨rfl, cg, FC.refl⟩⟩
      by_cases c : n < 0
      · rw [if_pos c]; exact out
      · have nz := i_neg0 (by decide) hn
        have c3 : (3000 : Int32) < n := by
          have z : ¬ n < nI 3001 := fun w => nz ⟨c, w⟩
          rw [i32_lt, nI_tI (by decide)] at z
          rw [i32_lt, show (3000 : Int32).toInt = 3000 from by decide]
          omega
        rw [if_neg c, if_pos c3]; exact out
    | true =>
      obtain ⟨s, hs, rfl, es⟩ := wi_ex (by decide) hn
      rw [il_0 (by omega), nl_3000, if_lt (by decide) (by omega), if_neg (by omega), gR_ok t0, r0, rcv_ok pc.1.1, c_all gi va, cl_ok, b2i_if]
      have out : ¬ (agd G = true ∧ G.2.2.2.1.1 = p_na G.1 m) → Ok (some ((-3 : Int32), h)) (fun r g => ∃ L, CQ o h (s_walk G (nI m) (nI s) L) r g) := fun z => ok_some ⟨fun _ _ => 0, by unfold s_walk; rw [if_pos hx, if_pos hn, ec, if_neg z]; exact ⟨rfl, cg, FC.refl⟩⟩
      cases ha : agd G with
      | false =>
        rw [if_neg (by decide)]
        exact out (fun z => by rw [ha] at z; cases z.1)
      | true =>
        rw [if_pos rfl, gI_ok t0, g4, gI_ok y2.1, y3.1.2.1, if_eq (by omega) (by omega)]
        by_cases c : G.2.2.2.1.1 = p_na G.1 m
        · rw [if_pos c, pI_ok t0]
          have st := gi_st gi ha
          have f1 : Fr (fun b => b = o) h (wI h o 4 0) := Fr.wI rfl
          have e4 : hI (wI h o 4 0) o 4 = nI 0 := hI_wI_s
          have eL : hL (wI h o 4 0) = hL h := rfl
          generalize wI h o 4 0 = h1 at f1 e4 eL ⊢
          have u0 : hT h1 o = some (.inl 10) := by rw [f1.1]; exact t0
          have u52 : hT h1 (o + 52) = some (.inr (.long, 8)) := by rw [f1.1]; exact t52
          have wt1 : WT (hT h1) (hR h1) o := vc.1.fr f1
          have va1 := va.fr f1 (fun b hb => by omega)
          rw [gR_ok u0, f1.2.1, r2, gR_ok u0, f1.2.1, r3, rcv_ok wt1.1.1]
          refine ok_cl (f_start gi.1 ap hm va1.1 wt1 u52) (fun _ h2 z => ?_)
          obtain ⟨z1, z2, z3, z4, z5, z6, z7⟩ := z
          have v0 : hT h2 o = some (.inl 10) := by rw [z4]; exact u0
          have vr : hR h2 o 2 = some (o + 14) := by rw [(z6 o (by omega)).2.2, f1.2.1]; exact r2
          rw [gR_ok v0, vr, rcv_ok z1.1.1.1]
          unfold FX9_run
          rw [pI_ok z1.1.1.1]
          have f3' : Fr (fun b => b = o + 14) h2 (wI h2 (o + 14) 10 0) := Fr.wI rfl
          have ek : ∀ x, x ≠ 10 → hI (wI h2 (o + 14) 10 0) (o + 14) x = hI h2 (o + 14) x := fun x hx => hI_wI_k hx
          have e10 : hI (wI h2 (o + 14) 10 0) (o + 14) 10 = nI 0 := hI_wI_s
          have lL : hL (wI h2 (o + 14) 10 0) = hL h2 := rfl
          have lR : hR (wI h2 (o + 14) 10 0) = hR h2 := rfl
          generalize wI h2 (o + 14) 10 0 = h3 at f3' ek e10 lL lR ⊢
          have cw3 := z1.kp f3' (fun b z => Or.inl z) (fun k hk => ek k (by omega)) (by rw [lL]) (fun c hc k hk => by rw [(f3'.2.2.2 _ (by omega)).1])
          have pc3 : PC h3 o ma ta G.1 := z3.fr f3' (fun b hb z => by
            rcases hb with hb | ⟨k, hk, hb⟩ | ⟨k, hk, hb⟩
            · omega
            · have := ap.1 k hk; omega
            · have := ap.2.1 k hk; omega)
          have e0 : w_0 G.1 m (hL h1 (o + 52)) (fun c => hL h1 (o + 25 + 5 * c)) = w_0 G.1 m G.2.2.2.1.2 (fun c => hL h1 (o + 25 + 5 * c)) := w_0_c (fun j hj => by rw [eL]; exact g5 j (by omega))
          rw [e0] at cw3
          refine ok_cl (cr_loop gi.1 ap st (show s ≤ 3000 by omega) 100000 s 0 _ h3 (by omega) (by omega) (wi_0 gi.1 st hm _ _) pc3 cw3 e10) (fun res k y => ok_some ⟨fun c => hL h1 (o + 25 + 5 * c), ?_⟩)
          obtain ⟨k1, k2, k3, k4, k5, -⟩ := y
          unfold s_walk
          rw [if_pos hx, if_pos hn, ec, es, if_pos ⟨ha, c⟩]
          have kT : hT k = hT h := by rw [k5.1, f3'.1, z4, f1.1]
          have kz : hz k = hz h := by rw [k5.2.1, f3'.2.2.1, z5, f1.2.2.1]
          have kb : ∀ b, ¬ (o + 14 ≤ b ∧ b ≤ o + 51) → b ≠ o → hI k b = hI h b ∧ hL k b = hL h b ∧ hR k b = hR h b := by
            intro b hb h0
            have q1 := k5.2.2.1 b hb
            have q2 := f3'.2.2.2 b (by omega)
            have q3 := z6 b hb
            have q4 := f1.2.2.2 b h0
            exact ⟨by rw [q1.1, q2.1, q3.1, q4.1], by rw [q1.2.1, q2.2, q3.2.1, q4.2], by rw [q1.2.2, lR, q3.2.2, f1.2.1]⟩
          have ko : hI k o = hI h1 o ∧ hR k o = hR h o := by
            have q1 := k5.2.2.1 o (by omega)
            have q2 := f3'.2.2.2 o (by omega)
            have q3 := z6 o (by omega)
            exact ⟨by rw [q1.1, q2.1, q3.1], by rw [q1.2.2, lR, q3.2.2, f1.2.1]⟩
          obtain ⟨w1, w2, ⟨w3, -⟩, -, -, w4, w5, w6⟩ := k2
          refine ⟨k1, ⟨⟨ma, ta, va.fu k4 kT kz kb⟩, ⟨⟨by rw [kT]; exact t0, by rw [ko.2]; exact ⟨r0, r1, r2, r3⟩, by rw [kT]; exact t52⟩, ⟨by rw [ko.1]; exact e4, fun j hj => by rw [(kb (o + 52) (by omega) (by omega)).2.1]; exact g5 j hj⟩, by rw [(kb (o + 5) (by omega) (by omega)).1]; exact f3, by rw [(kb (o + 5) (by omega) (by omega)).1]; exact f4⟩, w1, w2, ⟨?_, w6⟩, fun _ => ⟨w3, w4, k3, w5⟩⟩, fun b h1 h2 => ⟨by rw [kT], (kb b (by omega) (by omega)).2.2, (kb b (by omega) (by omega)).1, (kb b (by omega) (by omega)).2.1⟩⟩
          rw [k5.2.2.2.2, ek 6 (by decide)]; exact z2
        · rw [if_neg c]
          exact out (fun z => c z.2)
theorem d_walk (gi : GI G) (mg : MG h q G) (x n : Int32) (L : Nat → Nat → Int64) : Ok (FX12_walk (some q) x n h) (DQ q h (s_walk G x n L)) := by
  obtain ⟨⟨lm, pm, m1, m2⟩, ⟨⟨g1, g2⟩, g3, g4⟩, mt, ⟨w1, w2⟩, w⟩ := id mg
  have hnm := gi.1.1
  have g8 := gi.2.1
  have frr : Fr (AMd q) h h := ⟨rfl, rfl, rfl, fun _ _ => ⟨rfl, rfl⟩⟩
  unfold FX12_walk s_walk
  rw [rcv_ok lm.1, f_isM lm pm gi.1, cl_ok, b2i_if]
  cases hx : wi x (p_nm G.1) with
  | false =>
    rw [if_neg (by decide), if_neg (by decide)]
    exact ok_some ⟨rfl, mg, frr⟩
  | true =>
    obtain ⟨m, hm, rfl, ec⟩ := wi_ex (by omega) hx
    rw [if_pos rfl, if_pos rfl, in_3000, cl_ok, b2i_if]
    cases hn : wi n 3001 with
    | false =>
      rw [if_neg (by decide), if_neg (by decide)]
      exact ok_some ⟨rfl, mg, frr⟩
    | true =>
      obtain ⟨s, hs, rfl, es⟩ := wi_ex (by decide) hn
      rw [if_pos rfl, if_pos rfl, ec, es]
      have wm := gi.1.2.2.2.1 m hm
      have hna := wm.2.1
      show Ok (BX12_walk_28 100000 (some q) (nI m) (nI s) (b2i true) (nI 0) h) _
      refine w_28 (P := G.1) (gd := G.2.2.1.2) (na := p_na G.1 m) (gc := G.2.2.2.1.1) lm (by omega) hnm pm.1.1 m1 (pm.2.1 m hm).1.2.1 g1 (by omega) (by omega) (fun z => ?_) (fun z1 z2 => ?_) 100000 0 true (by omega) (by omega) ⟨fun _ x hx => by omega, fun _ => rfl⟩
      · rw [if_neg (fun y => z ⟨agd_iff.mp y.1, y.2⟩)]
        exact ⟨rfl, mg, frr⟩
      · have ha : agd G = true := agd_iff.mpr z1
        rw [if_pos ⟨ha, z2⟩]
        have st := gi_st gi ha
        refine (m_start gi.1 st hm (show s ≤ 3000 by omega) (gv := G.2.2.2.1.2) L lm pm (by rw [← z2]; exact g1) (fun j hj => g2 j (by omega))).mono (fun r k y => ?_)
        obtain ⟨y1, ⟨l1, p1, t1, -, -, k1, k2⟩, y3, y4, ⟨y5, y6⟩, y7⟩ := y
        have nA : ∀ b, b ≤ 32 → ¬ AW q (q + b) := fun b hb z => by unfold AW at z; omega
        refine ⟨y1, ⟨⟨l1, p1, fun m' hm' => by rw [(y7.2.2.2.1 (q + 14) (by omega) (nA 14 (by omega))).1]; exact m1 m' hm', fun m' hm' => ⟨fun u1 u2 => ((m2 m' hm').1 u1 u2).fm y7 (fun b hb => nA b (by omega)), fun u i hi => by rw [(y7.2.2.2.1 (q + 22) (by omega) (nA 22 (by omega))).1]; exact (m2 m' hm').2 u i hi⟩⟩, ⟨⟨y5, fun j hj => by rw [(y7.2.2.2.1 (q + 29) (by omega) (nA 29 (by omega))).2]; exact g2 j hj⟩, by rw [(y7.2.2.2.2 32 (by unfold FWs FWz FWk; omega)).1]; exact g3, by rw [(y7.2.2.2.2 33 (by unfold FWs FWz FWk; omega)).1]; exact g4⟩, t1, ⟨y6, k1.2⟩, fun _ => ⟨y4, k2, y3, k1.1⟩⟩, y7.fr (fun b z => by unfold AW at z; omega)⟩
end GW
