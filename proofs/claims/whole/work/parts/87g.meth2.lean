/-! a method is made: the class -/
section GS2
variable {h g : Hp} {o q : Nat} {G : Gs} {P : Pg}
theorem c_meth (gi : GI G) (cg : CG h o G) (x : Int32) : Ok (FX11_method (some o) x h) (CQ o h (s_meth G x)) := by
  obtain ⟨⟨ma, ta, va⟩, vb, vc⟩ := id cg
  obtain ⟨⟨t0, ⟨r0, r1, r2, r3⟩, t52⟩, -⟩ := id vb
  have pc := va.1
  have ap := va.2.1
  have hnm := gi.1.1
  unfold FX11_method s_meth
  rw [nl_6, f_wi _ (by decide), cl_ok, b2i_if]
  cases hv : wi x 6 with
  | false =>
    rw [if_neg (by decide), if_neg (by decide)]
    exact ok_some ⟨rfl, cg, FC.refl⟩
  | true =>
    obtain ⟨j, hj, rfl, ej⟩ := wi_ex (by decide) hv
    rw [if_pos rfl, if_pos rfl, ej, gR_ok t0, r0, gI_ok pc.1.1, pc.2.1.1, nl_8, if_eq (by omega) (by decide)]
    by_cases c8 : p_nm G.1 = 8
    · rw [if_pos c8, if_pos c8]
      exact ok_some ⟨rfl, cg, FC.refl⟩
    · rw [if_neg c8, if_neg c8, gR_ok t0, r0, rcv_ok pc.1.1]
      refine ok_cl (c_forget gi.1 va) (fun _ h1 z => ?_)
      obtain ⟨v1, f1⟩ := z
      obtain ⟨pc1, -, jt1, ⟨⟨sb, sb1⟩, ⟨sc, sc1⟩⟩, fl1, y1, y2, y3⟩ := id v1
      obtain ⟨⟨q1, ⟨q0, q2, q4⟩, u2, u3, u4⟩, ⟨n1, n3, n5⟩, pm, pt, pk⟩ := id pc1
      rw [gR_ok (by rw [f1.1]; exact t0), f1.2.1, r0, rcv_ok q1]
      unfold FX4_addMethod
      rw [gI_ok q1, n1, gR_ok q1, q0, nA_ok, nz_ok]
      have tz : hT (aN h1 (.inl 2)) (hz h1) = some (.inl 2) := aN_new.1
      have oi := i_2 (h := aN h1 (.inl 2)) (a := hz h1) (p := nI j) tz hz_aN
      refine ok_cl (Q := CQ o h (nI (p_nm G.1), fgt (gtt G (p_nm G.1)) (pgM G.1 j))) (ok_cl oi (fun _ g0 z => ?_)) (fun r g z => ok_some z)
      obtain ⟨ob, mtn, ⟨i0, i2, i3, i7, i12⟩, ⟨i14, i15⟩, tvn⟩ := z
      have zg : hz g0 = hz h1 + 14 := by rw [ob.1, hz_aN]
      have sm0 : ∀ b, b < hz h1 → Sm h1 g0 b := fun b hb => (Sm.aN (by omega)).trans (ob.2.2 b (by rw [hz_aN]; omega) (by omega))
      have ta0 : hT g0 (hz h1) = some (.inl 2) := mtn.1
      have s1 := sm0 (o + 1) (by omega)
      have s2' := sm0 (o + 2) (by omega)
      rw [sR_n (by rw [s2'.1]; exact u2) (by omega) (by decide) ta0, gI_ok (show hT (wR g0 _ _ _) (o + 1) = _ by rw [hT_wR, s1.1]; exact q1), show hI (wR g0 (o + 2) (p_nm G.1) (some (hz h1))) (o + 1) 1 = nI (p_nm G.1) by rw [hI_wR, s1.2.2.1]; exact n1, nI_1, pI_ok (show hT (wR g0 _ _ _) (o + 1) = _ by rw [hT_wR, s1.1]; exact q1)]
      have zk : hz (wI (wR g0 (o + 2) (p_nm G.1) (some (hz h1))) (o + 1) 1 (nI (p_nm G.1 + 1))) = hz h1 + 14 := zg
      have smk : ∀ b, b ≠ o + 1 → b ≠ o + 2 → Sm g0 (wI (wR g0 (o + 2) (p_nm G.1) (some (hz h1))) (o + 1) 1 (nI (p_nm G.1 + 1))) b := fun b h1 h4 => (Sm.wR h4).trans (Sm.wI h1)
      have k1 : hT (wI (wR g0 (o + 2) (p_nm G.1) (some (hz h1))) (o + 1) 1 (nI (p_nm G.1 + 1))) (o + 1) = hT h1 (o + 1) ∧ hR (wI (wR g0 (o + 2) (p_nm G.1) (some (hz h1))) (o + 1) 1 (nI (p_nm G.1 + 1))) (o + 1) = hR h1 (o + 1) := ⟨s1.1, by rw [hR_wI, hR_wR_a (by omega), s1.2.1]⟩
      have ki5 : hI (wI (wR g0 (o + 2) (p_nm G.1) (some (hz h1))) (o + 1) 1 (nI (p_nm G.1 + 1))) (o + 1) 1 = nI (p_nm G.1 + 1) := hI_wI_s
      have kik : ∀ i, i ≠ 1 → hI (wI (wR g0 (o + 2) (p_nm G.1) (some (hz h1))) (o + 1) 1 (nI (p_nm G.1 + 1))) (o + 1) i = hI h1 (o + 1) i := fun i hi => by rw [hI_wI_k hi, hI_wR, s1.2.2.1]
      have k4 : hT (wI (wR g0 (o + 2) (p_nm G.1) (some (hz h1))) (o + 1) 1 (nI (p_nm G.1 + 1))) (o + 2) = hT h1 (o + 2) := s2'.1
      have kr : ∀ i, hR (wI (wR g0 (o + 2) (p_nm G.1) (some (hz h1))) (o + 1) 1 (nI (p_nm G.1 + 1))) (o + 2) i = if i = p_nm G.1 then some (hz h1) else hR h1 (o + 2) i := fun i => by
        rw [hR_wI]
        by_cases z : i = p_nm G.1
        · rw [if_pos z, z]; exact hR_wR_s
        · rw [if_neg z, hR_wR_k z, s2'.2.1]
      generalize wI (wR g0 (o + 2) (p_nm G.1) (some (hz h1))) (o + 1) 1 (nI (p_nm G.1 + 1)) = g at zk smk k1 ki5 kik k4 kr ⊢
      have sg : ∀ b, b < hz h1 → b ≠ o + 1 → b ≠ o + 2 → Sm h1 g b := fun b hb b1 b4 => (sm0 b hb).trans (smk b b1 b4)
      obtain ⟨e1, e2, e3⟩ := pM_n (P := G.1) (r := j)
      obtain ⟨w1, w2, w3, w4, w5⟩ := pM_r (P := G.1) (r := j)
      have eq := eqm_M (P := G.1) (r := j)
      have sn : ∀ b, hz h1 ≤ b → Sm g0 g b := fun b hb => smk b (by omega) (by omega)
      have zn := sn (hz h1) (by omega)
      have mtg : MT (hT g) (hR g) (hz h1) := mtn.sm (fun b h1 h2 => sn b h1)
      have mcn : MC g (hz h1) (pgM G.1 j) (p_nm G.1) := ⟨⟨by rw [zn.2.2.1, w1, i0], by rw [zn.2.2.1, w2, i2]; rfl, by rw [zn.2.2.1, w3, i3]; rfl, by rw [zn.2.2.1, w4, i7]; rfl, by rw [zn.2.2.1, w5, i12]; rfl⟩, fun e he => by rw [w2] at he; omega, fun e he => by rw [w4] at he; omega, fun e he => by rw [w5] at he; omega⟩
      have pc2 : PC g o (va_up ma (p_nm G.1) (hz h1)) ta (pgM G.1 j) := by
        have s4 := sg (o + 4) (by omega) (by omega) (by omega)
        have s3 := sg (o + 3) (by omega) (by omega) (by omega)
        refine ⟨⟨by rw [k1.1]; exact q1, by rw [k1.2]; exact ⟨q0, q2, q4⟩, by rw [k4]; exact u2, by rw [s3.1]; exact u3, by rw [s4.1]; exact u4⟩, ⟨by rw [ki5, e1], by rw [kik 3 (by decide), e2]; exact n3, by rw [kik 5 (by decide), e3]; exact n5⟩, fun m hm => ?_, fun t ht => ?_, fun c hc => ?_⟩
        · rw [e1] at hm
          rw [kr]
          by_cases z : m = p_nm G.1
          · subst z
            rw [if_pos rfl, va_s]; exact ⟨rfl, mtg, mcn⟩
          · rw [if_neg z, va_n _ _ z]
            have hm : m < p_nm G.1 := by omega
            obtain ⟨x1, x2, x3⟩ := pm m hm
            have b1 := y2 m hm
            have b2 := ap.1 m hm
            have sb : ∀ b, ma m ≤ b → b ≤ ma m + 8 → Sm h1 g b := fun b h1 h2 => sg b (by omega) (by omega) (by omega)
            have x4 : MC g (ma m) (pgM0 G.1) m := x3.sm sb
            exact ⟨x1, x2.sm sb, x4.c eq z⟩
        · rw [e3] at ht
          obtain ⟨x1, x2, x3⟩ := pt t ht
          have b1 := y3 t ht
          have b2 := ap.2.1 t ht
          have sb : ∀ b, ta t ≤ b → b ≤ ta t + 2 → Sm h1 g b := fun b h1 h2 => sg b (by omega) (by omega) (by omega)
          have x4 : TC g (ta t) (pgM0 G.1) t := x3.sm sb
          exact ⟨by rw [s4.2.1]; exact x1, x2.sm sb, x4.c eq⟩
        · rw [e2] at hc
          rw [s3.2.2.2, eq.c]; exact pk c hc
      have ap2 : Apt o (va_up ma (p_nm G.1) (hz h1)) ta (pgM G.1 j) := by
        obtain ⟨b1, b2, b3, b4, b5⟩ := ap
        unfold Apt
        rw [e1, e3]
        refine ⟨fun t ht => ?_, b2, fun t k ht hk hne => ?_, b4, fun m t hm ht => ?_⟩
        · by_cases z : t = p_nm G.1
          · rw [z, va_s]; exact y1
          · rw [va_n _ _ z]; exact b1 t (by omega)
        · by_cases z : t = p_nm G.1
          · have zk : k ≠ p_nm G.1 := by omega
            have := y2 k (by omega)
            rw [z, va_s, va_n _ _ zk]; omega
          · have := y2 t (by omega)
            rw [va_n _ _ z]
            by_cases zk : k = p_nm G.1
            · rw [zk, va_s]; omega
            · rw [va_n _ _ zk]; exact b3 t k (by omega) (by omega) hne
        · have := y3 t ht
          by_cases z : m = p_nm G.1
          · rw [z, va_s]; omega
          · rw [va_n _ _ z]; exact b5 m t (by omega) ht
      have va2 : CGa g o (va_up ma (p_nm G.1) (hz h1)) ta (pgM G.1 j) (va_up G.2.1 (p_nm G.1) tfr) nob nob := by
        refine ⟨pc2, ap2, jt1.sm (sg (o + 5) (by omega) (by omega) (by omega)), ⟨⟨sb, sb1.sm (fun b h1 h2 => sg b (by omega) (by omega) (by omega))⟩, ⟨sc, sc1.sm (fun b h1 h2 => sg b (by omega) (by omega) (by omega))⟩⟩, fun m hm => ?_, by omega, fun m hm => ?_, fun t ht => ?_⟩
        · rw [e1] at hm
          by_cases z : m = p_nm G.1
          · subst z
            rw [va_s, va_s]
            exact ⟨⟨by rw [zn.2.2.1, i14]; rfl, by rw [zn.2.2.1, i15]; rfl⟩, tvn.sm (a := hz h1 + 9) (fun b h1 h2 => sn b (by omega))⟩
          · rw [va_n _ _ z, va_n _ _ z]
            have hm : m < p_nm G.1 := by omega
            have b1 := y2 m hm
            have b2 := ap.1 m hm
            obtain ⟨⟨f1, f2⟩, tv⟩ := fl1 m hm
            have sa := sg (ma m) (by omega) (by omega) (by omega)
            exact ⟨⟨by rw [sa.2.2.1]; exact f1, by rw [sa.2.2.1]; exact f2⟩, tv.sm (a := ma m + 9) (fun b h1 h2 => sg b (by omega) (by omega) (by omega))⟩
        · rw [e1] at hm
          by_cases z : m = p_nm G.1
          · rw [z, va_s]; omega
          · rw [va_n _ _ z]
            have := y2 m (by omega); omega
        · rw [e3] at ht
          have := y3 t ht; omega
      have sh : ∀ b, b < o + 97 → b ≠ o + 1 → b ≠ o + 2 → Sm h g b := fun b hb b1 b4 => (f1.sm (fun ⟨m, hm, e⟩ => by have := ap.1 m hm; omega)).trans (sg b (by omega) b1 b4)
      exact ok_some ⟨rfl, ⟨⟨va_up ma (p_nm G.1) (hz h1), ta, va2⟩, vb.sm (sh _ (by omega) (by omega) (by omega)) (sh _ (by omega) (by omega) (by omega)) (sh _ (by omega) (by omega) (by omega)), vc.sm (fun b h1 h2 => sh _ (by omega) (by omega) (by omega))⟩, fun b h1 h2 => sh b (by omega) (by omega) (by omega)⟩
end GS2
