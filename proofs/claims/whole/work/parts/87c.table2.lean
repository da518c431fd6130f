/-! a table is made: the class -/
section GO
variable {h g : Hp} {o q : Nat} {G : Gs} {P : Pg} {s v : Nat} {l : Int32}
theorem t_init {a : Nat} {p1 p2 p3 : Int32} (t : hT h a = some (.inl 6)) (lt : a < hz h) (h1 : p1 = 0 ∨ p1 = 1) : Ok (FX7_init (some a) p1 p2 p3 h) (fun _ g => Ob h g a 2 ∧ (hR g a 3 = some (hz h) ∧ hR g a 4 = some (hz h + 1)) ∧ (hT g (hz h) = some (.inr (.int, 8)) ∧ hT g (hz h + 1) = some (.inr (.int, 8))) ∧ hI g a 0 = p1 ∧ hI g a 1 = p2 ∧ hI g a 2 = p3 ∧ hI g a 5 = 0) := by
  unfold FX7_init
  have t1 : hT (NW h a 3 (.int, 8)) a = some (.inl 6) := (NW_a lt).1.trans t
  have l1 : a < hz (NW h a 3 (.int, 8)) := by rw [NW_z]; omega
  have t2 : hT (NW (NW h a 3 (.int, 8)) a 4 (.int, 8)) a = some (.inl 6) := (NW_a l1).1.trans t1
  rw [nz_ok, nr_ok t lt, nr_ok t1 l1, pI_ok t2, pZ_ok (by exact t2) h1, pI_ok (by exact t2), pI_ok (by exact t2)]
  have u1 := Ob.nw (f := 3) (y := (FieldType.int, 8)) lt
  have u2 := Ob.nw (f := 4) (y := (FieldType.int, 8)) l1
  have n1 := NW_new (f := 3) (y := (FieldType.int, 8)) lt
  have n2 := NW_new (f := 4) (y := (FieldType.int, 8)) l1
  have r1 := (NW_a (f := 3) (y := (FieldType.int, 8)) lt).2.2.2
  have r2 := (NW_a (f := 4) (y := (FieldType.int, 8)) l1).2.2.2
  rw [NW_z] at n2 r2
  refine ok_some ⟨(((((u1.trans u2).trans Ob.wI).trans Ob.wI).trans Ob.wI).trans Ob.wI), ⟨?_, r2.1⟩, ⟨?_, n2.1⟩, ?_, ?_, hI_wI_s, ?_⟩
  · exact (r2.2 3 (by decide)).trans r1.1
  · exact (NW_sm (h := NW h a 3 (.int, 8)) (a := a) (b := hz h) (f := 4) (y := (FieldType.int, 8)) (by rw [NW_z]; omega) (by omega)).1.trans n1.1
  · rw [hI_wI_k (by decide), hI_wI_k (by decide)]; exact hI_wI_s
  · rw [hI_wI_k (by decide)]; exact hI_wI_s
  · rw [hI_wI_k (by decide), hI_wI_k (by decide), hI_wI_k (by decide)]; exact hI_wI_s
theorem c_tab (gi : GI G) (cg : CG h o G) (x : Bool) (l v : Int32) : Ok (FX11_table (some o) (if x = true then 1 else 0) l v h) (CQ o h (s_tab G x l v)) := by
  obtain ⟨⟨ma, ta, va⟩, vb, vc⟩ := id cg
  obtain ⟨⟨t0, ⟨r0, r1, r2, r3⟩, t52⟩, -⟩ := id vb
  have pc := va.1
  have ap := va.2.1
  have hnt := gi.1.2.2.1
  unfold FX11_table s_tab
  rw [nl_60, f_wi _ (by decide), cl_ok, b2i_if]
  cases hv : wi v 60 with
  | false =>
    rw [if_neg (by decide), if_neg (by decide)]
    exact ok_some ⟨rfl, cg, FC.refl⟩
  | true =>
    obtain ⟨j, hj, rfl, ej⟩ := wi_ex (by decide) hv
    rw [if_pos rfl, if_pos rfl, ej, gR_ok t0, r0, gI_ok pc.1.1, pc.2.1.2.2, nl_8, if_eq (by omega) (by decide)]
    by_cases c8 : p_nt G.1 = 8
    · rw [if_pos c8, if_pos c8]
      exact ok_some ⟨rfl, cg, FC.refl⟩
    · rw [if_neg c8, if_neg c8, gR_ok t0, r0, rcv_ok pc.1.1]
      refine ok_cl (c_forget gi.1 va) (fun _ h1 z => ?_)
      obtain ⟨v1, f1⟩ := z
      obtain ⟨pc1, -, jt1, ⟨⟨sb, sb1⟩, ⟨sc, sc1⟩⟩, fl1, y1, y2, y3⟩ := id v1
      obtain ⟨⟨q1, ⟨q0, q2, q4⟩, u2, u3, u4⟩, ⟨n1, n3, n5⟩, pm, pt, pk⟩ := id pc1
      rw [gR_ok (by rw [f1.1]; exact t0), f1.2.1, r0, rcv_ok q1]
      unfold FX4_addTable
      rw [gI_ok q1, n5, gR_ok q1, q4, nA_ok, nz_ok]
      have tz : hT (aN h1 (.inl 6)) (hz h1) = some (.inl 6) := aN_new.1
      generalize es : (if x = true then (1 : Int32) else 0) = sx
      have hs : sx = nI (if x = true then 1 else 0) := by rw [← es]; cases x <;> rfl
      have hs1 : sx = 0 ∨ sx = 1 := by rw [← es]; cases x <;> decide
      have oi := t_init (h := aN h1 (.inl 6)) (a := hz h1) (p1 := sx) (p2 := l) (p3 := nI j) tz (by rw [hz_aN]; omega) hs1
      refine ok_cl (Q := CQ o h (nI (p_nt G.1), fgt G (pgT G.1 (if x = true then 1 else 0) j l))) (ok_cl oi (fun _ g0 z => ?_)) (fun r g z => ok_some z)
      obtain ⟨ob, ⟨a3, a4⟩, ⟨a5, a6⟩, i0, i1, i2, i5⟩ := z
      rw [hz_aN] at a3 a4 a5 a6
      have zg : hz g0 = hz h1 + 3 := by rw [ob.1, hz_aN]
      have sm0 : ∀ b, b < hz h1 → Sm h1 g0 b := fun b hb => (Sm.aN (by omega)).trans (ob.2.2 b (by rw [hz_aN]; omega) (by omega))
      have ta0 : hT g0 (hz h1) = some (.inl 6) := ob.2.1.trans tz
      have s1 := sm0 (o + 1) (by omega)
      have s4 := sm0 (o + 4) (by omega)
      rw [sR_n (by rw [s4.1]; exact u4) (by omega) (by decide) ta0, gI_ok (show hT (wR g0 _ _ _) (o + 1) = _ by rw [hT_wR, s1.1]; exact q1), show hI (wR g0 (o + 4) (p_nt G.1) (some (hz h1))) (o + 1) 5 = nI (p_nt G.1) by rw [hI_wR, s1.2.2.1]; exact n5, nI_1, pI_ok (show hT (wR g0 _ _ _) (o + 1) = _ by rw [hT_wR, s1.1]; exact q1)]
      have zk : hz (wI (wR g0 (o + 4) (p_nt G.1) (some (hz h1))) (o + 1) 5 (nI (p_nt G.1 + 1))) = hz h1 + 3 := zg
      have smk : ∀ b, b ≠ o + 1 → b ≠ o + 4 → Sm g0 (wI (wR g0 (o + 4) (p_nt G.1) (some (hz h1))) (o + 1) 5 (nI (p_nt G.1 + 1))) b := fun b h1 h4 => (Sm.wR h4).trans (Sm.wI h1)
      have k1 : hT (wI (wR g0 (o + 4) (p_nt G.1) (some (hz h1))) (o + 1) 5 (nI (p_nt G.1 + 1))) (o + 1) = hT h1 (o + 1) ∧ hR (wI (wR g0 (o + 4) (p_nt G.1) (some (hz h1))) (o + 1) 5 (nI (p_nt G.1 + 1))) (o + 1) = hR h1 (o + 1) := ⟨s1.1, by rw [hR_wI, hR_wR_a (by omega), s1.2.1]⟩
      have ki5 : hI (wI (wR g0 (o + 4) (p_nt G.1) (some (hz h1))) (o + 1) 5 (nI (p_nt G.1 + 1))) (o + 1) 5 = nI (p_nt G.1 + 1) := hI_wI_s
      have kik : ∀ i, i ≠ 5 → hI (wI (wR g0 (o + 4) (p_nt G.1) (some (hz h1))) (o + 1) 5 (nI (p_nt G.1 + 1))) (o + 1) i = hI h1 (o + 1) i := fun i hi => by rw [hI_wI_k hi, hI_wR, s1.2.2.1]
      have k4 : hT (wI (wR g0 (o + 4) (p_nt G.1) (some (hz h1))) (o + 1) 5 (nI (p_nt G.1 + 1))) (o + 4) = hT h1 (o + 4) := s4.1
      have kr : ∀ i, hR (wI (wR g0 (o + 4) (p_nt G.1) (some (hz h1))) (o + 1) 5 (nI (p_nt G.1 + 1))) (o + 4) i = if i = p_nt G.1 then some (hz h1) else hR h1 (o + 4) i := fun i => by
        rw [hR_wI]
        by_cases z : i = p_nt G.1
        · rw [if_pos z, z]; exact hR_wR_s
        · rw [if_neg z, hR_wR_k z, s4.2.1]
      generalize wI (wR g0 (o + 4) (p_nt G.1) (some (hz h1))) (o + 1) 5 (nI (p_nt G.1 + 1)) = g at zk smk k1 ki5 kik k4 kr ⊢
      have sg : ∀ b, b < hz h1 → b ≠ o + 1 → b ≠ o + 4 → Sm h1 g b := fun b hb b1 b4 => (sm0 b hb).trans (smk b b1 b4)
      obtain ⟨e1, e2, e3⟩ := pT_n (P := G.1) (s := if x = true then 1 else 0) (v := j) (l := l)
      obtain ⟨w1, w2, w3, w4⟩ := pT_r (P := G.1) (s := if x = true then 1 else 0) (v := j) (l := l)
      have eq := eqt_T (P := G.1) (s := if x = true then 1 else 0) (v := j) (l := l)
      have zn := smk (hz h1) (by omega) (by omega)
      have zn1 := smk (hz h1 + 1) (by omega) (by omega)
      have zn2 := smk (hz h1 + 2) (by omega) (by omega)
      have ttn : TT (hT g) (hR g) (hz h1) := ⟨by rw [zn.1]; exact ta0, ⟨by rw [zn.2.1]; exact a3, by rw [zn.2.1]; exact a4⟩, by rw [zn1.1]; exact a5, by rw [zn2.1]; exact a6⟩
      have tcn : TC g (hz h1) (pgT G.1 (if x = true then 1 else 0) j l) (p_nt G.1) := ⟨⟨by rw [zn.2.2.1, w3, i0, hs], by rw [zn.2.2.1, w4, i1], by rw [zn.2.2.1, w1, i2], by rw [zn.2.2.1, w2, i5]; rfl⟩, fun e he => by rw [w2] at he; omega⟩
      have pc2 : PC g o ma (va_up ta (p_nt G.1) (hz h1)) (pgT G.1 (if x = true then 1 else 0) j l) := by
        have s2 := sg (o + 2) (by omega) (by omega) (by omega)
        have s3 := sg (o + 3) (by omega) (by omega) (by omega)
        refine ⟨⟨by rw [k1.1]; exact q1, by rw [k1.2]; exact ⟨q0, q2, q4⟩, by rw [s2.1]; exact u2, by rw [s3.1]; exact u3, by rw [k4]; exact u4⟩, ⟨by rw [kik 1 (by decide), e1]; exact n1, by rw [kik 3 (by decide), e2]; exact n3, by rw [ki5, e3]⟩, fun m hm => ?_, fun t ht => ?_, fun c hc => ?_⟩
        · rw [e1] at hm
          obtain ⟨x1, x2, x3⟩ := pm m hm
          have b1 := y2 m hm
          have b2 := ap.1 m hm
          have sb : ∀ b, ma m ≤ b → b ≤ ma m + 8 → Sm h1 g b := fun b h1 h2 => sg b (by omega) (by omega) (by omega)
          refine ⟨by rw [s2.2.1]; exact x1, x2.sm sb, ?_⟩
          obtain ⟨⟨a1, a2, a3, a4, a5⟩, a6, a7, a8⟩ := eq.mr m
          obtain ⟨⟨v1, v2, v3, v4, v5⟩, v6, v7, v8⟩ := x3.sm sb
          refine ⟨⟨by rw [a1]; exact v1, by rw [a2]; exact v2, by rw [a3]; exact v3, by rw [a4]; exact v4, by rw [a5]; exact v5⟩, fun k hk => ?_, fun i hi => ?_, fun k hk => ?_⟩
          · rw [a6]; exact v6 k (by rw [a2] at hk; exact hk)
          · obtain ⟨b1, b2, b3⟩ := a7 i
            rw [b1, b2, b3]; exact v7 i (by rw [a4] at hi; exact hi)
          · obtain ⟨b1, b2, b3, b4⟩ := a8 k
            rw [b1, b2, b3, b4]; exact v8 k (by rw [a5] at hk; exact hk)
        · rw [e3] at ht
          rw [kr]
          by_cases z : t = p_nt G.1
          · subst z
            rw [if_pos rfl, va_s]; exact ⟨rfl, ttn, tcn⟩
          · rw [if_neg z, va_n _ _ z]
            have ht : t < p_nt G.1 := by omega
            obtain ⟨x1, x2, x3⟩ := pt t ht
            have b1 := y3 t ht
            have b2 := ap.2.1 t ht
            have sb : ∀ b, ta t ≤ b → b ≤ ta t + 2 → Sm h1 g b := fun b h1 h2 => sg b (by omega) (by omega) (by omega)
            refine ⟨x1, x2.sm sb, ?_⟩
            obtain ⟨⟨a1, a2, a3, a4⟩, a5⟩ := eq.tr z
            obtain ⟨⟨v1, v2, v3, v4⟩, v5⟩ := x3.sm sb
            refine ⟨⟨by rw [a3]; exact v1, by rw [a4]; exact v2, by rw [a1]; exact v3, by rw [a2]; exact v4⟩, fun x hx => ?_⟩
            rw [(a5 x).1, (a5 x).2]; exact v5 x (by rw [a2] at hx; exact hx)
        · rw [e2] at hc
          rw [s3.2.2.2, eq.c]; exact pk c hc
      have ap2 : Apt o ma (va_up ta (p_nt G.1) (hz h1)) (pgT G.1 (if x = true then 1 else 0) j l) := by
        obtain ⟨b1, b2, b3, b4, b5⟩ := ap
        unfold Apt
        rw [e1, e3]
        refine ⟨b1, fun t ht => ?_, b3, fun t k ht hk hne => ?_, fun m t hm ht => ?_⟩
        · by_cases z : t = p_nt G.1
          · rw [z, va_s]; exact y1
          · rw [va_n _ _ z]; exact b2 t (by omega)
        · by_cases z : t = p_nt G.1
          · have zk : k ≠ p_nt G.1 := by omega
            have := y3 k (by omega)
            rw [z, va_s, va_n _ _ zk]; omega
          · have := y3 t (by omega)
            rw [va_n _ _ z]
            by_cases zk : k = p_nt G.1
            · rw [zk, va_s]; omega
            · rw [va_n _ _ zk]; exact b4 t k (by omega) (by omega) hne
        · have := y2 m hm
          by_cases z : t = p_nt G.1
          · rw [z, va_s]; omega
          · rw [va_n _ _ z]; exact b5 m t hm (by omega)
      have va2 : CGa g o ma (va_up ta (p_nt G.1) (hz h1)) (pgT G.1 (if x = true then 1 else 0) j l) G.2.1 nob nob := by
        refine ⟨pc2, ap2, jt1.sm (sg (o + 5) (by omega) (by omega) (by omega)), ⟨⟨sb, sb1.sm (fun b h1 h2 => sg b (by omega) (by omega) (by omega))⟩, ⟨sc, sc1.sm (fun b h1 h2 => sg b (by omega) (by omega) (by omega))⟩⟩, fun m hm => ?_, by omega, fun m hm => ?_, fun t ht => ?_⟩
        · rw [e1] at hm
          have b1 := y2 m hm
          have b2 := ap.1 m hm
          obtain ⟨⟨f1, f2⟩, tv⟩ := fl1 m hm
          have sa := sg (ma m) (by omega) (by omega) (by omega)
          exact ⟨⟨by rw [sa.2.2.1]; exact f1, by rw [sa.2.2.1]; exact f2⟩, tv.sm (fun b h1 h2 => sg b (by omega) (by omega) (by omega))⟩
        · rw [e1] at hm
          have := y2 m hm; omega
        · rw [e3] at ht
          by_cases z : t = p_nt G.1
          · rw [z, va_s]; omega
          · rw [va_n _ _ z]
            have := y3 t (by omega); omega
      have sh : ∀ b, b < o + 97 → b ≠ o + 1 → b ≠ o + 4 → Sm h g b := fun b hb b1 b4 => (f1.sm (fun ⟨m, hm, e⟩ => by have := ap.1 m hm; omega)).trans (sg b (by omega) b1 b4)
      exact ok_some ⟨rfl, ⟨⟨ma, va_up ta (p_nt G.1) (hz h1), va2⟩, vb.sm (sh _ (by omega) (by omega) (by omega)) (sh _ (by omega) (by omega) (by omega)) (sh _ (by omega) (by omega) (by omega)), vc.sm (fun b h1 h2 => sh _ (by omega) (by omega) (by omega))⟩, fun b h1 h2 => sh b (by omega) (by omega) (by omega)⟩
end GO
