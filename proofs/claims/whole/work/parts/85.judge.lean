/-! judging, on both sides -/
def jR (G : Gs) (m : Nat) : Nat × Nat × Tab := j_all G.1 m (G.2.1 m)
def s_judge (G : Gs) (x : Int32) : Int32 × Gs := if wi x (p_nm G.1) = true then ((if (jR G (cN x)).1 = 0 then 0 else -10 - nI (jR G (cN x)).1), G.1, va_up G.2.1 (cN x) (jR G (cN x)).2.2, (va_up G.2.2.1.1 (cN x) true, va_up G.2.2.1.2 (cN x) (decide ((jR G (cN x)).1 = 0))), G.2.2.2.1, (if (jR G (cN x)).1 = 0 then G.2.2.2.2.1 else (nI (cN x), nI (jR G (cN x)).2.1)), G.2.2.2.2.2) else (-2, G)
section GJ
variable {h g : Hp} {o q : Nat} {G : Gs}
theorem c_judge (gi : GI G) (cg : CG h o G) (x : Int32) : Ok (FX11_judge (some o) x h) (CQ o h (s_judge G x)) := by
  obtain ⟨⟨ma, ta, pc, ap, jt, ⟨sb, sc⟩, fl, z1, z2, z3⟩, ⟨⟨t0, ⟨r0, r1, r2, r3⟩, t52⟩, ⟨g4, g5⟩, f3, f4⟩, vc⟩ := id cg
  have hnm := gi.1.1
  unfold FX11_judge s_judge
  rw [gR_ok t0, r0, rcv_ok pc.1.1]
  cases hx : wi x (p_nm G.1) with
  | false =>
    rw [f_findM_no pc gi.1 hx, cl_ok, if_neg (by decide), nz_no]
    exact ok_some ⟨rfl, cg, FC.refl⟩
  | true =>
    obtain ⟨m, hm, rfl, ec⟩ := wi_ex (by omega) hx
    rw [f_findM pc gi.1 hm, cl_ok, if_pos rfl, nz_ok, gR_ok t0, r1, rcv_ok jt.1, ec]
    have oa := ap.1 m hm
    refine ok_cl (f_examine (t := G.2.1 m) ⟨jt, pc, gi.1, ap, hm⟩ (fl m hm).2 sb sc) (fun r k y => ?_)
    obtain ⟨y1, ⟨y2, y3, -⟩, y4, y5, y6, y7, y8, y9, y10, y11⟩ := y
    refine ok_some ⟨y1, ⟨⟨ma, ta, y3, ap, y2, ⟨y5, y6⟩, fun m' hm' => ?_, by rw [y11.2.2.1]; exact z1, fun m' hm' => by rw [y11.2.2.1]; exact z2 m' hm', fun t ht => by rw [y11.2.2.1]; exact z3 t ht⟩, ⟨⟨by rw [y11.1]; exact t0, by rw [y11.2.1]; exact ⟨r0, r1, r2, r3⟩, by rw [y11.1]; exact t52⟩, ⟨?_, fun j hj => ?_⟩, ?_, ?_⟩, vc.fr y11 (fun b h1 h2 => by unfold AJ; omega)⟩, FC.of y11 (fun b h1 h2 => by unfold AJ; omega)⟩
    · show (hI k (ma m') 14 = b2i (va_up G.2.2.1.1 m true m') ∧ hI k (ma m') 15 = b2i (va_up G.2.2.1.2 m (decide ((jR G m).1 = 0)) m')) ∧ Tv k (ma m' + 9) (ma m' + 10) (ma m' + 11) (ma m' + 12) (ma m' + 13) (va_up G.2.1 m (jR G m).2.2 m')
      by_cases c : m' = m
      · subst c
        rw [va_s, va_s, va_s]
        exact ⟨⟨y7, y8⟩, y4⟩
      · rw [va_n _ _ c, va_n _ _ c, va_n _ _ c]
        have h1 := ap.1 m' hm'
        have h2 := ap.2.2.1 m' m hm' hm c
        have e := y11.2.2.2 (ma m') (by unfold AJ; omega)
        obtain ⟨⟨u1, u2⟩, u3⟩ := fl m' hm'
        exact ⟨⟨by rw [e.1]; exact u1, by rw [e.1]; exact u2⟩, u3.fr y11 (by unfold AJ; omega) (by unfold AJ; omega) (by unfold AJ; omega) (by unfold AJ; omega)⟩
    · rw [(y11.2.2.2 o (by unfold AJ; omega)).1]; exact g4
    · rw [(y11.2.2.2 (o + 52) (by unfold AJ; omega)).2]; exact g5 j hj
    · show hI k (o + 5) 3 = (if (jR G m).1 = 0 then G.2.2.2.2.1 else (nI m, nI (jR G m).2.1)).1
      by_cases c : (jR G m).1 = 0
      · rw [if_pos c, (y9 c).1]; exact f3
      · rw [if_neg c]; exact (y10 c).1
    · show hI k (o + 5) 4 = (if (jR G m).1 = 0 then G.2.2.2.2.1 else (nI m, nI (jR G m).2.1)).2
      by_cases c : (jR G m).1 = 0
      · rw [if_pos c, (y9 c).2]; exact f4
      · rw [if_neg c]; exact (y10 c).2
theorem Fq.fr {F A : Nat → Prop} (f : Fq q F A h g) (hA : ∀ b, A b → q ≤ b ∧ b ≤ q + 43) : Fr (AMd q) h g := ⟨f.1, f.2.1, f.2.2.1, fun b hb => ⟨f.2.2.2.2.1 b (fun z => hb (by rw [z]; exact ⟨by omega, by omega⟩)) (fun z => hb (hA b z)), by rw [f.2.2.2.1]⟩⟩
theorem Fq.fm {F A : Nat → Prop} (f : Fq q F A h g) : Fm q F A h g := ⟨f.1, f.2.1, f.2.2.1, fun b h1 h2 => ⟨f.2.2.2.2.1 b h1 h2, by rw [f.2.2.2.1]⟩, fun k hk => ⟨f.2.2.2.2.2 k hk, by rw [f.2.2.2.1]⟩⟩
theorem Mt.fo {m m' : Nat} {t : Tab} (v : Mt h q m' t) (f : Fo q m h g) (hc : m' ≠ m) : Mt g q m' t := by
  intro i hi
  obtain ⟨v1, v2⟩ := v i hi
  obtain ⟨f1, f2, f3, f4⟩ := f (60 * m' + i) (by omega)
  refine ⟨by rw [f1]; exact v1, fun e he => ?_⟩
  obtain ⟨u1, u2, u3, u4⟩ := v2 e he
  exact ⟨u1, by rw [f2]; exact u2, fun k hk => by rw [f3 k (by omega)]; exact u3 k hk, fun j hj => by rw [f4 j hj]; exact u4 j hj⟩
theorem d_judge (gi : GI G) (mg : MG h q G) (x : Int32) : Ok (FX12_judge (some q) x h) (fun r g => DQ q h (s_judge G x) r g ∧ (wi x (p_nm G.1) = true → (jR G (cN x)).1 = 0 → TW (jR G (cN x)).2.2)) := by
  obtain ⟨⟨lm, pm, m1, m2⟩, ⟨⟨g1, g2⟩, g3, g4⟩, mt, ⟨w1, w2⟩, w⟩ := id mg
  have hnm := gi.1.1
  unfold s_judge
  cases hx : wi x (p_nm G.1) with
  | false =>
    unfold FX12_judge
    rw [rcv_ok lm.1, f_isM lm pm gi.1, cl_ok, b2i_if, hx, if_neg (by decide), if_neg (by decide)]
    exact ok_some ⟨⟨rfl, mg, rfl, rfl, rfl, fun _ _ => ⟨rfl, rfl⟩⟩, fun z => by cases z⟩
  | true =>
    obtain ⟨m, hm, rfl, ec⟩ := wi_ex (by omega) hx
    rw [if_pos rfl, ec]
    refine (m_judge gi.1 hm (G.2.1 m) lm pm).mono (fun r k y => ?_)
    obtain ⟨y1, y2, y3, ⟨y4, y5, y6⟩, y7, y8, y9, y10⟩ := y
    have ff := y4.fm
    have nF : ∀ k, k ≠ 29 → k ≠ 32 → k ≠ 33 → k ≠ 37 → ¬ FJ k := fun k h1 h2 h3 h4 z => by unfold FJ at z; omega
    have nA : ∀ b, b ≠ 14 → ¬ (22 ≤ b ∧ b ≤ 28) → ¬ (30 ≤ b ∧ b ≤ 32) → ¬ (AJm q (q + b) ∨ q + b = q + 14) := fun b h1 h2 h3 z => by unfold AJm at z; omega
    have kk : ∀ j, j ≠ 29 → j ≠ 32 → j ≠ 33 → j ≠ 37 → hI k q j = hI h q j ∧ hL k q j = hL h q j := fun j h1 h2 h3 h4 => ff.2.2.2.2 j (nF j h1 h2 h3 h4)
    have hno : (jR G m).1 = 0 → 0 < p_no G.1 m := fun z => by
      have := (stb_all gi.1 hm (G.2.1 m) z)
      exact (this.1 _ _ this.2.1).1
    refine ⟨⟨y7, ⟨⟨y1, y2, fun m' hm' => ?_, fun m' hm' => ?_⟩, ⟨⟨by rw [(kk 34 (by omega) (by omega) (by omega) (by omega)).1]; exact g1, fun j hj => ?_⟩, ?_, ?_⟩, mt.fm ff ⟨nF 40 (by omega) (by omega) (by omega) (by omega), nF 46 (by omega) (by omega) (by omega) (by omega)⟩ (fun b h1 h2 z => by unfold AJm at z; omega), ⟨by rw [(kk 54 (by omega) (by omega) (by omega) (by omega)).1]; exact w1, by rw [(kk 55 (by omega) (by omega) (by omega) (by omega)).2]; exact w2⟩, fun z => ?_⟩, y4.fr (fun b z => by unfold AJm at z; omega)⟩, fun _ z => (y3 (hno z)).2⟩
    · show hI k (q + 14) m' = b2i (va_up G.2.2.1.2 m (decide ((jR G m).1 = 0)) m')
      by_cases c : m' = m
      · subst c; rw [va_s]; exact y8
      · rw [va_n _ _ c, y6 m' c]; exact m1 m' hm'
    · show (va_up G.2.2.1.1 m true m' = true → 0 < p_no G.1 m' → Mt k q m' (va_up G.2.1 m (jR G m).2.2 m')) ∧ (va_up G.2.2.1.1 m true m' = false → ∀ i, i < 60 → hI k (q + 22) (60 * m' + i) = 0)
      by_cases c : m' = m
      · subst c
        rw [va_s, va_s]
        exact ⟨fun _ z => (y3 z).1, fun z => by cases z⟩
      · rw [va_n _ _ c, va_n _ _ c]
        exact ⟨fun u1 u2 => ((m2 m' hm').1 u1 u2).fo y5 c, fun u i hi => by rw [(y5 (60 * m' + i) (by omega)).1]; exact (m2 m' hm').2 u i hi⟩
    · rw [(ff.2.2.2.1 (q + 29) (by omega) (nA 29 (by omega) (by omega) (by omega))).2]; exact g2 j hj
    · show hI k q 32 = (if (jR G m).1 = 0 then G.2.2.2.2.1 else (nI m, nI (jR G m).2.1)).1
      by_cases c : (jR G m).1 = 0
      · rw [if_pos c, (y9 c).1]; exact g3
      · rw [if_neg c]; exact (y10 c).1
    · show hI k q 33 = (if (jR G m).1 = 0 then G.2.2.2.2.1 else (nI m, nI (jR G m).2.1)).2
      by_cases c : (jR G m).1 = 0
      · rw [if_pos c, (y9 c).2]; exact g4
      · rw [if_neg c]; exact (y10 c).2
    · rw [(kk 56 (by omega) (by omega) (by omega) (by omega)).1, (kk 57 (by omega) (by omega) (by omega) (by omega)).1, (kk 58 (by omega) (by omega) (by omega) (by omega)).1, (kk 59 (by omega) (by omega) (by omega) (by omega)).1, (kk 60 (by omega) (by omega) (by omega) (by omega)).1, (kk 61 (by omega) (by omega) (by omega) (by omega)).1, (kk 62 (by omega) (by omega) (by omega) (by omega)).1, (kk 63 (by omega) (by omega) (by omega) (by omega)).1]
      exact w z
theorem gi_judge (gi : GI G) (x : Int32) (tw : wi x (p_nm G.1) = true → (jR G (cN x)).1 = 0 → TW (jR G (cN x)).2.2) : GI (s_judge G x).2 := by
  unfold s_judge
  cases hx : wi x (p_nm G.1) with
  | false => rw [if_neg (by decide)]; exact gi
  | true =>
    rw [if_pos rfl]
    have hnm := gi.1.1
    obtain ⟨m, hm, rfl, ec⟩ := wi_ex (by omega) hx
    rw [ec] at tw ⊢
    refine ⟨gi.1, gi.2.1, fun m' hm' hg => ?_⟩
    have hg : va_up G.2.2.1.2 m (decide ((jR G m).1 = 0)) m' = true := hg
    show va_up G.2.2.1.1 m true m' = true ∧ Stb G.1 m' (va_up G.2.1 m (jR G m).2.2 m') ∧ TW (va_up G.2.1 m (jR G m).2.2 m')
    by_cases c : m' = m
    · subst c
      rw [va_s] at hg ⊢
      rw [va_s]
      have z := of_decide_eq_true hg
      exact ⟨rfl, stb_all gi.1 hm' _ z, tw hx z⟩
    · rw [va_n _ _ c] at hg ⊢
      rw [va_n _ _ c]
      exact gi.2.2 m' hm' hg
end GJ
