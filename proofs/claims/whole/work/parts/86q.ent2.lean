/-! an entry is added: the class -/
section GE2
variable {h g : Hp} {o q : Nat} {G : Gs} {P : Pg} {t : Nat}
theorem sum64 (x y k : Int32) : (Int32.toInt64 x + Int32.toInt64 y = Int32.toInt64 k) ↔ k.toInt = x.toInt + y.toInt := by
  have x1 := Int32.toInt_lt x
  have x2 := Int32.le_toInt x
  have y1 := Int32.toInt_lt y
  have y2 := Int32.le_toInt y
  have e : (Int32.toInt64 x + Int32.toInt64 y).toInt = x.toInt + y.toInt := by
    rw [Int64.toInt_add, i64_of32, i64_of32, Int.bmod_def]
    omega
  rw [i64_eq, i64_of32, e]
  constructor <;> intro z <;> omega
theorem f_may {a : Nat} (y : TT (hT h) (hR h) a) (c : TC h a P t) (w : PWt P t) (k : Int32) : FX7_mayFollow (some a) k h = some (b2i (mayf P t k), h) := by
  obtain ⟨a0, ⟨r3, r4⟩, t1, t2⟩ := y
  obtain ⟨⟨c0, c1, c2, c5⟩, c6⟩ := c
  obtain ⟨w1, w2, w3, w4, w5, w6⟩ := w
  unfold FX7_mayFollow mayf
  rw [gI_ok a0, c0, gI_ok a0, c1, gI_ok a0, c5, gR_ok a0, r3, ie_0 (by omega)]
  by_cases z : p_sp P t = 0
  · rw [if_pos z, if_pos z]
    have e := sum64 (p_lo P t) (nI (p_ne P t)) k
    rw [nI_tI (by omega)] at e
    by_cases x : k.toInt = (p_lo P t).toInt + p_ne P t
    · rw [if_pos (e.mpr x).symm, decide_eq_true x]; rfl
    · rw [if_neg (fun q => x (e.mp q.symm)), decide_eq_false x]; rfl
  · rw [if_neg z, if_neg z, gI_ok a0, c5, gI_ok a0, c5, ie_0 (by omega)]
    by_cases x : p_ne P t = 0
    · rw [if_pos x, decide_eq_true (Or.inl x)]; rfl
    · rw [if_neg x]
      obtain ⟨n, en⟩ : ∃ n, p_ne P t = n + 1 := ⟨p_ne P t - 1, by omega⟩
      have e6 := (c6 n (by omega)).1
      rw [en, nI_pred, aI_n t1 (by omega) (by decide), e6, Nat.add_sub_cancel]
      by_cases v : p_ky P t n < k
      · have v' := v
        rw [i32_lt] at v'
        rw [if_pos v, decide_eq_true (Or.inr v')]; rfl
      · have v' := v
        rw [i32_lt] at v'
        rw [if_neg v, decide_eq_false (by omega)]; rfl
theorem c_ent (gi : GI G) (cg : CG h o G) (x k v : Int32) : Ok (FX11_entry (some o) x k v h) (CQ o h (s_ent G x k v)) := by
  obtain ⟨⟨ma, ta, va⟩, ⟨⟨t0, ⟨r0, r1, r2, r3⟩, t52⟩, -⟩, vc⟩ := id cg
  have pc := va.1
  have ap := va.2.1
  have hnt := gi.1.2.2.1
  unfold FX11_entry s_ent
  rw [gR_ok t0, r0, rcv_ok pc.1.1]
  cases hx : wi x (p_nt G.1) with
  | false =>
    rw [f_findT_no pc gi.1 hx, cl_ok, if_neg (by decide), nz_no]
    exact ok_some ⟨rfl, cg, FC.refl⟩
  | true =>
    obtain ⟨t, ht, rfl, ec⟩ := wi_ex (by omega) hx
    have wt := gi.1.2.2.2.2 t ht
    have hne := wt.2.1
    obtain ⟨x1, x2, x3⟩ := pc.2.2.2.1 t ht
    rw [f_findT pc gi.1 ht, cl_ok, if_pos rfl, nz_ok, nl_60, f_wi _ (by decide), cl_ok, b2i_if, ec]
    cases hv : wi v 60 with
    | false =>
      rw [if_neg (by decide), if_neg (by decide)]
      exact ok_some ⟨rfl, cg, FC.refl⟩
    | true =>
      obtain ⟨j, hj, rfl, ej⟩ := wi_ex (by decide) hv
      rw [if_pos rfl, if_pos rfl, ej, rcv_ok x2.1, f_may x2 x3 wt, cl_ok, b2i_if]
      by_cases c : mayf G.1 t k = true
      · rw [if_pos c, if_pos c, gI_ok x2.1, x3.1.2.2.2, nl_8, if_eq (by omega) (by decide)]
        by_cases c8 : p_ne G.1 t = 8
        · rw [if_pos c8, if_pos c8]
          exact ok_some ⟨rfl, cg, FC.refl⟩
        · rw [if_neg c8, if_neg c8, gR_ok t0, r0, rcv_ok pc.1.1]
          refine ok_cl (c_forget gi.1 va) (fun _ h1 z => ?_)
          obtain ⟨v1, f1⟩ := z
          obtain ⟨y1, y2, y3⟩ := v1.1.2.2.2.1 t ht
          have om := ap.2.1 t ht
          obtain ⟨a0, ⟨s3, s4⟩, u1, u2⟩ := id y2
          unfold FX7_addEntry
          have n5 : hI h1 (ta t) 5 = nI (p_ne G.1 t) := y3.1.2.2.2
          have k1 : ∀ {z : Hp}, z = wI h1 (ta t + 1) (p_ne G.1 t) k → hT z = hT h1 ∧ hR z = hR h1 ∧ hI z (ta t) 5 = nI (p_ne G.1 t) := fun e => by subst e; exact ⟨rfl, rfl, by rw [hI_wI_a (by omega)]; exact n5⟩
          obtain ⟨b1, b2, b3⟩ := k1 rfl
          rw [rcv_ok a0, gR_ok a0, s3, gI_ok a0, n5, sI_n u1 (by omega) (by decide), gR_ok (by rw [b1]; exact a0), b2, s4, gI_ok (by rw [b1]; exact a0), b3, sI_n (by rw [b1]; exact u2) (by omega) (by decide)]
          have k2 : ∀ {z : Hp}, z = wI (wI h1 (ta t + 1) (p_ne G.1 t) k) (ta t + 2) (p_ne G.1 t) (nI j) → hT z (ta t) = some (.inl 6) ∧ hI z (ta t) 5 = nI (p_ne G.1 t) := fun e => by subst e; exact ⟨a0, by rw [hI_wI_a (by omega)]; exact b3⟩
          obtain ⟨d1, d2⟩ := k2 rfl
          rw [gI_ok d1, d2, nI_1, pI_ok d1, gI_ok (show hT (wI (wI (wI h1 (ta t + 1) (p_ne G.1 t) k) (ta t + 2) (p_ne G.1 t) (nI j)) (ta t) 5 (nI (p_ne G.1 t + 1))) (ta t) = _ from a0), hI_wI_s, cl_ok]
          have f23 : Fr (fun b => ta t ≤ b ∧ b ≤ ta t + 2) h1 (wI (wI (wI h1 (ta t + 1) (p_ne G.1 t) k) (ta t + 2) (p_ne G.1 t) (nI j)) (ta t) 5 (nI (p_ne G.1 t + 1))) := ((Fr.wI (A := fun b => ta t ≤ b ∧ b ≤ ta t + 2) (by omega)).trans (Fr.wI (A := fun b => ta t ≤ b ∧ b ≤ ta t + 2) (by omega))).trans (Fr.wI (A := fun b => ta t ≤ b ∧ b ≤ ta t + 2) (by omega))
          have e5 : hI (wI (wI (wI h1 (ta t + 1) (p_ne G.1 t) k) (ta t + 2) (p_ne G.1 t) (nI j)) (ta t) 5 (nI (p_ne G.1 t + 1))) (ta t) 5 = nI (p_ne G.1 t + 1) := hI_wI_s
          have gk : ∀ i, i ≠ 5 → hI (wI (wI (wI h1 (ta t + 1) (p_ne G.1 t) k) (ta t + 2) (p_ne G.1 t) (nI j)) (ta t) 5 (nI (p_ne G.1 t + 1))) (ta t) i = hI h1 (ta t) i := fun i i5 => by rw [hI_wI_k i5, hI_wI_a (by omega), hI_wI_a (by omega)]
          have e1 : ∀ i, hI (wI (wI (wI h1 (ta t + 1) (p_ne G.1 t) k) (ta t + 2) (p_ne G.1 t) (nI j)) (ta t) 5 (nI (p_ne G.1 t + 1))) (ta t + 1) i = if i = p_ne G.1 t then k else hI h1 (ta t + 1) i := fun i => by
            rw [hI_wI_a (by omega), hI_wI_a (by omega)]
            by_cases z : i = p_ne G.1 t
            · rw [if_pos z, z]; exact hI_wI_s
            · rw [if_neg z, hI_wI_k z]
          have e2 : ∀ i, hI (wI (wI (wI h1 (ta t + 1) (p_ne G.1 t) k) (ta t + 2) (p_ne G.1 t) (nI j)) (ta t) 5 (nI (p_ne G.1 t + 1))) (ta t + 2) i = if i = p_ne G.1 t then nI j else hI h1 (ta t + 2) i := fun i => by
            rw [hI_wI_a (by omega)]
            by_cases z : i = p_ne G.1 t
            · rw [if_pos z, z]; exact hI_wI_s
            · rw [if_neg z, hI_wI_k z, hI_wI_a (by omega)]
          generalize wI (wI (wI h1 (ta t + 1) (p_ne G.1 t) k) (ta t + 2) (p_ne G.1 t) (nI j)) (ta t) 5 (nI (p_ne G.1 t + 1)) = g at f23 e5 gk e1 e2 ⊢
          have tc : TC g (ta t) (pgE G.1 t j k) t := by
            obtain ⟨⟨v1, v2, v3, v4⟩, v5⟩ := y3
            refine ⟨⟨by rw [gk _ (by decide)]; exact v1, by rw [gk _ (by decide)]; exact v2, by rw [gk _ (by decide)]; exact v3, by rw [e5, pE_ne]⟩, fun i hi => ?_⟩
            rw [pE_ne] at hi
            rw [e1, e2, (pE_k i).1, (pE_k i).2]
            by_cases z : i = p_ne G.1 t
            · rw [if_pos z, if_pos z, if_pos z, if_pos z]; exact ⟨rfl, rfl⟩
            · rw [if_neg z, if_neg z, if_neg z, if_neg z]; exact v5 i (by omega)
          have pc2 : PC g o ma ta (pgE G.1 t j k) := pcT_row v1.1 ap ht eqt_E f23 (fun b z => z) tc
          have va2 : CGa g o ma ta (pgE G.1 t j k) G.2.1 nob nob := by
            refine v1.pg f23 (fun b h1 h2 => by omega) (fun m' hm' b h1 h2 => ?_) (fun m' hm' => ?_) pc2 rfl rfl
            · have := ap.2.2.2.2 m' t hm' ht; omega
            · have := ap.2.2.2.2 m' t hm' ht
              rw [(f23.2.2.2 (ma m') (by omega)).1]; exact ⟨rfl, rfl⟩
          have ff : Fr (fun b => (∃ k, k < p_nm G.1 ∧ b = ma k) ∨ (ta t ≤ b ∧ b ≤ ta t + 2)) h g := (f1.mono (fun b z => Or.inl z)).trans (f23.mono (fun b z => Or.inr z))
          obtain ⟨q1, q2⟩ := cq_pg cg va2 ff (fun b z => by
            rcases z with ⟨k, hk, e⟩ | z
            · have := ap.1 k hk; omega
            · omega)
          exact ok_some ⟨rfl, q1, q2⟩
      · rw [if_neg c, if_neg c]
        exact ok_some ⟨rfl, cg, FC.refl⟩
end GE2
