/-! a handler is added: the class, whole -/
section GI3
variable {h g : Hp} {o q : Nat} {G : Gs}
theorem c_han (gi : GI G) (cg : CG h o G) (x a b c d : Int32) : Ok (FX11_handler (some o) x a b c d h) (CQ o h (s_han G x a b c d)) := by
  obtain ⟨⟨ma, ta, va⟩, ⟨⟨t0, ⟨r0, r1, r2, r3⟩, t52⟩, -⟩, vc⟩ := id cg
  have pc := va.1
  have ap := va.2.1
  have hnm := gi.1.1
  unfold FX11_handler s_han
  rw [gR_ok t0, r0, rcv_ok pc.1.1]
  cases hx : wi x (p_nm G.1) with
  | false =>
    rw [f_findM_no pc gi.1 hx, cl_ok, nz_no, if_neg (by decide)]
    exact ok_some ⟨rfl, cg, FC.refl⟩
  | true =>
    obtain ⟨m, hm, rfl, ec⟩ := wi_ex (by omega) hx
    have wm := gi.1.2.2.2.1 m hm
    have hnh := wm.2.2.2.2.1
    obtain ⟨x1, x2, x3⟩ := pc.2.2.1 m hm
    rw [f_findM pc gi.1 hm, cl_ok, if_pos rfl, nz_ok, hk_pre, ec]
    by_cases z : okh a b c d = true
    · rw [if_pos z, if_pos z]
      obtain ⟨u, v, w, ⟨h1, h2, h3⟩, ⟨rfl, rfl, rfl⟩, ⟨c1, c2, c3⟩, hd⟩ := okh_ex z
      rw [gI_ok x2.1, x3.1.2.2.2.2, nl_6, if_eq (by omega) (by decide)]
      by_cases y : p_nh G.1 m = 6
      · rw [if_pos y, if_pos y]
        exact ok_some ⟨rfl, cg, FC.refl⟩
      · rw [if_neg y, if_neg y, gR_ok t0, r0, rcv_ok pc.1.1, c1, c2, c3]
        refine ok_cl (c_forget gi.1 va) (fun _ h1 z => ?_)
        obtain ⟨v1, f1⟩ := z
        obtain ⟨y1, y2, y3⟩ := v1.1.2.2.1 m hm
        have om := ap.1 m hm
        rw [rcv_ok y2.1]
        refine ok_cl (ca_core y2 y3.1.2.2.2.2 (by omega)) (fun r g z => ?_)
        obtain ⟨z1, e5, e6, e7, e8, e12, gk, f23⟩ := z
        have eb : ∀ b, ma m + 1 ≤ b ∧ b ≤ ma m + 4 → hI g b = hI h1 b := fun b hb => (f23.2.2.2 b (by omega)).1
        have mc : MC g (ma m) (pgH G.1 m u v w d) m := by
          obtain ⟨⟨v1, v2, v3, v4, v5⟩, v6, v7, v8⟩ := y3
          refine ⟨⟨by rw [gk _ (by decide)]; exact v1, by rw [gk _ (by decide)]; exact v2, by rw [gk _ (by decide)]; exact v3, by rw [gk _ (by decide)]; exact v4, by rw [e12, pH_nh]⟩, fun j hj => by rw [eb _ (by omega)]; exact v6 j hj, fun j hj => by rw [eb _ (by omega), eb _ (by omega), eb _ (by omega)]; exact v7 j hj, fun j hj => ?_⟩
          rw [pH_nh] at hj
          obtain ⟨k1, k2, k3, k4⟩ := pH_k (P := G.1) (m := m) (a := u) (b := v) (c := w) (d := d) j
          rw [e5, e6, e7, e8, k1, k2, k3, k4]
          by_cases z : j = p_nh G.1 m
          · rw [if_pos z, if_pos z, if_pos z, if_pos z, if_pos z, if_pos z, if_pos z, if_pos z]; exact ⟨rfl, rfl, rfl, rfl⟩
          · rw [if_neg z, if_neg z, if_neg z, if_neg z, if_neg z, if_neg z, if_neg z, if_neg z]; exact v8 j (by omega)
        have pc2 : PC g o ma ta (pgH G.1 m u v w d) := pc_row v1.1 ap hm eqm_H f23 (fun b z => by omega) mc
        have va2 : CGa g o ma ta (pgH G.1 m u v w d) G.2.1 nob nob := by
          refine v1.pg f23 (fun b h1 h2 => by omega) (fun m' hm' b h1 h2 => ?_) (fun m' hm' => ?_) pc2 rfl rfl
          · by_cases c : m' = m
            · subst c; omega
            · have := ap.2.2.1 m' m hm' hm c; omega
          · by_cases c : m' = m
            · subst c; rw [gk _ (by decide), gk _ (by decide)]; exact ⟨rfl, rfl⟩
            · have := ap.2.2.1 m' m hm' hm c
              rw [(f23.2.2.2 (ma m') (by omega)).1]; exact ⟨rfl, rfl⟩
        have ff : Fr (fun b => (∃ k, k < p_nm G.1 ∧ b = ma k) ∨ (b = ma m ∨ (ma m + 5 ≤ b ∧ b ≤ ma m + 8))) h g := (f1.mono (fun b z => Or.inl z)).trans (f23.mono (fun b z => Or.inr z))
        obtain ⟨q1, q2⟩ := cq_pg cg va2 ff (fun b z => by
          rcases z with ⟨k, hk, e⟩ | z
          · have := ap.1 k hk; omega
          · omega)
        exact ok_some ⟨z1, q1, q2⟩
    · rw [if_neg z, if_neg z]
      exact ok_some ⟨rfl, cg, FC.refl⟩
end GI3
