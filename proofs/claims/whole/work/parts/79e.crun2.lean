/-! the class: a step, a walk -/
theorem refc_lt {T : Th} {x k : Int32} {b f : Nat} (h : refc T x k b = some f) : f < 16 := by
  unfold refc at h
  split at h
  · injection h with h; omega
  · split at h
    · injection h with h; omega
    · split at h
      · injection h with h; omega
      · cases h
theorem xnum_f {op a b d i : Nat} {s : Nat → Int64} {hn : Nat → Nat} {T : Th} {fl : Nat × Option Nat} (h : (x_num op a b d s hn i T).1 = some fl) : fl.1 < 16 ∧ fl.2 = none := by
  unfold x_num at h
  simp only [xo, xf] at h
  split at h
  · split at h
    · injection h with h; subst h; exact ⟨by decide, rfl⟩
    · split at h
      · cases h
      · split at h <;> cases h
  · split at h <;> cases h
theorem xarr_f {op b d i : Nat} {A : Int32} {s : Nat → Int64} {hn : Nat → Nat} {T : Th} {fl : Nat × Option Nat} (h : (x_arr op A b d s hn i T).1 = some fl) : fl.1 < 16 ∧ fl.2 = none := by
  unfold x_arr x_put at h
  simp only [xo, xf] at h
  split at h
  · split at h
    · injection h with h; subst h; exact ⟨by decide, rfl⟩
    · split at h
      · cases h
      · injection h with h; subst h; exact ⟨by decide, rfl⟩
  · split at h
    · split at h
      · rename_i z; injection h with h; subst h; exact ⟨refc_lt z, rfl⟩
      · cases h
    · split at h
      · split at h
        · rename_i z; injection h with h; subst h; exact ⟨refc_lt z, rfl⟩
        · split at h
          · injection h with h; subst h; exact ⟨by decide, rfl⟩
          · cases h
      · split at h
        · split at h
          · injection h with h; subst h; exact ⟨by decide, rfl⟩
          · split at h
            · injection h with h; subst h; exact ⟨by decide, rfl⟩
            · cases h
        · split at h
          · cases h
          · split at h
            · cases h
            · injection h with h; subst h; exact ⟨by decide, rfl⟩
theorem xfm_f {op d i : Nat} {A : Int32} {s : Nat → Int64} {hn : Nat → Nat} {T : Th} {fl : Nat × Option Nat} (th : TH T) (ht : ¬ op = 30 → Ty T.1 4 (s (d - 1))) (h : (x_fm op A d s hn i T).1 = some fl) : fl.1 < 16 ∧ ∀ t, fl.2 = some t → t < T.1 := by
  unfold x_fm at h
  simp only [xo, xf, xft] at h
  split at h
  · split at h
    · injection h with h; subst h; exact ⟨by decide, fun t z => by cases z⟩
    · cases h
  · rename_i c30
    have tx := ty_4 th.1 (ht c30)
    split at h
    · injection h with h; subst h; exact ⟨by decide, fun t z => by cases z⟩
    · rename_i cm
      rcases tx with tx | ⟨u, hu, tx⟩
      · exact absurd tx cm
      · have h60 := th.1
        rw [tx, cN_n (by omega)] at h
        split at h
        · split at h
          · rename_i cn
            injection h with h
            subst h
            rcases (th.2 u hu).2.1 with ⟨-, -, j, hj, ej⟩ | ⟨y, y1, y2, y3, ey⟩
            · have e100 : T.2.1 u - (-100) = nI j := by rw [ej, Int32.add_comm (-100) (nI j), Int32.add_sub_cancel]
              refine ⟨?_, fun t z => ?_⟩
              · show cN (T.2.1 u - (-100)) < 16
                rw [e100, cN_n (by omega)]; exact hj
              · injection z with z; omega
            · rw [ey] at cn; exact absurd cn (nI_pos (by omega))
          · injection h with h; subst h; exact ⟨by decide, fun t z => by cases z⟩
        · split at h
          · cases h
          · split at h
            · injection h with h; subst h; exact ⟨by decide, fun t z => by cases z⟩
            · cases h
theorem xop_f {P : Pg} {op : Nat} {A B : Int32} {m i d : Nat} {s l : Nat → Int64} {hn : Nat → Nat} {T : Th} {fl : Nat × Option Nat} (th : TH T) (hop : op < 34) (ht : 30 < op → Ty T.1 4 (s (d - 1))) (h : (x_op P op A B (m, i, d, s, l, hn) T).1 = some fl) : fl.1 < 16 ∧ ∀ t, fl.2 = some t → t < T.1 := by
  by_cases c1 : 8 ≤ op ∧ op ≤ 16
  · unfold x_op at h; rw [if_pos c1] at h; cases h
  · by_cases c6 : op = 6
    · unfold x_op at h; rw [if_neg c1, if_pos c6] at h; cases h
    · by_cases c7 : op = 7
      · unfold x_op at h; rw [if_neg c1, if_neg c6, if_pos c7] at h; cases h
      · rw [xop_v c1 c6 c7] at h
        have h : (x_val P op A B d s l hn i T).1 = some fl := h
        unfold x_val at h
        by_cases y1 : op = 1 ∨ op = 3
        · rw [if_pos y1] at h; cases h
        · rw [if_neg y1] at h
          by_cases y2 : op = 4
          · rw [if_pos y2] at h; cases h
          · rw [if_neg y2] at h
            by_cases y3 : op < 4
            · rw [if_pos y3] at h; cases h
            · rw [if_neg y3] at h
              by_cases y4 : op = 5
              · rw [if_pos y4] at h; cases h
              · rw [if_neg y4] at h
                by_cases y5 : op < 20
                · rw [if_pos y5] at h
                  have := xnum_f h
                  exact ⟨this.1, fun t z => by rw [this.2] at z; cases z⟩
                · rw [if_neg y5] at h
                  by_cases y6 : op < 24
                  · rw [if_pos y6] at h; cases h
                  · rw [if_neg y6] at h
                    by_cases y7 : op < 30
                    · rw [if_pos y7] at h
                      have := xarr_f h
                      exact ⟨this.1, fun t z => by rw [this.2] at z; cases z⟩
                    · rw [if_neg y7] at h
                      exact xfm_f th (fun z => ht (by omega)) h
section CV
variable {o : Nat} {ma ta : Nat → Nat} {P : Pg} {tt : Nat → Tab}
/-- the facts of the uppermost call -/
theorem top_f (pw : PW P) (st : ST P tt) {k n : Nat} {C : Nat → Cl} {T : Th} {R : (Int32 × Int32 × Int32) × (Nat × Nat × Nat) × Int64} (wi : WI P tt k ((n + 1, C), T, R)) : (C n).1 < p_nm P ∧ (C n).2.1 < p_no P (C n).1 ∧ (C n).2.2.1 ≤ 12 ∧ TSt T.1 (C n).2.2.1 ((tt (C n).1).2.1 (C n).2.1) (C n).2.2.2.1 ∧ Dn P (C n).1 (tt (C n).1) (C n).2.1 ∧ t_sh (tt (C n).1) (C n).2.1 = ((C n).2.2.1, (tt (C n).1).2.1 (C n).2.1, (tt (C n).1).2.2.1 (C n).2.1) := by
  obtain ⟨th, -, ci, tp, sp⟩ := wi
  have c0 := ci n (by show n < n + 1; omega)
  have t0 := tp n rfl
  obtain ⟨s1, s2⟩ := st _ c0.1
  obtain ⟨a1, a2, a3⟩ := s1.1 _ _ t0
  refine ⟨c0.1, a1, a2, c0.2.1, a3, ?_⟩
  unfold t_sh
  have t0 : (tt (C n).1).1 (C n).2.1 = some (C n).2.2.1 := t0
  rw [t0]; rfl
theorem all_f (pw : PW P) (st : ST P tt) {k : Nat} {W : Wk} (wi : WI P tt k W) : ∀ c, c < W.1.1 → (W.1.2 c).1 < p_nm P ∧ (W.1.2 c).2.1 < 60 := by
  intro c hc
  obtain ⟨th, -, ci, tp, sp⟩ := wi
  have c0 := (ci c hc).1
  have hno := (pw.2.2.2.1 _ c0).2.2.2.1
  by_cases z : c + 1 = W.1.1
  · have := ((st _ c0).1.1 _ _ (tp c z)).1
    exact ⟨c0, by omega⟩
  · obtain ⟨e, t0, -⟩ := sp c (by omega)
    have := ((st _ c0).1.1 _ _ t0).1
    exact ⟨c0, by omega⟩
theorem cr_step (pw : PW P) (ap : Apt o ma ta P) (st : ST P tt) {h : Hp} {n k steps f : Nat} {C : Nat → Cl} {T : Th} {R : (Int32 × Int32 × Int32) × (Nat × Nat × Nat) × Int64} {Q : Int32 → Hp → Prop} (wi : WI P tt k ((n + 1, C), T, R)) (wi2 : (w_one P ((n + 1, C), T, R) n).2.2.2.1.2.1 ≤ 14) (pc : PC h o ma ta P) (cw : CW h o ma ((n + 1, C), T, R)) (h10 : hI h (o + 14) 10 = nI k) (hk : k < steps) (hs : steps ≤ 3000) (kk : ∀ g', CW g' o ma (w_max (w_one P ((n + 1, C), T, R) n)) → hI g' (o + 14) 10 = nI (k + 1) → PC g' o ma ta P → Fu o h g' → Ok (BX9_run_5 f (some (o + 14)) (nI steps) g') Q) : Ok (BX9_run_5 (f + 1) (some (o + 14)) (nI steps) h) Q := by
  obtain ⟨f1, f2, f3, f4, f5, f6⟩ := top_f pw st wi
  have fa := all_f pw st wi
  have th : TH T := wi.1
  have c0 : CI P tt T k (C n) := wi.2.2.1 n (by show n < n + 1; omega)
  have hsm : sm 60 (C n).2.2.2.2.2 ≤ k := c0.2.2.2.2
  have wm := pw.2.2.2.1 _ f1
  have hno := wm.2.2.2.1
  have am := ap.1 _ f1
  obtain ⟨hod, htg, e, htk, h57, h34, hput, hS12, hnx⟩ := j_own_0 f5.1
  rw [f6] at htk h57
  have htk : j_take P (p_op P (C n).1 (C n).2.1) (cN (p_A P (C n).1 (C n).2.1)) (cN (p_B P (C n).1 (C n).2.1)) (C n).2.2.1 ((tt (C n).1).2.1 (C n).2.1) = some e := htk
  have hop := wm.2.2.2.2.2.2.2.1 _ f2
  have wt := cw.1
  have t14 := wt.1.1
  obtain ⟨n1, n2⟩ := cw.2.2.1
  have n1 : hI h (o + 14) 4 = nI (n + 1) := n1
  have n2 : n + 1 ≤ 6 := n2
  obtain ⟨⟨r20, t22⟩, -⟩ := wt.2.2.2.2 n (by omega)
  obtain ⟨cs0, cm0⟩ := cw.2.2.2.1 n (by show n < n + 1; omega)
  have cs0 : CS h o n (C n) := cs0
  have cm0 : CM h o ma n (C n) := cm0
  unfold BX9_run_5
  rw [gI_ok t14, h10, if_lt (by omega) (by omega), if_pos hk, gI_ok t14, n1, ir_0 (by omega), if_pos (by omega), gR_ok t14, wt.1.2.2.2.1, gI_ok t14, n1, nI_pred, aR_n wt.2.2.2.1.1 (by omega) (by decide), r20, gI_ok t22, cm0.2.1, pI_ok t22, nI_1, pI_ok (show hT (wI h (o + 22 + 5 * n) 3 (nI ((C n).2.1 + 1))) (o + 14) = _ from t14)]
  have fr1 : Fr (fun b => b = o + 22 + 5 * n ∨ b = o + 14) h (wI (wI h (o + 22 + 5 * n) 3 (nI ((C n).2.1 + 1))) (o + 14) 14 (-1)) := (Fr.wI (A := fun b => b = o + 22 + 5 * n ∨ b = o + 14) (Or.inl rfl)).trans (Fr.wI (Or.inr rfl))
  have ek : ∀ x, x ≠ 14 → hI (wI (wI h (o + 22 + 5 * n) 3 (nI ((C n).2.1 + 1))) (o + 14) 14 (-1)) (o + 14) x = hI h (o + 14) x := fun x hx => by rw [hI_wI_k hx, hI_wI_a (by omega)]
  have e14 : hI (wI (wI h (o + 22 + 5 * n) 3 (nI ((C n).2.1 + 1))) (o + 14) 14 (-1)) (o + 14) 14 = -1 := hI_wI_s
  have ek2 : ∀ x, x ≠ 3 → hI (wI (wI h (o + 22 + 5 * n) 3 (nI ((C n).2.1 + 1))) (o + 14) 14 (-1)) (o + 22 + 5 * n) x = hI h (o + 22 + 5 * n) x := fun x hx => by rw [hI_wI_a (by omega), hI_wI_k hx]
  have e3 : hI (wI (wI h (o + 22 + 5 * n) 3 (nI ((C n).2.1 + 1))) (o + 14) 14 (-1)) (o + 22 + 5 * n) 3 = nI ((C n).2.1 + 1) := by rw [hI_wI_a (by omega)]; exact hI_wI_s
  have eL : hL (wI (wI h (o + 22 + 5 * n) 3 (nI ((C n).2.1 + 1))) (o + 14) 14 (-1)) = hL h := rfl
  generalize wI (wI h (o + 22 + 5 * n) 3 (nI ((C n).2.1 + 1))) (o + 14) 14 (-1) = g at fr1 ek e14 ek2 e3 eL ⊢
  have fwg : Fw o h g := Fw.of fr1 (fun b z => by omega) (ek 6 (by decide)) (ek 10 (by decide))
  have cwg : CW g o ma ((n + 1, C), T, R) := cw.kp fr1 (fun b z => z.elim (fun z => Or.inr ⟨n, by omega, z⟩) Or.inl) (fun x hx => ek x (by omega)) (by rw [eL]) (fun c hc x hx => by
    by_cases z : c = n
    · subst z; exact ek2 x (by omega)
    · rw [(fr1.2.2.2 _ (by omega)).1])
  have pcg := pc.fw ap fwg
  have wg := cwg.1
  obtain ⟨⟨s20, u22⟩, -⟩ := wg.2.2.2.2 n (by omega)
  obtain ⟨csg, cmg⟩ := cwg.2.2.2.1 n (by show n < n + 1; omega)
  have csg : CS g o n (C n) := csg
  have cmg : CM g o ma n (C n) := cmg
  obtain ⟨x1, x2, x3⟩ := pcg.2.2.1 _ f1
  obtain ⟨a0, ⟨m1, m4, m5, m6, m8, m9, m10, m11, m13⟩, v1, v2, v3, v4, -⟩ := id x2
  obtain ⟨o1, o2, o3⟩ := x3.2.2.1 _ f2
  rw [gR_ok u22, cmg.2.2, gR_ok a0, m4, aI_n v2 (by omega) (by decide), o1, gR_ok u22, cmg.2.2, gR_ok a0, m5, aI_n v3 (by omega) (by decide), o2, gR_ok u22, cmg.2.2, gR_ok a0, m6, aI_n v4 (by omega) (by decide), o3, rcv_ok wg.1.1]
  have h10g : hI g (o + 14) 10 = nI k := by rw [ek 10 (by decide)]; exact h10
  -- a failure
  have rz : ∀ (g1 : Hp) (W1 : Wk) (fl : Nat) (tho : Option Nat), CX g1 o ma W1 → W1.1 = (n + 1, C) → Fw o g g1 → hI g1 (o + 14) 14 = o2i tho → (∀ t, tho = some t → t < 60) → fl < 16 → (w_one P ((n + 1, C), T, R) n) = w_raise P W1 fl tho (C n).1 (C n).2.1 → Ok (if nI fl = (-1) then gI g1 (some (o + 22 + 5 * n)) 0 3 fun v88 => pI g1 (some (o + 22 + 5 * n)) 0 2 v88 fun h95 => BX9_run_111 (BX9_run_5 f) (some (o + 14)) (nI steps) h95 else gI g1 (some (o + 22 + 5 * n)) 0 0 fun v97 => rcv g1 (some (o + 14)) 8 <| cl (FX9_raise (some (o + 14)) (nI fl) v97 (nI (C n).2.1) g1) fun v101 h102 => BX9_run_111 (BX9_run_5 f) (some (o + 14)) (nI steps) h102) Q := by
    intro g1 W1 fl tho cx hW fw1 e14 htho hfl hone
    have w1 := cx.1
    obtain ⟨⟨-, y22⟩, -⟩ := w1.2.2.2.2 n (by omega)
    have cm1 : CM g1 o ma n (C n) := by
      have := (cx.2.2.2.1 n (by rw [hW]; show n < n + 1; omega)).2.2
      rw [hW] at this
      exact this
    rw [ie_m (by omega), gI_ok y22, cm1.1, rcv_ok w1.1.1]
    refine ok_cl (f_raise (f := fl) (m := (C n).1) (i := (C n).2.1) pw ap (pcg.fw ap fw1) cx e14 htho (fun c hc => by rw [hW] at hc ⊢; exact fa c hc)) (fun _ g2 q => ?_)
    obtain ⟨q1, q2⟩ := q
    rw [← hone] at q1
    have fwa := (fwg.trans fw1).trans q2
    exact cr_end ap pc fwa.fu q1 (by rw [fwa.2.2.2.2.2]; exact h10) wi2 kk
  by_cases c34 : p_op P (C n).1 (C n).2.1 = 34
  · have hA34 : cN (p_A P (C n).1 (C n).2.1) = p_re P (C n).1 := by
      by_cases z : cN (p_A P (C n).1 (C n).2.1) = p_re P (C n).1
      · exact z
      · exact absurd ⟨c34, z⟩ h34
    have htk2 : takeL ((tt (C n).1).2.1 (C n).2.1) (if p_re P (C n).1 = 5 then [] else [p_re P (C n).1]) (C n).2.2.1 = some e := by
      rw [c34, hA34] at htk
      exact htk
    have hre : p_re P (C n).1 = 5 ∨ p_re P (C n).1 < 5 ∧ wd (p_re P (C n).1) ≤ (C n).2.2.1 := by
      have := wm.1
      by_cases z : p_re P (C n).1 = 5
      · exact Or.inl z
      · rw [if_neg z] at htk2
        obtain ⟨k1, -⟩ := tkL _ htk2
        rw [tkW_1] at k1
        exact Or.inr ⟨by omega, k1⟩
    have hone : w_one P ((n + 1, C), T, R) n = w_leave P ((n + 1, C), T, R) n (C n) := by
      show (if p_op P (C n).1 (C n).2.1 = 34 then _ else _) = _
      rw [if_pos c34]
    rw [c34]
    have pf : FX9_perform (some (o + 14)) (some (o + 22 + 5 * n)) (nI 34) (p_A P (C n).1 (C n).2.1) (p_B P (C n).1 (C n).2.1) g = cl (FX9_leave (some (o + 14)) (some (o + 22 + 5 * n)) g) (fun v10 h11 => some (v10, h11)) := by
      unfold FX9_perform
      rw [if_pos (by decide), if_pos (by decide), if_pos (by decide), if_pos (by decide), if_pos (by decide), if_pos (by decide), if_pos (by decide), if_pos (by decide), if_pos (show nI 34 = 34 from rfl), rcv_ok wg.1.1]
    rw [pf]
    refine ok_cl (ok_cl (f_leave pw pcg cwg f1 (by omega) hre (fun c hc => ?_)) (fun r g1 q => ok_some q)) (fun r g1 q => ?_)
    · have w := wd_le (p_re P (C n).1)
      obtain ⟨ee, z1, z2, z3, z4⟩ := wi.2.2.2.2 c (by show c + 1 < n + 1; omega)
      have z1 : (tt (C c).1).1 (C c).2.1 = some ee := z1
      have z4 : takeL ((tt (C c).1).2.1 (C c).2.1) (argL P (C (c + 1)).1 (p_na P (C (c + 1)).1)) ee = some (C c).2.2.1 := z4
      have cc := (wi.2.2.1 c (by show c < n + 1; omega)).1
      have := ((st _ cc).1.1 _ _ z1).2.1
      obtain ⟨-, k2⟩ := tkL _ z4
      right; omega
    · rcases q with ⟨q0, rfl, rfl⟩ | ⟨q0, rfl, q2, q3, q4⟩
      · have hone2 : w_one P ((n + 1, C), T, R) n = w_raise P ((n + 1, C), T, R) 6 none (C n).1 (C n).2.1 := by
          rw [hone]
          unfold w_leave
          rw [if_pos q0]
        exact rz g1 ((n + 1, C), T, R) 6 none cwg.cx rfl Fw.refl e14 (fun t z => by cases z) (by decide) hone2
      · have w1 := q2.1
        obtain ⟨⟨-, y22⟩, -⟩ := w1.2.2.2.2 n (by omega)
        rw [if_pos rfl, gI_ok y22, pI_ok y22]
        have fr2 : Fr (fun b => b = o + 22 + 5 * n) g1 (wI g1 (o + 22 + 5 * n) 2 (hI g1 (o + 22 + 5 * n) 3)) := Fr.wI rfl
        have fw2 : Fw o g1 (wI g1 (o + 22 + 5 * n) 2 (hI g1 (o + 22 + 5 * n) 3)) := Fw.of' fr2 (fun b z => by omega)
        have fwa := (fwg.trans q3).trans fw2
        have cw2 : CW (wI g1 (o + 22 + 5 * n) 2 (hI g1 (o + 22 + 5 * n) 3)) o ma (w_one P ((n + 1, C), T, R) n) := by
          rw [hone]
          refine q2.kp fr2 (fun b z => Or.inr ⟨n, by omega, z⟩) (fun x hx => by rw [(fr2.2.2.2 (o + 14) (by omega)).1]) rfl (fun c hc x hx => ?_)
          rw [q4] at hc
          have hc : c < n := hc
          rw [(fr2.2.2.2 (o + 22 + 5 * c) (by omega)).1]
        exact cr_end ap pc fwa.fu cw2 (by rw [fwa.2.2.2.2.2]; exact h10) wi2 kk
  · by_cases c35 : p_op P (C n).1 (C n).2.1 = 35
    · have hod2 : (fun (a : Int32) (b : Nat) => decide (0 ≤ a.toInt ∧ a.toInt < b)) (p_A P (C n).1 (C n).2.1) (p_nm P) = true := by
        rw [c35] at hod; exact hod
      have hnm := pw.1
      obtain ⟨a, ha, ea, eca⟩ := wi_ex (by omega) hod2
      have htk2 : takeL ((tt (C n).1).2.1 (C n).2.1) (argL P a (p_na P a)) (C n).2.2.1 = some e := by
        rw [c35, eca] at htk
        exact htk
      obtain ⟨k1, -⟩ := tkL _ htk2
      rw [aw_arg, (pw.2.2.2.1 a ha).2.2.2.2.2.1] at k1
      have hone : w_one P ((n + 1, C), T, R) n = w_enter P ((n + 1, C), T, R) n (C n) a := by
        show (if p_op P (C n).1 (C n).2.1 = 34 then _ else if p_op P (C n).1 (C n).2.1 = 35 then w_enter P ((n + 1, C), T, R) n (C n) (cN (p_A P (C n).1 (C n).2.1)) else _) = _
        rw [if_neg c34, if_pos c35, eca]
      rw [c35, ea]
      have pf : FX9_perform (some (o + 14)) (some (o + 22 + 5 * n)) (nI 35) (nI a) (p_B P (C n).1 (C n).2.1) g = cl (FX9_enter (some (o + 14)) (some (o + 22 + 5 * n)) (nI a) g) (fun v10 h11 => some (v10, h11)) := by
        unfold FX9_perform
        rw [if_pos (by decide), if_pos (by decide), if_pos (by decide), if_pos (by decide), if_pos (by decide), if_pos (by decide), if_pos (by decide), if_pos (by decide), if_neg (by decide), rcv_ok wg.1.1]
      rw [pf]
      refine ok_cl (ok_cl (f_enter pw ap pcg cwg ha k1) (fun r g1 q => ok_some q)) (fun r g1 q => ?_)
      rcases q with ⟨q0, rfl, rfl⟩ | ⟨q0, rfl, q2, q3, q4⟩
      · have hone2 : w_one P ((n + 1, C), T, R) n = w_raise P ((n + 1, C), T, R) 8 none (C n).1 (C n).2.1 := by
          rw [hone]
          unfold w_enter
          rw [if_pos q0]
        exact rz g1 ((n + 1, C), T, R) 8 none cwg.cx rfl Fw.refl e14 (fun t z => by cases z) (by decide) hone2
      · have w1 := q2.1
        obtain ⟨⟨-, y22⟩, -⟩ := w1.2.2.2.2 n (by omega)
        have e2 : hI g1 (o + 22 + 5 * n) 2 = nI (C n).2.1 := by
          have hn2 : n < (w_enter P ((n + 1, C), T, R) n (C n) a).1.1 := by
            unfold w_enter
            rw [if_neg q0]
            show n < n + 2
            omega
          have := (q2.2.2.2.1 n hn2).2.2.1
          rw [this]
          unfold w_enter
          rw [if_neg q0]
          show nI (va_up (va_up C n _) (n + 1) _ n).2.1 = _
          rw [va_n _ _ (by omega), va_s]
        rw [if_pos rfl, gI_ok y22, q4, pI_ok y22, wI_id e2]
        have fwa := fwg.trans q3
        rw [← hone] at q2
        exact cr_end ap pc fwa.fu q2 (by rw [fwa.2.2.2.2.2]; exact h10) wi2 kk
    · have hop34 : p_op P (C n).1 (C n).2.1 < 34 := by omega
      have hone : w_one P ((n + 1, C), T, R) n = w_plain P ((n + 1, C), T, R) n (C n) (x_op P (p_op P (C n).1 (C n).2.1) (p_A P (C n).1 (C n).2.1) (p_B P (C n).1 (C n).2.1) (C n) T) := by
        show (if p_op P (C n).1 (C n).2.1 = 34 then _ else if p_op P (C n).1 (C n).2.1 = 35 then _ else _) = _
        rw [if_neg c34, if_neg c35]
      have hA : 20 ≤ p_op P (C n).1 (C n).2.1 → p_op P (C n).1 (C n).2.1 ≤ 22 → ∃ a, a < 60 ∧ p_A P (C n).1 (C n).2.1 = nI a := by
        intro z1 z2
        unfold j_tg at htg
        rw [Bool.and_eq_true, Bool.and_eq_true] at htg
        have := htg.1.1
        rw [if_pos (by omega)] at this
        obtain ⟨x, hx, ex, -⟩ := wi_ex (by omega) this
        exact ⟨x, by omega, ex⟩
      have hfl : ∀ t, t < T.1 → T.2.1 t < 0 → ∃ j : Nat, j < 16 ∧ T.2.1 t = -100 + nI j := by
        intro t ht hneg
        rcases (th.2 t ht).2.1 with ⟨-, -, z⟩ | ⟨y, y1, y2, y3, ey⟩
        · exact z
        · rw [ey] at hneg; exact absurd hneg (nI_pos (by omega))
      have px : PX g o n (C n) T := ⟨wg, cwg.2.1, csg, e14, e3, by omega⟩
      have pr := f_perform (m := (C n).1) (i := (C n).2.1) (d := (C n).2.2.1) (s := (C n).2.2.2.1) (l := (C n).2.2.2.2.1) (hn := (C n).2.2.2.2.2) px pcg pw ap hop34 hod htk f3 f4 hfl hA (by omega)
      have ht30 : 30 < p_op P (C n).1 (C n).2.1 → Ty T.1 4 ((C n).2.2.2.1 ((C n).2.2.1 - 1)) := by
        intro z
        have e4 : j_tk P (p_op P (C n).1 (C n).2.1) (cN (p_A P (C n).1 (C n).2.1)) (cN (p_B P (C n).1 (C n).2.1)) = [4] := by
          rcases (show p_op P (C n).1 (C n).2.1 = 31 ∨ p_op P (C n).1 (C n).2.1 = 32 ∨ p_op P (C n).1 (C n).2.1 = 33 by omega) with y | y | y <;> rw [y] <;> rfl
        unfold j_take at htk
        rw [if_neg (by omega), e4, takeL] at htk
        by_cases cc : wd 4 ≤ (C n).2.2.1 ∧ (tt (C n).1).2.1 (C n).2.1 ((C n).2.2.1 - wd 4) = 4
        · have w4 : wd 4 = 1 := rfl
          have := f4 ((C n).2.2.1 - wd 4) (by omega)
          rw [cc.2] at this
          exact this
        · rw [if_neg cc] at htk; cases htk
      have hxf := fun fl => xop_f (fl := fl) (P := P) (A := p_A P (C n).1 (C n).2.1) (B := p_B P (C n).1 (C n).2.1) (m := (C n).1) (i := (C n).2.1) (d := (C n).2.2.1) (s := (C n).2.2.2.1) (l := (C n).2.2.2.2.1) (hn := (C n).2.2.2.2.2) th hop34 ht30
      have hxm := xop_m (P := P) (op := p_op P (C n).1 (C n).2.1) (A := p_A P (C n).1 (C n).2.1) (B := p_B P (C n).1 (C n).2.1) (x := C n) (T := T)
      refine ok_cl pr (fun r g1 q => ?_)
      have eC : ((C n).1, (C n).2.1, (C n).2.2.1, (C n).2.2.2.1, (C n).2.2.2.2.1, (C n).2.2.2.2.2) = C n := rfl
      rw [eC] at q hxf
      generalize x_op P (p_op P (C n).1 (C n).2.1) (p_A P (C n).1 (C n).2.1) (p_B P (C n).1 (C n).2.1) (C n) T = X at q hone hxf hxm
      obtain ⟨X1, X2, X3⟩ := X
      obtain ⟨q1, q2, q3, q4, q5, q6⟩ := q
      have q5 : TV g1 o X3 U0 := q5
      have fw1 : Fw o g g1 := Fw.of q1 (fun b z => by unfold AP at z; omega) (q2 6 (by decide)) (q2 10 (by decide))
      have wg1 := wg.fr q1
      have oth : ∀ c, c < n + 1 → c ≠ n → CS g1 o c (C c) ∧ CM g1 o ma c (C c) := fun c hc hne => by
        obtain ⟨y1, y2⟩ := cwg.2.2.2.1 c hc
        exact ⟨y1.keep q1 (fun b h1 h2 => by unfold AP; omega), y2.keep q1 (by unfold AP; omega)⟩
      have kk4 := cwg.2.2.2.2
      cases X1 with
      | some fl =>
        obtain ⟨q7, q8, d', s', q9⟩ := q6
        obtain ⟨z1, z2⟩ := hxf fl rfl
        have h60 := th.1
        rw [q7]
        refine rz g1 ((n + 1, C), X3, R) fl.1 fl.2 ⟨wg1, q5, ⟨by rw [q2 4 (by decide)]; exact cwg.2.2.1.1, n2⟩, fun c hc => ?_, ?_⟩ rfl fw1 q8 (fun t z => by have := z2 t z; omega) z1 hone
        · have hc : c < n + 1 := hc
          by_cases z : c = n
          · subst z
            refine ⟨fun y => (by have y : c + 1 < c + 1 := y; omega), ⟨d', s', q9⟩, ?_⟩
            refine ⟨?_, ?_, ?_⟩
            · rw [q4 0 (by decide) (by decide)]; exact cmg.1
            · rw [q4 2 (by decide) (by decide)]; exact cmg.2.1
            · rw [q1.2.1]; exact cmg.2.2
          · obtain ⟨y1, y2⟩ := oth c hc z
            exact ⟨fun _ => y1, ⟨_, _, y1⟩, y2⟩
        · refine ⟨fun c hc j hj => ?_, ?_, ?_, ?_⟩
          · by_cases z : c = n
            · subst z; exact q9.2.1 j hj
            · rw [(q1.2.2.2 (o + 25 + 5 * c) (by unfold AP; omega)).2]; exact kk4.1 c hc j hj
          · rw [q2 7 (by decide), q2 8 (by decide), q2 9 (by decide)]; exact kk4.2.1
          · rw [q2 11 (by decide), q2 12 (by decide), q2 13 (by decide)]; exact kk4.2.2.1
          · rw [q3]; exact kk4.2.2.2
      | none =>
        obtain ⟨rfl, q8, q9⟩ := q6
        have q8 : hI g1 (o + 22 + 5 * n) 3 = nI X2.2.1 := q8
        have q9 : CS g1 o n X2 := q9
        have hxm : X2.1 = (C n).1 := hxm
        obtain ⟨⟨-, y22⟩, -⟩ := wg1.2.2.2.2 n (by omega)
        rw [if_pos rfl, gI_ok y22, q8, pI_ok y22]
        have fr2 : Fr (fun b => b = o + 22 + 5 * n) g1 (wI g1 (o + 22 + 5 * n) 2 (nI X2.2.1)) := Fr.wI rfl
        have e22 : hI (wI g1 (o + 22 + 5 * n) 2 (nI X2.2.1)) (o + 22 + 5 * n) 2 = nI X2.2.1 := hI_wI_s
        have k22 : ∀ x, x ≠ 2 → hI (wI g1 (o + 22 + 5 * n) 2 (nI X2.2.1)) (o + 22 + 5 * n) x = hI g1 (o + 22 + 5 * n) x := fun x hx => hI_wI_k hx
        generalize wI g1 (o + 22 + 5 * n) 2 (nI X2.2.1) = g2 at fr2 e22 k22 ⊢
        have fw2 : Fw o g1 g2 := Fw.of' fr2 (fun b z => by omega)
        have e14b := fr2.2.2.2 (o + 14) (by omega)
        have fwa := (fwg.trans fw1).trans fw2
        have cw2 : CW g2 o ma (w_one P ((n + 1, C), T, R) n) := by
          rw [hone]
          show CW g2 o ma ((n + 1, va_up C n X2), X3, R)
          refine ⟨wg1.fr fr2, q5.fr fr2 (fun b h1 h2 => by omega), ⟨by rw [e14b.1, q2 4 (by decide)]; exact cwg.2.2.1.1, n2⟩, fun c hc => ?_, fun c hc j hj => ?_, ?_, ?_, ?_⟩
          · have hc : c < n + 1 := hc
            show CS g2 o c (va_up C n X2 c) ∧ CM g2 o ma c (va_up C n X2 c)
            by_cases z : c = n
            · subst z
              rw [va_s]
              refine ⟨⟨q9.1.fr fr2 (by omega) (by omega), ?_, ?_, ?_⟩, ?_, ?_, ?_⟩
              · rw [(fr2.2.2.2 (o + 25 + 5 * c) (by omega)).2]; exact q9.2.1
              · rw [(fr2.2.2.2 (o + 26 + 5 * c) (by omega)).1]; exact q9.2.2.1
              · rw [k22 7 (by decide)]; exact q9.2.2.2
              · rw [k22 0 (by decide), q4 0 (by decide) (by decide), hxm]; exact cmg.1
              · exact e22
              · rw [fr2.2.1, q1.2.1, hxm]; exact cmg.2.2
            · rw [va_n _ _ z]
              obtain ⟨y1, y2⟩ := oth c hc z
              exact ⟨y1.keep fr2 (fun b h1 h2 => by omega), y2.keep fr2 (by omega)⟩
          · show hL g2 (o + 25 + 5 * c) j = (va_up C n X2 c).2.2.2.2.1 j
            rw [(fr2.2.2.2 (o + 25 + 5 * c) (by omega)).2]
            by_cases z : c = n
            · subst z; rw [va_s]; exact q9.2.1 j hj
            · rw [va_n _ _ z, (q1.2.2.2 (o + 25 + 5 * c) (by unfold AP; omega)).2]; exact kk4.1 c hc j hj
          · rw [e14b.1, q2 7 (by decide), q2 8 (by decide), q2 9 (by decide)]; exact kk4.2.1
          · rw [e14b.1, q2 11 (by decide), q2 12 (by decide), q2 13 (by decide)]; exact kk4.2.2.1
          · rw [e14b.2, q3]; exact kk4.2.2.2
        exact cr_end ap pc fwa.fu cw2 (by rw [fwa.2.2.2.2.2]; exact h10) wi2 kk
end CV
