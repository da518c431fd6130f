/-! an operation is added: both sides -/
def pgQ (P : Pg) (m op : Nat) (A B : Int32) : Pg := pgN (pgO P m (p_no P m) op A B) 7 m 0 (p_no P m + 1)
def s_op (G : Gs) (x p A B : Int32) : Int32 × Gs := if wi x (p_nm G.1) = true then (if wi p 36 = true then (if p_no G.1 (cN x) = 60 then (-4, G) else (nI (p_no G.1 (cN x)), fgt G (pgQ G.1 (cN x) (cN p) A B))) else (-2, G)) else (-2, G)
section GQ
variable {h g : Hp} {o q : Nat} {G : Gs} {P : Pg} {m i op : Nat} {A B : Int32}
theorem eqm_Q : EqM P (pgQ P m op A B) m := by
  have e := eqm_O (P := P) (m := m) (i := p_no P m) (op := op) (A := A) (B := B)
  refine ⟨fun c m' k z => ?_, e.2.1, e.2.2⟩
  show (if c = 7 then (if m' = m ∧ k = 0 then p_no P m + 1 else (pgO P m (p_no P m) op A B).1 c m' k) else (pgO P m (p_no P m) op A B).1 c m' k) = _
  by_cases c7 : c = 7
  · rw [if_pos c7, if_neg (by omega)]; exact e.1 c m' k z
  · rw [if_neg c7]; exact e.1 c m' k z
theorem pQ_no : p_no (pgQ P m op A B) m = p_no P m + 1 := by
  show (if m = m ∧ 0 = 0 then p_no P m + 1 else _) = _
  rw [if_pos ⟨rfl, rfl⟩]
theorem pw_Q (pw : PW P) (hm : m < p_nm P) (hop : op < 36) (h60 : ¬ p_no P m = 60) : PW (pgQ P m op A B) := by
  refine pw_row pw eqm_Q ?_
  obtain ⟨w1, w2, w3, w4, w5, w6, w7, w8, w9⟩ := pw.2.2.2.1 m hm
  refine ⟨w1, w2, w3, by rw [pQ_no]; omega, w5, (paw_c (P := P) (P' := pgQ P m op A B) (m := m) (fun _ => rfl) (p_na P m)).trans w6, w7, fun j hj => ?_, w9⟩
  rw [pQ_no] at hj
  show p_op (pgO P m (p_no P m) op A B) m j < 36
  rw [pO_op]
  by_cases z : j = p_no P m
  · rw [if_pos z]; exact hop
  · rw [if_neg z]; exact w8 j (by omega)
theorem gi_op (gi : GI G) (x p A B : Int32) : GI (s_op G x p A B).2 := by
  unfold s_op
  have hnm := gi.1.1
  cases hx : wi x (p_nm G.1) with
  | false => rw [if_neg (by decide)]; exact gi
  | true =>
    obtain ⟨m, hm, -, ec⟩ := wi_ex (by omega) hx
    rw [if_pos rfl]
    cases hp : wi p 36 with
    | false => rw [if_neg (by decide)]; exact gi
    | true =>
      obtain ⟨k, hk, -, ek⟩ := wi_ex (by decide) hp
      rw [if_pos rfl, ec, ek]
      by_cases c : p_no G.1 m = 60
      · rw [if_pos c]; exact gi
      · rw [if_neg c]; exact gi_fgt gi (pw_Q gi.1 hm hk c)
theorem cs_core {a : Nat} (mt : MT (hT h) (hR h) a) (hi : i < 60) : Ok (FX2_setOperation (some a) (nI i) (nI op) A B h) (fun _ g => (∀ j, hI g (a + 2) j = if j = i then nI op else hI h (a + 2) j) ∧ (∀ j, hI g (a + 3) j = if j = i then A else hI h (a + 3) j) ∧ (∀ j, hI g (a + 4) j = if j = i then B else hI h (a + 4) j) ∧ Fr (fun b => a + 2 ≤ b ∧ b ≤ a + 4) h g) := by
  obtain ⟨a0, ⟨r1, r4, r5, r6, r8, r9, r10, r11, r13⟩, t1, t2, t3, t4, -⟩ := mt
  unfold FX2_setOperation
  rw [gR_ok a0, r4, sI_n t2 (by omega) (by decide), gR_ok (show hT (wI h (a + 2) i (nI op)) a = _ from a0), show hR (wI h (a + 2) i (nI op)) a 5 = _ from r5, sI_n (show hT (wI h (a + 2) i (nI op)) (a + 3) = _ from t3) (by omega) (by decide), gR_ok (show hT (wI (wI h (a + 2) i (nI op)) (a + 3) i A) a = _ from a0), show hR (wI (wI h (a + 2) i (nI op)) (a + 3) i A) a 6 = _ from r6, sI_n (show hT (wI (wI h (a + 2) i (nI op)) (a + 3) i A) (a + 4) = _ from t4) (by omega) (by decide)]
  have f1 : Fr (fun b => a + 2 ≤ b ∧ b ≤ a + 4) h (wI (wI (wI h (a + 2) i (nI op)) (a + 3) i A) (a + 4) i B) := ((Fr.wI (A := fun b => a + 2 ≤ b ∧ b ≤ a + 4) ⟨by omega, by omega⟩).trans (Fr.wI (A := fun b => a + 2 ≤ b ∧ b ≤ a + 4) ⟨by omega, by omega⟩)).trans (Fr.wI (A := fun b => a + 2 ≤ b ∧ b ≤ a + 4) ⟨by omega, by omega⟩)
  refine ok_some ⟨fun j => ?_, fun j => ?_, fun j => ?_, f1⟩
  · rw [hI_wI_a (by omega), hI_wI_a (by omega)]
    by_cases z : j = i
    · rw [if_pos z, z]; exact hI_wI_s
    · rw [if_neg z, hI_wI_k z]
  · rw [hI_wI_a (by omega)]
    by_cases z : j = i
    · rw [if_pos z, z]; exact hI_wI_s
    · rw [if_neg z, hI_wI_k z, hI_wI_a (by omega)]
  · by_cases z : j = i
    · rw [if_pos z, z]; exact hI_wI_s
    · rw [if_neg z, hI_wI_k z, hI_wI_a (by omega), hI_wI_a (by omega)]
theorem c_op (gi : GI G) (cg : CG h o G) (x p A B : Int32) : Ok (FX11_op (some o) x p A B h) (CQ o h (s_op G x p A B)) := by
  obtain ⟨⟨ma, ta, va⟩, ⟨⟨t0, ⟨r0, r1, r2, r3⟩, t52⟩, -⟩, vc⟩ := id cg
  have pc := va.1
  have ap := va.2.1
  have hnm := gi.1.1
  unfold FX11_op s_op
  rw [gR_ok t0, r0, rcv_ok pc.1.1]
  cases hx : wi x (p_nm G.1) with
  | false =>
    rw [f_findM_no pc gi.1 hx, cl_ok, if_neg (by decide), nz_no]
    exact ok_some ⟨rfl, cg, FC.refl⟩
  | true =>
    obtain ⟨m, hm, rfl, ec⟩ := wi_ex (by omega) hx
    have wm := gi.1.2.2.2.1 m hm
    have hno := wm.2.2.2.1
    obtain ⟨x1, x2, x3⟩ := pc.2.2.1 m hm
    rw [f_findM pc gi.1 hm, cl_ok, if_pos rfl, nz_ok, nl_36, f_wi _ (by decide), cl_ok, b2i_if, ec]
    cases hp : wi p 36 with
    | false =>
      rw [if_neg (by decide), if_neg (by decide)]
      exact ok_some ⟨rfl, cg, FC.refl⟩
    | true =>
      obtain ⟨op, hop, rfl, ep⟩ := wi_ex (by decide) hp
      rw [if_pos rfl, if_pos rfl, ep, gI_ok x2.1, x3.1.2.2.2.1, nl_60, if_eq (by omega) (by decide)]
      by_cases c : p_no G.1 m = 60
      · rw [if_pos c, if_pos c]
        exact ok_some ⟨rfl, cg, FC.refl⟩
      · rw [if_neg c, if_neg c, gR_ok t0, r0, rcv_ok pc.1.1]
        refine ok_cl (c_forget gi.1 va) (fun _ h1 z => ?_)
        obtain ⟨v1, f1⟩ := z
        obtain ⟨y1, y2, y3⟩ := v1.1.2.2.1 m hm
        have om := ap.1 m hm
        rw [gI_ok y2.1, y3.1.2.2.2.1, gI_ok y2.1, y3.1.2.2.2.1, nI_1, pI_ok y2.1]
        have f2 : Fr (fun b => b = ma m) h1 (wI h1 (ma m) 7 (nI (p_no G.1 m + 1))) := Fr.wI rfl
        have e7 : hI (wI h1 (ma m) 7 (nI (p_no G.1 m + 1))) (ma m) 7 = nI (p_no G.1 m + 1) := hI_wI_s
        have ek : ∀ k, k ≠ 7 → hI (wI h1 (ma m) 7 (nI (p_no G.1 m + 1))) (ma m) k = hI h1 (ma m) k := fun k hk => hI_wI_k hk
        generalize wI h1 (ma m) 7 (nI (p_no G.1 m + 1)) = h2 at f2 e7 ek ⊢
        have mt2 : MT (hT h2) (hR h2) (ma m) := by rw [f2.1, f2.2.1]; exact y2
        rw [rcv_ok mt2.1]
        refine ok_cl (cs_core mt2 (by omega)) (fun _ g z => ?_)
        obtain ⟨e2, e3, e4, f3⟩ := z
        have f23 : Fr (fun b => b = ma m ∨ (ma m + 2 ≤ b ∧ b ≤ ma m + 4)) h1 g := (f2.mono (fun b z => Or.inl z)).trans (f3.mono (fun b z => Or.inr z))
        have gk : ∀ k, hI g (ma m) k = hI h2 (ma m) k := fun k => by rw [(f3.2.2.2 (ma m) (by omega)).1]
        have eb : ∀ b, b = ma m + 1 ∨ (ma m + 5 ≤ b ∧ b ≤ ma m + 8) → hI g b = hI h1 b := fun b hb => (f23.2.2.2 b (by omega)).1
        have i2 : ∀ b, b ≠ ma m → hI h2 b = hI h1 b := fun b hb => (f2.2.2.2 b hb).1
        have mc : MC g (ma m) (pgQ G.1 m op A B) m := by
          obtain ⟨⟨v1, v2, v3, v4, v5⟩, v6, v7, v8⟩ := y3
          refine ⟨⟨by rw [gk, ek _ (by decide)]; exact v1, by rw [gk, ek _ (by decide)]; exact v2, by rw [gk, ek _ (by decide)]; exact v3, by rw [gk, e7, pQ_no], by rw [gk, ek _ (by decide)]; exact v5⟩, fun k hk => by rw [eb _ (by omega)]; exact v6 k hk, fun j hj => ?_, fun k hk => by rw [eb _ (by omega), eb _ (by omega), eb _ (by omega), eb _ (by omega)]; exact v8 k hk⟩
          rw [pQ_no] at hj
          show hI g (ma m + 2) j = nI (p_op (pgO G.1 m (p_no G.1 m) op A B) m j) ∧ hI g (ma m + 3) j = p_A (pgO G.1 m (p_no G.1 m) op A B) m j ∧ hI g (ma m + 4) j = p_B (pgO G.1 m (p_no G.1 m) op A B) m j
          rw [e2, e3, e4, pO_op, pO_A, pO_B]
          by_cases z : j = p_no G.1 m
          · rw [if_pos z, if_pos z, if_pos z, if_pos z, if_pos z, if_pos z]; exact ⟨rfl, rfl, rfl⟩
          · rw [if_neg z, if_neg z, if_neg z, if_neg z, if_neg z, if_neg z, i2 _ (by omega), i2 _ (by omega), i2 _ (by omega)]; exact v7 j (by omega)
        have pc2 : PC g o ma ta (pgQ G.1 m op A B) := pc_row v1.1 ap hm eqm_Q f23 (fun b z => by omega) mc
        have va2 : CGa g o ma ta (pgQ G.1 m op A B) G.2.1 nob nob := by
          refine v1.pg f23 (fun b h1 h2 => by omega) (fun m' hm' b h1 h2 => ?_) (fun m' hm' => ?_) pc2 rfl rfl
          · by_cases c : m' = m
            · subst c; omega
            · have := ap.2.2.1 m' m hm' hm c; omega
          · by_cases c : m' = m
            · subst c; rw [gk, gk, ek _ (by decide), ek _ (by decide)]; exact ⟨rfl, rfl⟩
            · have := ap.2.2.1 m' m hm' hm c
              rw [(f23.2.2.2 (ma m') (by omega)).1]; exact ⟨rfl, rfl⟩
        have ff : Fr (fun b => (∃ k, k < p_nm G.1 ∧ b = ma k) ∨ (b = ma m ∨ (ma m + 2 ≤ b ∧ b ≤ ma m + 4))) h g := (f1.mono (fun b z => Or.inl z)).trans (f23.mono (fun b z => Or.inr z))
        obtain ⟨q1, q2⟩ := cq_pg cg va2 ff (fun b z => by
          rcases z with ⟨k, hk, e⟩ | z
          · have := ap.1 k hk; omega
          · omega)
        exact ok_some ⟨rfl, q1, q2⟩
end GQ
