/-! an operation is set: on both sides -/
def pgO (P : Pg) (m i op : Nat) (A B : Int32) : Pg := pgI (pgI (pgN P 8 m i op) 0 m i A) 1 m i B
def s_alter (G : Gs) (x i p A B : Int32) : Int32 × Gs := if wi x (p_nm G.1) = true then (if wi i (p_no G.1 (cN x)) = true then (if wi p 36 = true then (i, fgt G (pgO G.1 (cN x) (cN i) (cN p) A B)) else (-2, G)) else (-2, G)) else (-2, G)
section GO
variable {h g : Hp} {o q : Nat} {G : Gs} {P : Pg} {m i op : Nat} {A B : Int32}
theorem eqm_O : EqM P (pgO P m i op A B) m := by
  refine ⟨fun c m' k z => ?_, fun c m' k z => ?_, rfl⟩
  · show (if c = 8 then (if m' = m ∧ k = i then op else P.1 c m' k) else P.1 c m' k) = _
    by_cases c8 : c = 8
    · rw [if_pos c8, if_neg (by omega)]
    · rw [if_neg c8]
  · show (if c = 1 then (if m' = m ∧ k = i then B else (if c = 0 then (if m' = m ∧ k = i then A else P.2.1 c m' k) else P.2.1 c m' k)) else (if c = 0 then (if m' = m ∧ k = i then A else P.2.1 c m' k) else P.2.1 c m' k)) = _
    by_cases c1 : c = 1
    · rw [if_pos c1, if_neg (by omega), if_neg (by omega)]
    · rw [if_neg c1]
      by_cases c0 : c = 0
      · rw [if_pos c0, if_neg (by omega)]
      · rw [if_neg c0]
theorem pO_op (j : Nat) : p_op (pgO P m i op A B) m j = if j = i then op else p_op P m j := by
  show (if m = m ∧ j = i then op else P.1 8 m j) = _
  by_cases z : j = i
  · rw [if_pos ⟨rfl, z⟩, if_pos z]
  · rw [if_neg (fun y => z y.2), if_neg z]; rfl
theorem pO_A (j : Nat) : p_A (pgO P m i op A B) m j = if j = i then A else p_A P m j := by
  show (if m = m ∧ j = i then A else P.2.1 0 m j) = _
  by_cases z : j = i
  · rw [if_pos ⟨rfl, z⟩, if_pos z]
  · rw [if_neg (fun y => z y.2), if_neg z]; rfl
theorem pO_B (j : Nat) : p_B (pgO P m i op A B) m j = if j = i then B else p_B P m j := by
  show (if m = m ∧ j = i then B else P.2.1 1 m j) = _
  by_cases z : j = i
  · rw [if_pos ⟨rfl, z⟩, if_pos z]
  · rw [if_neg (fun y => z y.2), if_neg z]; rfl
theorem pw_O (pw : PW P) (hm : m < p_nm P) (hop : op < 36) : PW (pgO P m i op A B) := by
  refine pw_row pw eqm_O ?_
  obtain ⟨w1, w2, w3, w4, w5, w6, w7, w8, w9⟩ := pw.2.2.2.1 m hm
  refine ⟨w1, w2, w3, w4, w5, (paw_c (P := P) (P' := pgO P m i op A B) (m := m) (fun _ => rfl) (p_na P m)).trans w6, w7, fun j hj => ?_, w9⟩
  rw [pO_op]
  split
  · exact hop
  · exact w8 j hj
theorem gi_alter (gi : GI G) (x i p A B : Int32) : GI (s_alter G x i p A B).2 := by
  unfold s_alter
  have hnm := gi.1.1
  cases hx : wi x (p_nm G.1) with
  | false => rw [if_neg (by decide)]; exact gi
  | true =>
    obtain ⟨m, hm, -, ec⟩ := wi_ex (by omega) hx
    rw [if_pos rfl]
    split
    · cases hp : wi p 36 with
      | false => rw [if_neg (by decide)]; exact gi
      | true =>
        obtain ⟨k, hk, -, ek⟩ := wi_ex (by decide) hp
        rw [if_pos rfl, ec, ek]
        exact gi_fgt gi (pw_O gi.1 hm hk)
    · exact gi
/-- the class: an operation is set -/
theorem c_setOp {ma ta : Nat → Nat} {tt : Nat → Tab} (pw : PW P) (v : CGa h o ma ta P tt nob nob) (hm : m < p_nm P) (hi : i < p_no P m) (hop : op < 36) : Ok (FX2_setOperation (some (ma m)) (nI i) (nI op) A B h) (fun _ g => CGa g o ma ta (pgO P m i op A B) tt nob nob ∧ Fr (fun b => ma m + 2 ≤ b ∧ b ≤ ma m + 4) h g) := by
  obtain ⟨pc, ap, -⟩ := id v
  obtain ⟨x1, x2, x3⟩ := pc.2.2.1 m hm
  obtain ⟨a0, ⟨r1, r4, r5, r6, r8, r9, r10, r11, r13⟩, t1, t2, t3, t4, -⟩ := x2
  have w := pw.2.2.2.1 m hm
  have hno := w.2.2.2.1
  unfold FX2_setOperation
  rw [gR_ok a0, r4, sI_n t2 (by omega) (by decide), gR_ok (show hT (wI h (ma m + 2) i (nI op)) (ma m) = _ from a0), show hR (wI h (ma m + 2) i (nI op)) (ma m) 5 = _ from r5, sI_n (show hT (wI h (ma m + 2) i (nI op)) (ma m + 3) = _ from t3) (by omega) (by decide), gR_ok (show hT (wI (wI h (ma m + 2) i (nI op)) (ma m + 3) i A) (ma m) = _ from a0), show hR (wI (wI h (ma m + 2) i (nI op)) (ma m + 3) i A) (ma m) 6 = _ from r6, sI_n (show hT (wI (wI h (ma m + 2) i (nI op)) (ma m + 3) i A) (ma m + 4) = _ from t4) (by omega) (by decide)]
  have f1 : Fr (fun b => ma m + 2 ≤ b ∧ b ≤ ma m + 4) h (wI (wI (wI h (ma m + 2) i (nI op)) (ma m + 3) i A) (ma m + 4) i B) := ((Fr.wI (A := fun b => ma m + 2 ≤ b ∧ b ≤ ma m + 4) ⟨by omega, by omega⟩).trans (Fr.wI (A := fun b => ma m + 2 ≤ b ∧ b ≤ ma m + 4) ⟨by omega, by omega⟩)).trans (Fr.wI (A := fun b => ma m + 2 ≤ b ∧ b ≤ ma m + 4) ⟨by omega, by omega⟩)
  have e2 : ∀ j, hI (wI (wI (wI h (ma m + 2) i (nI op)) (ma m + 3) i A) (ma m + 4) i B) (ma m + 2) j = if j = i then nI op else hI h (ma m + 2) j := fun j => by
    rw [hI_wI_a (by omega), hI_wI_a (by omega)]
    by_cases z : j = i
    · rw [if_pos z, z]; exact hI_wI_s
    · rw [if_neg z, hI_wI_k z]
  have e3 : ∀ j, hI (wI (wI (wI h (ma m + 2) i (nI op)) (ma m + 3) i A) (ma m + 4) i B) (ma m + 3) j = if j = i then A else hI h (ma m + 3) j := fun j => by
    rw [hI_wI_a (by omega)]
    by_cases z : j = i
    · rw [if_pos z, z]; exact hI_wI_s
    · rw [if_neg z, hI_wI_k z, hI_wI_a (by omega)]
  have e4 : ∀ j, hI (wI (wI (wI h (ma m + 2) i (nI op)) (ma m + 3) i A) (ma m + 4) i B) (ma m + 4) j = if j = i then B else hI h (ma m + 4) j := fun j => by
    by_cases z : j = i
    · rw [if_pos z, z]; exact hI_wI_s
    · rw [if_neg z, hI_wI_k z, hI_wI_a (by omega), hI_wI_a (by omega)]
  generalize wI (wI (wI h (ma m + 2) i (nI op)) (ma m + 3) i A) (ma m + 4) i B = g at f1 e2 e3 e4 ⊢
  have eb : ∀ b, b = ma m ∨ b = ma m + 1 ∨ (ma m + 5 ≤ b ∧ b ≤ ma m + 8) → hI g b = hI h b := fun b hb => (f1.2.2.2 b (by omega)).1
  have mc : MC g (ma m) (pgO P m i op A B) m := by
    obtain ⟨⟨v1, v2, v3, v4, v5⟩, v6, v7, v8⟩ := x3
    refine ⟨⟨by rw [eb _ (by omega)]; exact v1, by rw [eb _ (by omega)]; exact v2, by rw [eb _ (by omega)]; exact v3, by rw [eb _ (by omega)]; exact v4, by rw [eb _ (by omega)]; exact v5⟩, fun k hk => by rw [eb _ (by omega)]; exact v6 k hk, fun j hj => ?_, fun k hk => by rw [eb _ (by omega), eb _ (by omega), eb _ (by omega), eb _ (by omega)]; exact v8 k hk⟩
    rw [e2, e3, e4, pO_op, pO_A, pO_B]
    by_cases z : j = i
    · rw [if_pos z, if_pos z, if_pos z, if_pos z, if_pos z, if_pos z]; exact ⟨rfl, rfl, rfl⟩
    · rw [if_neg z, if_neg z, if_neg z, if_neg z, if_neg z, if_neg z]; exact v7 j hj
  have pc2 : PC g o ma ta (pgO P m i op A B) := pc_row pc ap hm eqm_O f1 (fun b z => by omega) mc
  have om := ap.1 m hm
  refine ok_some ⟨v.pg f1 (fun b h1 h2 => by omega) (fun m' hm' b h1 h2 => ?_) (fun m' hm' => ?_) pc2 rfl rfl, f1⟩
  · by_cases c : m' = m
    · subst c; omega
    · have := ap.2.2.1 m' m hm' hm c; omega
  · by_cases c : m' = m
    · subst c; rw [eb _ (by omega)]; exact ⟨rfl, rfl⟩
    · have := ap.2.2.1 m' m hm' hm c
      rw [(f1.2.2.2 (ma m') (by omega)).1]; exact ⟨rfl, rfl⟩
end GO
