/-! the class: numbers, jumps -/
theorem tkL {σ : Nat → Nat} : ∀ (ks : List Nat) {d e : Nat}, takeL σ ks d = some e → tkW ks ≤ d ∧ e = d - tkW ks := by
  intro ks
  induction ks with
  | nil => intro d e h; injection h with h; subst h; exact ⟨Nat.zero_le _, rfl⟩
  | cons k ks ih =>
    intro d e h
    rw [takeL] at h
    by_cases c : wd k ≤ d ∧ σ (d - wd k) = k
    · rw [if_pos c] at h
      obtain ⟨a1, a2⟩ := ih h
      have : tkW (k :: ks) = wd k + tkW ks := by unfold tkW; simp
      rw [this]
      exact ⟨by omega, by omega⟩
    · rw [if_neg c] at h; cases h
theorem tkW_1 (a : Nat) : tkW [a] = wd a := by unfold tkW; simp
theorem tkW_2 (a b : Nat) : tkW [a, b] = wd a + wd b := by unfold tkW; simp
theorem tkW_3 (a b c : Nat) : tkW [a, b, c] = wd a + wd b + wd c := by unfold tkW; simp; omega
section CO2
variable {h : Hp} {o c m i d : Nat} {s l : Nat → Int64} {hn : Nat → Nat} {T : Th}
theorem Wv.sub {h : Hp} {w wa d e : Nat} {s : Nat → Int64} (v : Wv h w wa d s) (he : d = e) : Wv h w wa e s := by subst he; exact v
theorem f_c52 {g : Hp} (px : PX h o c (m, i, d, s, l, hn) T) (f : Fr (Aw (o + 23 + 5 * c) (o + 24 + 5 * c)) h g) {D a b : Nat} (w : Wv g (o + 23 + 5 * c) (o + 24 + 5 * c) D s) (ha : a < 12) (hb : b < 2) (hD : D + wd b ≤ 14) {x y : Int64} (hy : (a = 3 ∨ a = 4) → ¬ y = 0) (hy2 : b = 0 → (a = 3 ∨ a = 4) → ¬ y.toInt32 = 0) :
    Ok (BX9_calculate_52 (some (o + 23 + 5 * c)) (nI a) (nI b) y x g) (PR o c h (m, i, d, s, l, hn) (xw m D b s l (xo (if b = 1 then c_lng a x y else Int32.toInt64 (c_int a x.toInt32 y.toInt32)) hn (i + 1) T))) := by
  unfold BX9_calculate_52
  rw [ie_1 (by omega)]
  by_cases c1 : b = 1
  · subst c1
    rw [if_pos rfl, if_pos rfl, f_calcL ha hy, cl_ok, rcv_ok w.1]
    exact pr_push (pt := 1) px f w (by omega) hD _
  · have c0 : b = 0 := by omega
    subst c0
    rw [if_neg c1, if_neg c1, f_calcI ha (hy2 rfl), cl_ok, rcv_ok w.1]
    exact pr_push1 (pt := 0) px f w (by omega) rfl hD _
theorem f_calc {P : Pg} (px : PX h o c (m, i, d, s, l, hn) T) {A B : Int32} {σ : Nat → Nat} {e : Nat} (hod : j_od P 17 A B = true) (htk : takeL σ (j_tk P 17 (cN A) (cN B)) d = some e) (hd : d ≤ 12) (ty : ∀ p, p < d → Ty T.1 (σ p) (s p)) : Ok (FX9_calculate (some (o + 14)) (some (o + 23 + 5 * c)) A B h) (PR o c h (m, i, d, s, l, hn) (xw m (d - tkW (j_tk P 17 (cN A) (cN B))) (j_pt P 17 (cN A) (cN B)) s l (x_val P 17 A B d s l hn i T))) := by
  have w : Wv h (o + 23 + 5 * c) (o + 24 + 5 * c) d s := px.2.2.1.1
  have fr := Fr.refl (Aw (o + 23 + 5 * c) (o + 24 + 5 * c)) h
  have h1 : (wi A 12 && wi B 2) = true := hod
  rw [Bool.and_eq_true] at h1
  obtain ⟨a, ha, rfl, eca⟩ := wi_ex (by decide) h1.1
  obtain ⟨b, hb, rfl, ecb⟩ := wi_ex (by decide) h1.2
  rw [eca, ecb] at htk ⊢
  have ep : j_pt P 17 a b = b := rfl
  have ev : x_val P 17 (nI a) (nI b) d s l hn i T = x_num 17 a b d s hn i T := by
    show x_num 17 (cN (nI a)) (cN (nI b)) d s hn i T = _
    rw [eca, ecb]
  rw [ep, ev]
  have hw := wd_le b
  have hb8 : b < 8 := by omega
  unfold FX9_calculate x_num
  rw [if_pos rfl, nl_11, if_eq (by omega) (by decide)]
  by_cases c11 : a = 11
  · have et : j_tk P 17 a b = [b] := by show (if a < 8 then [b, b] else if a = 11 then [b] else [0, b]) = _; rw [if_neg (by omega), if_pos c11]
    rw [et] at htk ⊢
    obtain ⟨k1, k2⟩ := tkL _ htk
    rw [tkW_1] at k1 ⊢
    rw [if_pos c11, if_neg (by omega), if_pos c11]
    unfold BX9_calculate_26
    rw [rcv_ok w.1]
    refine ok_cl (k_popBits (d := d - wd b) hb8 (w.sub (by omega))) (fun r g q => ?_)
    obtain ⟨rfl, q2, q3⟩ := q
    rw [nl_3, nl_4, if_eq (by omega) (by decide), if_eq (by omega) (by decide)]
    rw [if_neg (by omega), if_neg (by omega)]
    exact f_c52 px q3 q2 ha hb (by omega) (fun z => by omega) (fun _ z => by omega)
  · rw [if_neg c11, nl_8, if_lt (by omega) (by decide)]
    by_cases c8 : a < 8
    · have et : j_tk P 17 a b = [b, b] := by show (if a < 8 then [b, b] else if a = 11 then [b] else [0, b]) = _; rw [if_pos c8]
      rw [et] at htk ⊢
      obtain ⟨k1, k2⟩ := tkL _ htk
      rw [tkW_2] at k1 ⊢
      have hs : σ (d - wd b) = b := by
        rw [takeL] at htk
        by_cases cc : wd b ≤ d ∧ σ (d - wd b) = b
        · exact cc.2
        · rw [if_neg cc] at htk; cases htk
      have tyy := ty (d - wd b) (by omega)
      rw [hs] at tyy
      rw [if_pos c8]
      unfold BX9_calculate_21
      rw [rcv_ok w.1]
      refine ok_cl (k_popBits (d := d - wd b) hb8 (w.sub (by omega))) (fun r g q => ?_)
      obtain ⟨rfl, q2, q3⟩ := q
      unfold BX9_calculate_26
      rw [rcv_ok q2.1]
      refine ok_cl (k_popBits (d := d - wd b - wd b) hb8 (q2.sub (by omega))) (fun r g2 p => ?_)
      obtain ⟨rfl, p2, p3⟩ := p
      rw [nl_3, nl_4, if_eq (by omega) (by decide), if_eq (by omega) (by decide)]
      have ff := q3.trans p3
      rw [show d - (wd b + wd b) = d - wd b - wd b by omega]
      unfold BX9_calculate_43
      by_cases z0 : s (d - wd b) = 0
      · by_cases c34 : a = 3 ∨ a = 4
        · have hc : (a = 3 ∨ a = 4) ∧ s (d - wd b) = 0 := ⟨c34, z0⟩
          rw [if_pos hc]
          have fin : Ok (if s (d - wd b) = 0 then some ((0 : Int32), g2) else BX9_calculate_52 (some (o + 23 + 5 * c)) (nI a) (nI b) (s (d - wd b)) (s (d - wd b - wd b)) g2) (PR o c h (m, i, d, s, l, hn) (xw m (d - wd b - wd b) b s l (xf 0 hn i T))) := by
            rw [if_pos z0]
            exact pr_fail px ff p2 0 _ _
          by_cases c3 : a = 3
          · rw [if_pos c3]; exact fin
          · rw [if_neg c3, if_pos (by omega)]; exact fin
        · have hc : ¬ ((a = 3 ∨ a = 4) ∧ s (d - wd b) = 0) := fun z => c34 z.1
          rw [if_neg hc, if_neg (by omega), if_neg (by omega), if_neg c11, if_pos c8]
          exact f_c52 px ff p2 ha hb (by omega) (fun z => absurd z c34) (fun _ z => absurd z c34)
      · have hc : ¬ ((a = 3 ∨ a = 4) ∧ s (d - wd b) = 0) := fun z => z0 z.2
        rw [if_neg hc, if_neg z0, if_neg c11, if_pos c8]
        have fin : Ok (BX9_calculate_52 (some (o + 23 + 5 * c)) (nI a) (nI b) (s (d - wd b)) (s (d - wd b - wd b)) g2) (PR o c h (m, i, d, s, l, hn) (xw m (d - wd b - wd b) b s l (xo (if b = 1 then c_lng a (s (d - wd b - wd b)) (s (d - wd b)) else Int32.toInt64 (c_int a (s (d - wd b - wd b)).toInt32 (s (d - wd b)).toInt32)) hn (i + 1) T))) :=
          f_c52 px ff p2 ha hb (by omega) (fun _ => z0) (fun zb _ z => by
            subst zb
            have := tyy.1 (Or.inl rfl)
            unfold sx at this
            rw [z] at this
            exact z0 this.symm)
        by_cases c3 : a = 3
        · rw [if_pos c3]; exact fin
        · rw [if_neg c3]
          by_cases c4 : a = 4
          · rw [if_pos c4]; exact fin
          · rw [if_neg c4]; exact fin
    · have et : j_tk P 17 a b = [0, b] := by show (if a < 8 then [b, b] else if a = 11 then [b] else [0, b]) = _; rw [if_neg c8, if_neg c11]
      rw [et] at htk ⊢
      obtain ⟨k1, k2⟩ := tkL _ htk
      have w0 : wd 0 = 1 := rfl
      rw [tkW_2, w0] at k1 ⊢
      rw [if_neg c8, if_neg (by omega), if_neg c11, if_neg c8, nI_c0]
      unfold BX9_calculate_21
      rw [rcv_ok w.1]
      refine ok_cl (k_popBits (d := d - 1) (k := 0) (by decide) (w.sub (by show d = d - 1 + 1; omega))) (fun r g q => ?_)
      obtain ⟨rfl, q2, q3⟩ := q
      unfold BX9_calculate_26
      rw [rcv_ok q2.1]
      refine ok_cl (k_popBits (d := d - 1 - wd b) hb8 (q2.sub (by omega))) (fun r g2 p => ?_)
      obtain ⟨rfl, p2, p3⟩ := p
      rw [nl_3, nl_4, if_eq (by omega) (by decide), if_eq (by omega) (by decide)]
      rw [if_neg (by omega), if_neg (by omega), show d - (1 + wd b) = d - 1 - wd b by omega]
      exact f_c52 px (q3.trans p3) p2 ha hb (by omega) (fun z => by omega) (fun _ z => by omega)
theorem f_compute {P : Pg} (px : PX h o c (m, i, d, s, l, hn) T) {op : Nat} {A B : Int32} {σ : Nat → Nat} {e : Nat} (h1 : 17 ≤ op) (h2 : op ≤ 19) (hod : j_od P op A B = true) (htk : takeL σ (j_tk P op (cN A) (cN B)) d = some e) (hd : d ≤ 12) (ty : ∀ p, p < d → Ty T.1 (σ p) (s p)) : Ok (cl (FX9_compute (some (o + 14)) (some (o + 23 + 5 * c)) (nI op) A B h) (fun r g => some (r, g))) (PR o c h (m, i, d, s, l, hn) (x_op P op A B (m, i, d, s, l, hn) T)) := by
  have w : Wv h (o + 23 + 5 * c) (o + 24 + 5 * c) d s := px.2.2.1.1
  have fr := Fr.refl (Aw (o + 23 + 5 * c) (o + 24 + 5 * c)) h
  rw [xop_v (by omega) (by omega) (by omega)]
  unfold FX9_compute
  rcases (show op = 17 ∨ op = 18 ∨ op = 19 by omega) with rfl | rfl | rfl
  · rw [if_pos (show nI 17 = 17 from rfl), rcv_ok px.1.1.1]
    exact ok_cl (ok_cl (f_calc px hod htk hd ty) (fun r g q => ok_some q)) (fun r g q => ok_some q)
  · have ho : wi A 5 = true := hod
    obtain ⟨a, ha, rfl, eca⟩ := wi_ex (by decide) ho
    rw [eca] at htk ⊢
    have et : j_tk P 18 a (cN B) = [if a = 3 then 1 else 0] := rfl
    have ep : j_pt P 18 a (cN B) = if a = 4 then 1 else 0 := rfl
    have ev : x_val P 18 (nI a) B d s l hn i T = xo (c_cnv a (s (d - wd (if a = 3 then 1 else 0)))) hn (i + 1) T := by
      show xo (c_cnv (cN (nI a)) (s (d - wd (if cN (nI a) = 3 then 1 else 0)))) hn (i + 1) T = _
      rw [eca]
    rw [et] at htk ⊢
    rw [ep, ev]
    obtain ⟨k1, k2⟩ := tkL _ htk
    rw [tkW_1] at k1 ⊢
    rw [if_neg (by decide), if_pos (show nI 18 = 18 from rfl), nl_3, if_eq (by omega) (by decide)]
    have hw := wd_le (if a = 3 then 1 else 0)
    have go : ∀ k, k < 2 → k = (if a = 3 then 1 else 0) → Ok (cl (BX9_compute_32 (some (o + 23 + 5 * c)) (nI a) (some (o + 23 + 5 * c)) (nI k) h) (fun r g => some (r, g))) (PR o c h (m, i, d, s, l, hn) (xw m (d - wd (if a = 3 then 1 else 0)) (if a = 4 then 1 else 0) s l (xo (c_cnv a (s (d - wd (if a = 3 then 1 else 0)))) hn (i + 1) T))) := by
      intro k hk ek
      rw [← ek] at k1 hw ⊢
      unfold BX9_compute_32
      rw [rcv_ok w.1]
      refine ok_cl (Q := PR o c h (m, i, d, s, l, hn) (xw m (d - wd k) (if a = 4 then 1 else 0) s l (xo (c_cnv a (s (d - wd k))) hn (i + 1) T))) (ok_cl (k_popBits (d := d - wd k) (k := k) (by omega) (w.sub (by omega))) (fun r g q => ?_)) (fun r g q => ok_some q)
      obtain ⟨rfl, q2, q3⟩ := q
      unfold BX9_compute_48
      rw [f_cnv ha, cl_ok, rcv_ok q2.1, nl_4, if_eq (by omega) (by decide), cl_ok, rcv_ok q2.1]
      by_cases c4 : a = 4
      · rw [if_pos c4, if_pos c4]
        exact pr_push (pt := 1) px q3 q2 (by omega) (by show _ + 2 ≤ 14; omega) _
      · rw [if_neg c4, if_neg c4]
        exact pr_push (pt := 0) px q3 q2 (by omega) (by show _ + 1 ≤ 14; omega) _
    by_cases c3 : a = 3
    · rw [if_pos c3]; exact go 1 (by omega) (by rw [if_pos c3])
    · rw [if_neg c3]
      exact go 0 (by omega) (by rw [if_neg c3])
  · have ho : wi A 5 = true := hod
    obtain ⟨a, ha, rfl, eca⟩ := wi_ex (by decide) ho
    rw [eca] at htk ⊢
    have et : j_tk P 19 a (cN B) = [kcm a, kcm a] := rfl
    have ep : j_pt P 19 a (cN B) = 0 := rfl
    have ev : x_val P 19 (nI a) B d s l hn i T = xo (Int32.toInt64 (c_cmp a (s (d - wd (kcm a) - wd (kcm a))) (s (d - wd (kcm a))))) hn (i + 1) T := by
      show xo (Int32.toInt64 (c_cmp (cN (nI a)) (s (d - wd (kcm (cN (nI a))) - wd (kcm (cN (nI a))))) (s (d - wd (kcm (cN (nI a))))))) hn (i + 1) T = _
      rw [eca]
    rw [et] at htk ⊢
    rw [ep, ev]
    obtain ⟨k1, k2⟩ := tkL _ htk
    rw [tkW_2] at k1 ⊢
    have hk := kcm_lt a
    have hw := wd_le (kcm a)
    rw [if_neg (by decide), if_neg (by decide), f_kCm ha, cl_ok, rcv_ok w.1]
    refine ok_cl (Q := PR o c h (m, i, d, s, l, hn) (xw m (d - (wd (kcm a) + wd (kcm a))) 0 s l (xo (Int32.toInt64 (c_cmp a (s (d - wd (kcm a) - wd (kcm a))) (s (d - wd (kcm a))))) hn (i + 1) T))) (ok_cl (k_popBits (d := d - wd (kcm a)) hk (w.sub (by omega))) (fun r g q => ?_)) (fun r g q => ok_some q)
    obtain ⟨rfl, q2, q3⟩ := q
    rw [f_kCm ha, cl_ok, rcv_ok q2.1]
    refine ok_cl (k_popBits (d := d - wd (kcm a) - wd (kcm a)) hk (q2.sub (by omega))) (fun r g2 p => ?_)
    obtain ⟨rfl, p2, p3⟩ := p
    rw [f_cmp ha, cl_ok, rcv_ok p2.1, show d - (wd (kcm a) + wd (kcm a)) = d - wd (kcm a) - wd (kcm a) by omega]
    exact pr_push1 (pt := 0) px (q3.trans p3) p2 (by omega) rfl (by omega) _
/-- it goes on at another operation -/
theorem pr_go {g : Hp} (px : PX h o c (m, i, d, s, l, hn) T) (f : Fr (Aw (o + 23 + 5 * c) (o + 24 + 5 * c)) h g) {d' : Nat} (w : Wv g (o + 23 + 5 * c) (o + 24 + 5 * c) d' s) (n : Nat) : PR o c h (m, i, d, s, l, hn) (none, (m, n, d', s, l, hn), T) (-1) (wI g (o + 22 + 5 * c) 3 (nI n)) := by
  have f2 : Fr (fun b => b = o + 22 + 5 * c) g (wI g (o + 22 + 5 * c) 3 (nI n)) := Fr.wI rfl
  obtain ⟨q1, q2, q3, q4, q5, q6, q7, q8⟩ := pr_ok px f w
  have e14 := f2.2.2.2 (o + 14) (by omega)
  refine ⟨q1.trans (f2.mono (fun b z => by unfold AP; omega)), fun k hk => by rw [e14.1]; exact q2 k hk, by rw [e14.2]; exact q3, fun k h1 h2 => by rw [hI_wI_k h1]; exact q4 k h1 h2, q5.fr f2 (fun b h1 h2 => by omega), rfl, hI_wI_s, q8.1.fr f2 (by omega) (by omega), ?_, ?_, ?_⟩
  · rw [(f2.2.2.2 _ (by omega)).2]; exact q8.2.1
  · rw [(f2.2.2.2 _ (by omega)).1]; exact q8.2.2.1
  · rw [hI_wI_k (by decide)]; exact q8.2.2.2
theorem tf_loop {h : Hp} {P : Pg} {a t : Nat} (y : TT (hT h) (hR h) a) (v : TC h a P t) (w : PWt P t) (x : Int32) : ∀ (f e : Nat), e ≤ p_ne P t → p_ne P t - e < f → (∀ j, j < e → ¬ p_ky P t j = x) → BX7_targetFor_2 f (some a) x (nI e) h = some (nI (p_key P t x), h) := by
  obtain ⟨a0, ⟨r3, r4⟩, t1, t2⟩ := y
  obtain ⟨⟨c0, c1, c2, c5⟩, c6⟩ := v
  obtain ⟨w1, w2, w3, w4, w5, w6⟩ := w
  intro f
  induction f with
  | zero => intro e h1 h2; omega
  | succ f ih =>
    intro e h1 h2 hb
    unfold BX7_targetFor_2
    rw [gI_ok a0, c5, if_lt (by omega) (by omega)]
    by_cases cc : e < p_ne P t
    · obtain ⟨k1, k2⟩ := c6 e cc
      rw [if_pos cc, gR_ok a0, r3, aI_n t1 (by omega) (by decide), k1]
      by_cases ce : p_ky P t e = x
      · rw [if_pos ce, gR_ok a0, r4, aI_n t2 (by omega) (by decide), k2]
        have : (List.range (p_ne P t)).find? (fun e => decide (p_ky P t e = x)) = some e := by
          rw [List.find?_range_eq_some]
          exact ⟨decide_eq_true ce, List.mem_range.mpr cc, fun j hj => by rw [decide_eq_false (hb j hj)]; rfl⟩
        unfold p_key
        rw [this]
      · rw [if_neg ce, nI_1]
        exact ih (e + 1) (by omega) (by omega) (fun j hj => by
          by_cases z : j = e
          · subst z; exact ce
          · exact hb j (by omega))
    · rw [if_neg cc, gI_ok a0, c2]
      have : (List.range (p_ne P t)).find? (fun e => decide (p_ky P t e = x)) = none := by
        rw [List.find?_eq_none]
        intro j hj
        rw [decide_eq_true_eq]
        exact hb j (by have := List.mem_range.mp hj; omega)
      unfold p_key
      rw [this]
theorem f_jump {P : Pg} {ma ta : Nat → Nat} (px : PX h o c (m, i, d, s, l, hn) T) (pc : PC h o ma ta P) (pw : PW P) (ap : Apt o ma ta P) {op : Nat} {A B : Int32} (h1 : 20 ≤ op) (h2 : op ≤ 23) (hod : j_od P op A B = true) (hA : op ≤ 22 → ∃ a, a < 60 ∧ A = nI a) (hd : ¬ op = 20 → 1 ≤ d) : Ok (cl (FX9_jump (some (o + 14)) (some (o + 22 + 5 * c)) (nI op) A B h) (fun r g => some (r, g))) (PR o c h (m, i, d, s, l, hn) (x_op P op A B (m, i, d, s, l, hn) T)) := by
  have w : Wv h (o + 23 + 5 * c) (o + 24 + 5 * c) d s := px.2.2.1.1
  have fr := Fr.refl (Aw (o + 23 + 5 * c) (o + 24 + 5 * c)) h
  obtain ⟨⟨-, t22⟩, ⟨r4, r5, -⟩, -, -, t25, -⟩ := px.1.2.2.2.2 c px.2.2.2.2.2
  rw [xop_v (by omega) (by omega) (by omega)]
  have ep : j_pt P op (cN A) (cN B) = 5 := by
    rcases (show op = 20 ∨ op = 21 ∨ op = 22 ∨ op = 23 by omega) with rfl | rfl | rfl | rfl <;> rfl
  have ev : x_val P op A B d s l hn i T = x_go P op (cN A) (cN B) d s hn i T := by
    rcases (show op = 20 ∨ op = 21 ∨ op = 22 ∨ op = 23 by omega) with rfl | rfl | rfl | rfl <;> rfl
  rw [ep, ev]
  unfold xw x_go xo
  dsimp only
  rw [if_pos rfl, if_pos rfl]
  unfold FX9_jump
  by_cases c20 : op = 20
  · subst c20
    obtain ⟨a, ha, rfl⟩ := hA (by omega)
    rw [if_pos (show nI 20 = 20 from rfl), pI_ok t22, cl_ok, if_pos rfl, cN_n (by omega)]
    exact ok_some (pr_go px fr w a)
  · have hd1 := hd c20
    obtain ⟨D, rfl⟩ : ∃ D, d = D + 1 := ⟨d - 1, by omega⟩
    have et : tkW (j_tk P op (cN A) (cN B)) = 1 := by
      rcases (show op = 21 ∨ op = 22 ∨ op = 23 by omega) with rfl | rfl | rfl <;> rfl
    rw [et, Nat.add_sub_cancel, nl_20, if_eq (by omega) (by decide), if_neg c20, if_neg c20, gR_ok t22, r4, rcv_ok w.1]
    refine ok_cl (Q := PR o c h (m, i, D + 1, s, l, hn) (none, (m, (if op = 21 then (if c_pas (cN B) (s D).toInt32 = true then cN A else i + 1) else if op = 22 then (if ((s D).toInt32 = -1 ↔ cN B = 0) then cN A else i + 1) else p_key P (cN A) (s D).toInt32), D, s, l, hn), T)) (ok_cl (k_popInt w) (fun r g q => ?_)) (fun r g q => ok_some q)
    obtain ⟨rfl, q2, q3⟩ := q
    have wg := px.1.fr q3
    have t22g := (wg.2.2.2.2 c px.2.2.2.2.2).1.2
    rw [nl_23, if_eq (by omega) (by decide), nl_21, if_eq (by omega) (by decide)]
    have j108 : ∀ (b : Bool) (a : Nat), Ok (BX9_jump_108 (some (o + 22 + 5 * c)) (nI a) (b2i b) g) (PR o c h (m, i, D + 1, s, l, hn) (none, (m, (if b = true then a else i + 1), D, s, l, hn), T)) := by
      intro b a
      unfold BX9_jump_108
      rw [b2i_if]
      cases b with
      | true =>
        rw [if_pos rfl, if_pos rfl, pI_ok t22g]
        exact ok_some (pr_go px q3 q2 a)
      | false =>
        rw [if_neg (by decide), if_neg (by decide)]
        exact ok_some (pr_ok px q3 q2)
    by_cases c23 : op = 23
    · subst c23
      have ho : wi A (p_nt P) = true := hod
      have hnt := pw.2.2.1
      obtain ⟨a, ha, rfl, eca⟩ := wi_ex (by omega) ho
      have hp : PC g o ma ta P := pc.fr q3 (fun b hb => by
        have a1 := ap.1
        have a2 := ap.2.1
        have hc6 := px.2.2.2.2.2
        unfold Aw
        rcases hb with hb | ⟨k, hk, hb⟩ | ⟨k, hk, hb⟩
        · omega
        · have := a1 k hk; omega
        · have := a2 k hk; omega)
      obtain ⟨y1, y2, y3⟩ := hp.2.2.2.1 a ha
      rw [if_pos rfl, gR_ok wg.1.1, wg.1.2.1, rcv_ok hp.1.1, f_findT hp pw ha, cl_ok, nz_ok, rcv_ok y2.1, if_neg (by decide), if_neg (by decide), eca]
      unfold FX7_targetFor
      rw [nI_c0, tf_loop y2 y3 (pw.2.2.2.2 a ha) _ 100000 0 (by omega) (by have := (pw.2.2.2.2 a ha).2.1; omega) (fun j hj => by omega), cl_ok, pI_ok t22g]
      exact ok_some (pr_go px q3 q2 _)
    · rw [if_neg c23]
      have h212 : op = 21 ∨ op = 22 := by clear hA; omega
      obtain ⟨a, ha, rfl⟩ := hA (by omega)
      rw [cN_n (by omega)]
      rcases h212 with c21 | c22
      · subst c21
        have ho : wi B 6 = true := hod
        obtain ⟨b, hb, rfl, ecb⟩ := wi_ex (by decide) ho
        rw [if_pos rfl, if_pos rfl, f_pas hb, cl_ok, ecb]
        exact j108 _ a
      · subst c22
        have c21 : ¬ 22 = 21 := by decide
        have ho : wi B 2 = true := hod
        obtain ⟨b, hb, rfl, ecb⟩ := wi_ex (by decide) ho
        rw [if_neg c21, if_neg c21, if_pos rfl, ecb]
        unfold BX9_jump_90 BX9_jump_100
        have jt := j108 true a
        have jf := j108 false a
        rw [if_pos rfl] at jt
        rw [if_neg (by decide)] at jf
        have jt : Ok (BX9_jump_108 (some (o + 22 + 5 * c)) (nI a) 1 g) (PR o c h (m, i, D + 1, s, l, hn) (none, (m, a, D, s, l, hn), T)) := jt
        have jf : Ok (BX9_jump_108 (some (o + 22 + 5 * c)) (nI a) 0 g) (PR o c h (m, i, D + 1, s, l, hn) (none, (m, i + 1, D, s, l, hn), T)) := jf
        by_cases x1 : (s D).toInt32 = -1
        · rw [if_pos x1, ie_0 (by omega)]
          by_cases x2 : b = 0
          · rw [if_pos x2, if_pos rfl, if_pos ⟨fun _ => x2, fun _ => x1⟩]; exact jt
          · rw [if_neg x2, if_neg (by decide), if_neg (fun z => x2 (z.mp x1))]; exact jf
        · rw [if_neg x1, ie_0 (by omega)]
          by_cases x2 : b = 0
          · rw [if_pos x2, if_neg (by decide), if_neg (fun z => x1 (z.mpr x2))]; exact jf
          · rw [if_neg x2, if_pos rfl, if_pos ⟨fun z => absurd z x1, fun z => absurd z x2⟩]; exact jt
end CO2
