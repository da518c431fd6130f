/-! the class: arrays, failures, monitors -/
theorem refc_no {T : Th} {x k : Int32} {b : Nat} (h : refc T x k b = none) : ¬ x = -1 ∧ ¬ T.2.1 (cN x) < 0 ∧ csI (T.2.1 (cN x)) = nI b ∧ wi k (T.2.2.1 (cN x)) = true := by
  unfold refc at h
  by_cases c1 : x = -1
  · rw [if_pos c1] at h; cases h
  · rw [if_neg c1] at h
    by_cases c2 : T.2.1 (cN x) < 0 ∨ ¬ csI (T.2.1 (cN x)) = nI b
    · rw [if_pos c2] at h; cases h
    · rw [if_neg c2] at h
      cases c3 : wi k (T.2.2.1 (cN x)) with
      | false => rw [if_pos c3] at h; cases h
      | true =>
        refine ⟨c1, fun z => c2 (Or.inl z), ?_, rfl⟩
        by_cases c4 : csI (T.2.1 (cN x)) = nI b
        · exact c4
        · exact absurd (Or.inr c4) c2
theorem sm_up {n : Nat} {f : Nat → Nat} {t v : Nat} (ht : t < n) : sm n (va_up f t v) + f t = sm n f + v := by
  induction n with
  | zero => omega
  | succ n ih =>
    rw [sm_succ, sm_succ]
    by_cases c : t = n
    · subst c
      rw [va_s]
      have : sm t (va_up f t v) = sm t f := by
        unfold sm
        congr 1
        apply List.map_congr_left
        intro a ha
        exact va_n _ _ (by have := List.mem_range.mp ha; omega)
      omega
    · rw [va_n _ _ (show n ≠ t from fun z => c z.symm)]
      have := ih (by omega)
      omega
theorem sm_ge {n : Nat} {f : Nat → Nat} {t : Nat} (ht : t < n) : f t ≤ sm n f := by
  have := sm_up (n := n) (f := f) (t := t) (v := 0) ht
  omega
section CO3
variable {h : Hp} {o c m i d : Nat} {s l : Nat → Int64} {hn : Nat → Nat} {T : Th}
theorem pr_okN {g : Hp} (px : PX h o c (m, i, d, s, l, hn) T) (f : Fr (AN o c) h g) {T' : Th} (tv : TV g o T' U0) {d' : Nat} {s' : Nat → Int64} (w : Wv g (o + 23 + 5 * c) (o + 24 + 5 * c) d' s') : PR o c h (m, i, d, s, l, hn) (none, (m, i + 1, d', s', l, hn), T') (-1) g := by
  obtain ⟨p1, p2, p3, p4, p5, p6⟩ := px
  refine ⟨f.mono (fun b z => by unfold AN at z; unfold AP; omega), fun k _ => ?_, ?_, fun k _ _ => ?_, tv, rfl, ?_, p3.fr f (by unfold AN; omega) (by unfold AN; omega) (by unfold AN; omega) w m (i + 1)⟩
  · rw [(f.2.2.2 (o + 14) (by unfold AN; omega)).1]
  · rw [(f.2.2.2 (o + 14) (by unfold AN; omega)).2]
  · rw [(f.2.2.2 (o + 22 + 5 * c) (by unfold AN; omega)).1]
  · rw [(f.2.2.2 (o + 22 + 5 * c) (by unfold AN; omega)).1]; exact p5
theorem pr_fN {g : Hp} (px : PX h o c (m, i, d, s, l, hn) T) (f : Fr (AN o c) h g) {T' : Th} (tv : TV g o T' U0) {d' : Nat} {s' : Nat → Int64} (w : Wv g (o + 23 + 5 * c) (o + 24 + 5 * c) d' s') (n : Nat) (y : Cl) : PR o c h (m, i, d, s, l, hn) (some (n, none), y, T') (nI n) g := by
  obtain ⟨p1, p2, p3, p4, p5, p6⟩ := px
  refine ⟨f.mono (fun b z => by unfold AN at z; unfold AP; omega), fun k _ => ?_, ?_, fun k _ _ => ?_, tv, rfl, ?_, d', s', p3.fr f (by unfold AN; omega) (by unfold AN; omega) (by unfold AN; omega) w m i⟩
  · rw [(f.2.2.2 (o + 14) (by unfold AN; omega)).1]
  · rw [(f.2.2.2 (o + 14) (by unfold AN; omega)).2]
  · rw [(f.2.2.2 (o + 22 + 5 * c) (by unfold AN; omega)).1]
  · rw [(f.2.2.2 (o + 14) (by unfold AN; omega)).1]; exact p4
theorem Fr.aN {g k : Hp} (f : Fr (Aw (o + 23 + 5 * c) (o + 24 + 5 * c)) g k) : Fr (AN o c) g k := f.mono (fun x z => by unfold Aw at z; unfold AN; omega)
theorem Fr.aT {g k : Hp} (f : Fr (AT o) g k) : Fr (AN o c) g k := f.mono (fun x z => by unfold AT at z; unfold AN; omega)
theorem TV.aw {g k : Hp} {U : Nat → Nat → Prop} (v : TV g o T U) (f : Fr (Aw (o + 23 + 5 * c) (o + 24 + 5 * c)) g k) : TV k o T U := v.fr f (fun x h1 h2 => by unfold Aw; omega)
theorem f_get {P : Pg} (px : PX h o c (m, i, d, s, l, hn) T) {b D : Nat} (hb : b < 8) (hd : d = D + 2) (hd12 : d ≤ 12) (ty : Ty T.1 4 (s D)) : Ok (FX9_getCell (some (o + 14)) (some (o + 23 + 5 * c)) (nI b) h) (PR o c h (m, i, d, s, l, hn) (xw m D (kcl b) s l (x_arr 25 0 b d s hn i T))) := by
  have w : Wv h (o + 23 + 5 * c) (o + 24 + 5 * c) d s := px.2.2.1.1
  subst hd
  have n60 := px.2.1.1.2
  have tx := ty_4 n60 ty
  have e : x_arr 25 0 b (D + 2) s hn i T = (match refc T (s D).toInt32 (s (D + 1)).toInt32 b with
    | some f => xf f hn i T
    | none => xo (T.2.2.2.2 (cN (s D).toInt32) (cN (s (D + 1)).toInt32)) hn (i + 1) T) := rfl
  rw [e]
  unfold FX9_getCell
  rw [rcv_ok w.1]
  refine ok_cl (k_popInt (d := D + 1) w) (fun r g q => ?_)
  obtain ⟨rfl, q2, q3⟩ := q
  rw [rcv_ok q2.1]
  refine ok_cl (k_popInt (d := D) q2) (fun r g2 p => ?_)
  obtain ⟨rfl, p2, p3⟩ := p
  have ff := q3.trans p3
  have wg := px.1.fr ff
  have tg := px.2.1.aw ff
  rw [gR_ok wg.1.1, wg.1.2.2.1, rcv_ok wg.2.1.1, f_refc wg tg tx, cl_ok]
  cases hr : refc T (s D).toInt32 (s (D + 1)).toInt32 b with
  | some f =>
    have hf : f < 16 := by
      unfold refc at hr
      split at hr
      · injection hr with hr; omega
      · split at hr
        · injection hr with hr; omega
        · split at hr
          · injection hr with hr; omega
          · cases hr
    show Ok (if nI f = -1 then _ else some (nI f, g2)) _
    rw [ie_m (by omega)]
    exact pr_fail px ff p2 f _ _
  | none =>
    obtain ⟨z1, z2, z3, z4⟩ := refc_no hr
    rcases tx with tx | ⟨t, ht, et⟩
    · exact absurd tx z1
    · have sz := (tg.2 t ht).2.1.2
      rw [et, cN_n (by omega)] at z4
      obtain ⟨k, hk, ek, eck⟩ := wi_ex (by omega) z4
      show Ok (if (-1 : Int32) = -1 then _ else some (-1, g2)) _
      rw [if_pos rfl, f_kOC hb, cl_ok, gR_ok wg.1.1, wg.1.2.2.1, rcv_ok wg.2.1.1, et, ek, f_read wg tg ht hk (fun z => z), cl_ok, rcv_ok p2.1, cN_n (by omega), cN_n (by omega)]
      have hk5 : kcl b < 5 := by unfold kcl; split <;> omega
      have hw := wd_le (kcl b)
      exact pr_push px ff p2 hk5 (by omega) _
theorem f_put {P : Pg} (px : PX h o c (m, i, d, s, l, hn) T) {b D : Nat} (hb : b < 8) (hd : d = D + 2 + wd (kcl b)) (hd12 : d ≤ 12) (ty : Ty T.1 4 (s D)) (ty4 : b = 4 → Ty T.1 4 (s (D + 2))) : Ok (FX9_putCell (some (o + 14)) (some (o + 23 + 5 * c)) (nI b) h) (PR o c h (m, i, d, s, l, hn) (xw m D 5 s l (x_put b (s (D + 2)) (s (D + 1)).toInt32 (s D).toInt32 hn i T))) := by
  have w : Wv h (o + 23 + 5 * c) (o + 24 + 5 * c) d s := px.2.2.1.1
  have hk5 : kcl b < 5 := by unfold kcl; split <;> omega
  have hw := wd_le (kcl b)
  subst hd
  have n60 := px.2.1.1.2
  have tx := ty_4 n60 ty
  unfold x_put FX9_putCell
  rw [f_kOC hb, cl_ok, rcv_ok w.1]
  refine ok_cl (k_popBits (d := D + 2) (by omega) w) (fun r g1 q => ?_)
  obtain ⟨rfl, q2, q3⟩ := q
  rw [rcv_ok q2.1]
  refine ok_cl (k_popInt (d := D + 1) q2) (fun r g3 p => ?_)
  obtain ⟨rfl, p2, p3⟩ := p
  rw [rcv_ok p2.1]
  refine ok_cl (k_popInt (d := D) p2) (fun r g2 u => ?_)
  obtain ⟨rfl, u2, u3⟩ := u
  have ff := (q3.trans p3).trans u3
  have wg := px.1.fr ff
  have tg := px.2.1.aw ff
  rw [gR_ok wg.1.1, wg.1.2.2.1, rcv_ok wg.2.1.1, f_refc wg tg tx, cl_ok]
  cases hr : refc T (s D).toInt32 (s (D + 1)).toInt32 b with
  | some f =>
    have hf : f < 16 := by
      unfold refc at hr
      split at hr
      · injection hr with hr; omega
      · split at hr
        · injection hr with hr; omega
        · split at hr
          · injection hr with hr; omega
          · cases hr
    show Ok (if nI f = -1 then _ else some (nI f, g2)) _
    rw [ie_m (by omega)]
    exact pr_fail px ff u2 f _ _
  | none =>
    obtain ⟨z1, z2, z3, z4⟩ := refc_no hr
    rcases tx with tx | ⟨t, ht, et⟩
    · exact absurd tx z1
    · have sz := (tg.2 t ht).2.1.2
      rw [et, cN_n (by omega)] at z4 z2
      obtain ⟨k, hk, ek, eck⟩ := wi_ex (by omega) z4
      show Ok (if (-1 : Int32) = -1 then _ else some (-1, g2)) _
      rw [if_pos rfl, nl_4, if_eq (by omega) (by decide)]
      dsimp only
      rw [et, ek, cN_n (by omega), cN_n (by omega)]
      have p65 : Ok (BX9_putCell_65 (some (o + 14)) (nI b) (s (D + 2)) (nI k) (nI t) g2) (PR o c h (m, i, D + 2 + wd (kcl b), s, l, hn) (xw m D 5 s l (xo 0 hn (i + 1) (wrC T t k (if b < 5 then s (D + 2) else Int32.toInt64 (c_nar b (s (D + 2)).toInt32)))))) := by
        have p89 : ∀ x, Ok (BX9_putCell_89 (some (o + 15)) (nI t) (nI k) x g2) (PR o c h (m, i, D + 2 + wd (kcl b), s, l, hn) (xw m D 5 s l (xo 0 hn (i + 1) (wrC T t k x)))) := by
          intro x
          unfold BX9_putCell_89
          rw [rcv_ok wg.2.1.1]
          refine ok_cl (f_write wg tg ht hk x) (fun _ g4 v => ok_some ?_)
          unfold xw xo
          dsimp only
          rw [if_pos rfl, if_pos rfl]
          exact pr_okN px (ff.aN.trans v.2.aT) (v.1.mono (fun _ _ _ _ z => z.1)) (u2.fr v.2 (by unfold AT; omega) (by unfold AT; omega))
        unfold BX9_putCell_65
        rw [gR_ok wg.1.1, wg.1.2.2.1, nl_5, if_lt (by omega) (by decide)]
        by_cases c5 : b < 5
        · rw [if_pos c5, if_pos c5]; exact p89 _
        · rw [if_neg c5, if_neg c5, f_nar (by omega) hb, cl_ok]; exact p89 _
      by_cases c4 : b = 4
      · have ty4' := ty_4 n60 (ty4 c4)
        rw [if_pos c4, gR_ok wg.1.1, wg.1.2.2.1, rcv_ok wg.2.1.1, f_mayS wg tg ht z2 ty4', cl_ok, b2i_if]
        by_cases cm : (s (D + 2)).toInt32 = -1 ∨ T.2.1 (cN (s (D + 2)).toInt32) = T.2.1 t - 8
        · rw [decide_eq_true cm, if_pos rfl, if_neg (fun z => z.2 cm)]; exact p65
        · rw [decide_eq_false cm, if_neg (by decide), if_pos ⟨c4, cm⟩]
          exact pr_fail px ff u2 3 _ _
      · rw [if_neg c4, if_neg (fun z => c4 z.1)]; exact p65
theorem f_useArray {P : Pg} (px : PX h o c (m, i, d, s, l, hn) T) {op : Nat} {A B : Int32} {σ : Nat → Nat} {e : Nat} (h1 : 24 ≤ op) (h2 : op ≤ 29) (hod : j_od P op A B = true) (htk : takeL σ (j_tk P op (cN A) (cN B)) d = some e) (hd : d ≤ 12) (ty : ∀ p, p < d → Ty T.1 (σ p) (s p)) : Ok (cl (FX9_useArray (some (o + 14)) (some (o + 23 + 5 * c)) (nI op) A B h) (fun r g => some (r, g))) (PR o c h (m, i, d, s, l, hn) (x_op P op A B (m, i, d, s, l, hn) T)) := by
  have w : Wv h (o + 23 + 5 * c) (o + 24 + 5 * c) d s := px.2.2.1.1
  have fr := Fr.refl (Aw (o + 23 + 5 * c) (o + 24 + 5 * c)) h
  have n60 := px.2.1.1.2
  rw [xop_v (by omega) (by omega) (by omega)]
  have ev : x_val P op A B d s l hn i T = x_arr op A (cN B) d s hn i T := by
    rcases (show op = 24 ∨ op = 25 ∨ op = 26 ∨ op = 27 ∨ op = 28 ∨ op = 29 by omega) with rfl | rfl | rfl | rfl | rfl | rfl <;> rfl
  rw [ev]
  have t1 : ∀ {k : Nat} {ks : List Nat} {d0 : Nat}, takeL σ (k :: ks) d0 = some e → wd k ≤ d0 ∧ σ (d0 - wd k) = k ∧ takeL σ ks (d0 - wd k) = some e := by
    intro k ks d0 hh
    rw [takeL] at hh
    by_cases cc : wd k ≤ d0 ∧ σ (d0 - wd k) = k
    · rw [if_pos cc] at hh; exact ⟨cc.1, cc.2, hh⟩
    · rw [if_neg cc] at hh; cases hh
  unfold FX9_useArray
  rcases (show op = 24 ∨ op = 25 ∨ op = 26 ∨ (op = 27 ∨ op = 28 ∨ op = 29) by omega) with rfl | rfl | rfl | ho3
  · have ho : (ity A && decide (1 ≤ B.toInt ∧ B.toInt ≤ A.toInt / 8)) = true := hod
    rw [Bool.and_eq_true, decide_eq_true_eq] at ho
    unfold ity at ho
    rw [decide_eq_true_eq] at ho
    obtain ⟨⟨y1, y2, y3⟩, y4, y5⟩ := ho
    obtain ⟨y, hy, rfl⟩ := nI_lt_of (x := A) (n := 32) (by decide) (by omega) (by omega)
    rw [nI_tI (by omega)] at y1 y5
    obtain ⟨b, hb, rfl⟩ := nI_lt_of (x := B) (n := 4) (by decide) (by omega) (by omega)
    rw [nI_tI (by omega)] at y4 y5
    have y8 : ¬ y % 8 = 4 := fun z => y3 (by rw [nl_8, pk_rem (by omega) (by decide) (by decide), z]; rfl)
    rw [cN_n (by omega), cN_n (by omega)] at htk ⊢
    have et : tkW (j_tk P 24 y b) = b := by
      have : j_tk P 24 y b = List.replicate b 0 := rfl
      rw [this]
      unfold tkW
      rw [List.map_replicate, List.sum_replicate_nat]
      show b * 1 = b
      omega
    obtain ⟨k1, k2⟩ := tkL _ htk
    have ep : j_pt P 24 y b = 4 := rfl
    rw [et] at k1 ⊢
    rw [ep, if_pos (show nI 24 = 24 from rfl), rcv_ok px.1.1.1]
    refine ok_cl (Q := PR o c h (m, i, d, s, l, hn) (xw m (d - b) 4 s l (x_arr 24 (nI y) b d s hn i T))) (ok_cl (f_newArr (hn := hn) (i := i) (by omega) (by omega) (by omega) hy y8 hd k1 px.1 px.2.1 w) (fun r g q => ok_some ?_)) (fun r g q => ok_some q)
    obtain ⟨q1, q2, q3⟩ := q
    have xe : (x_arr 24 (nI y) b d s hn i T).2.2.1 = hn := by
      unfold x_arr
      rw [if_pos rfl]
      split
      · rfl
      · split <;> rfl
    have xn : (x_arr 24 (nI y) b d s hn i T).1 = none → (x_arr 24 (nI y) b d s hn i T).2.2.2.1 = i + 1 := by
      unfold x_arr
      rw [if_pos rfl]
      split
      · intro z; cases z
      · split
        · intro _; rfl
        · intro z; cases z
    generalize x_arr 24 (nI y) b d s hn i T = X at q2 q3 xe xn ⊢
    obtain ⟨X1, X2, X3, X4, X5⟩ := X
    dsimp only at q2 q3 xe xn
    subst xe
    cases X1 with
    | none =>
      obtain ⟨r1, r2⟩ := q3
      rw [r1, xn rfl]
      unfold xw pushS
      dsimp only
      rw [if_neg (by decide), if_neg (by decide), if_neg (by decide)]
      exact pr_okN px q1 q2 r2
    | some f =>
      obtain ⟨r1, r2, d', s', r3⟩ := q3
      obtain ⟨f1, f2⟩ := f
      dsimp only at r1 r2
      subst r2
      rw [r1]
      exact pr_fN px q1 q2 r3 f1 _
  · have ho : wi B 8 = true := hod
    obtain ⟨b, hb, rfl, ecb⟩ := wi_ex (by decide) ho
    rw [ecb] at htk ⊢
    have htk : takeL σ [0, 4] d = some e := htk
    obtain ⟨a1, a2, a3⟩ := t1 htk
    obtain ⟨b1, b2, b3⟩ := t1 a3
    have w0 : wd 0 = 1 := rfl
    have w4 : wd 4 = 1 := rfl
    have ty4 := ty (d - wd 0 - wd 4) (by omega)
    rw [b2, show d - wd 0 - wd 4 = d - 2 by omega] at ty4
    have et : tkW (j_tk P 25 (cN A) b) = 2 := rfl
    have ep : j_pt P 25 (cN A) b = kcl b := rfl
    rw [et, ep, if_neg (by decide), if_pos (show nI 25 = 25 from rfl), rcv_ok px.1.1.1]
    exact ok_cl (ok_cl (f_get (P := P) (D := d - 2) px hb (by omega) hd ty4) (fun r g q => ok_some q)) (fun r g q => ok_some q)
  · have ho : wi B 8 = true := hod
    obtain ⟨b, hb, rfl, ecb⟩ := wi_ex (by decide) ho
    rw [ecb] at htk ⊢
    have htk : takeL σ [kcl b, 0, 4] d = some e := htk
    obtain ⟨a1, a2, a3⟩ := t1 htk
    obtain ⟨b1, b2, b3⟩ := t1 a3
    obtain ⟨c1, c2, c3⟩ := t1 b3
    have w0 : wd 0 = 1 := rfl
    have w4 : wd 4 = 1 := rfl
    have hw := wd_le (kcl b)
    have ty4 := ty (d - wd (kcl b) - wd 0 - wd 4) (by omega)
    rw [c2, show d - wd (kcl b) - wd 0 - wd 4 = d - wd (kcl b) - 2 by omega] at ty4
    have et : tkW (j_tk P 26 (cN A) b) = wd (kcl b) + 1 + 1 := by
      have : j_tk P 26 (cN A) b = [kcl b, 0, 4] := rfl
      rw [this, tkW_3, w0, w4]
    have ep : j_pt P 26 (cN A) b = 5 := rfl
    have ex : x_arr 26 A b d s hn i T = x_put b (s (d - wd (kcl b) - 2 + 2)) (s (d - wd (kcl b) - 2 + 1)).toInt32 (s (d - wd (kcl b) - 2)).toInt32 hn i T := by
      show x_put b (s (d - wd (kcl b))) (s (d - wd (kcl b) - 1)).toInt32 (s (d - wd (kcl b) - 2)).toInt32 hn i T = _
      rw [show d - wd (kcl b) - 2 + 2 = d - wd (kcl b) by omega, show d - wd (kcl b) - 2 + 1 = d - wd (kcl b) - 1 by omega]
    rw [et, ep, ex, show d - (wd (kcl b) + 1 + 1) = d - wd (kcl b) - 2 by omega, if_neg (by decide), if_neg (by decide), if_pos (show nI 26 = 26 from rfl), rcv_ok px.1.1.1]
    exact ok_cl (ok_cl (f_put (P := P) (D := d - wd (kcl b) - 2) px hb (by omega) hd ty4 (fun z => by
      subst z
      have := ty (d - wd (kcl 4)) (by omega)
      rw [a2] at this
      rw [show d - wd (kcl 4) - 2 + 2 = d - wd (kcl 4) by omega]
      exact this)) (fun r g q => ok_some q)) (fun r g q => ok_some q)
  · have htk : takeL σ [4] d = some e := by
      rcases ho3 with rfl | rfl | rfl <;> exact htk
    obtain ⟨a1, a2, a3⟩ := t1 htk
    have w4 : wd 4 = 1 := rfl
    have ty4 := ty (d - wd 4) (by omega)
    rw [a2, w4] at ty4
    have tx := ty_4 n60 ty4
    obtain ⟨D, rfl⟩ : ∃ D, d = D + 1 := ⟨d - 1, by omega⟩
    have et : tkW (j_tk P op (cN A) (cN B)) = 1 := by
      rcases ho3 with rfl | rfl | rfl <;> rfl
    rw [et]
    rw [Nat.add_sub_cancel] at tx ⊢
    rcases ho3 with rfl | rfl | rfl
    · have ep : j_pt P 27 (cN A) (cN B) = 0 := rfl
      have ex : x_arr 27 A (cN B) (D + 1) s hn i T = (if (s D).toInt32 = -1 then xf 1 hn i T else if T.2.1 (cN (s D).toInt32) < 0 then xf 5 hn i T else xo (lN (T.2.2.1 (cN (s D).toInt32))) hn (i + 1) T) := rfl
      rw [ep, ex, if_neg (by decide), if_neg (by decide), if_neg (by decide), if_pos (show nI 27 = 27 from rfl), rcv_ok px.1.1.1]
      refine ok_cl (Q := PR o c h (m, i, D + 1, s, l, hn) (xw m D 0 s l (if (s D).toInt32 = -1 then xf 1 hn i T else if T.2.1 (cN (s D).toInt32) < 0 then xf 5 hn i T else xo (lN (T.2.2.1 (cN (s D).toInt32))) hn (i + 1) T))) (ok_cl (Q := PR o c h (m, i, D + 1, s, l, hn) (xw m D 0 s l (if (s D).toInt32 = -1 then xf 1 hn i T else if T.2.1 (cN (s D).toInt32) < 0 then xf 5 hn i T else xo (lN (T.2.2.1 (cN (s D).toInt32))) hn (i + 1) T))) ?_ (fun r g q => ok_some q)) (fun r g q => ok_some q)
      unfold FX9_countCells
      rw [rcv_ok w.1]
      refine ok_cl (k_popInt w) (fun r g q => ?_)
      obtain ⟨rfl, q2, q3⟩ := q
      have wg := px.1.fr q3
      have tg := px.2.1.aw q3
      rcases tx with tx | ⟨t, ht, tx⟩
      · rw [tx, if_pos rfl, if_pos rfl]
        exact pr_fail px q3 q2 1 _ _
      · have m1 := nI_nm1 (a := t) (by omega)
        obtain ⟨v1, v2, v3, v4⟩ := tg.2 t ht
        rw [tx, if_neg m1, if_neg m1, gR_ok wg.1.1, wg.1.2.2.1, rcv_ok wg.2.1.1, f_isArr wg tg ht, cl_ok, b2i_if, cN_n (by omega)]
        by_cases cn : T.2.1 t < 0
        · rw [decide_eq_true cn, if_neg (by decide), if_pos cn]
          exact pr_fail px q3 q2 5 _ _
        · rw [decide_eq_false cn, if_pos (by decide), if_neg cn, gR_ok wg.1.1, wg.1.2.2.1, gR_ok wg.2.1.1, wg.2.1.2.2.1, aI_n wg.2.2.1.2.1 (by omega) (by decide), v2.1, rcv_ok q2.1, nI_l8 (by omega)]
          exact pr_push1 (pt := 0) px q3 q2 (by omega) rfl (by omega) _
    · have ep : j_pt P 28 (cN A) (cN B) = 0 := rfl
      have ex : x_arr 28 A (cN B) (D + 1) s hn i T = xo (if ¬ (s D).toInt32 = -1 ∧ T.2.1 (cN (s D).toInt32) = A then 1 else 0) hn (i + 1) T := rfl
      rw [ep, ex, if_neg (by decide), if_neg (by decide), if_neg (by decide), if_neg (by decide), if_pos (show nI 28 = 28 from rfl), gR_ok px.1.1.1, px.1.1.2.2.1, rcv_ok w.1]
      refine ok_cl (Q := PR o c h (m, i, D + 1, s, l, hn) (xw m D 0 s l (xo (if ¬ (s D).toInt32 = -1 ∧ T.2.1 (cN (s D).toInt32) = A then 1 else 0) hn (i + 1) T))) (ok_cl (k_popInt w) (fun r g q => ?_)) (fun r g q => ok_some q)
      obtain ⟨rfl, q2, q3⟩ := q
      have wg := px.1.fr q3
      have tg := px.2.1.aw q3
      have fin : ∀ v : Int64, Ok (BX9_useArray_88 (some (o + 23 + 5 * c)) v g) (PR o c h (m, i, D + 1, s, l, hn) (xw m D 0 s l (xo v hn (i + 1) T))) := by
        intro v
        unfold BX9_useArray_88
        rw [rcv_ok q2.1]
        exact pr_push1 (pt := 0) px q3 q2 (by omega) rfl (by omega) _
      rw [rcv_ok wg.2.1.1]
      rcases tx with tx | ⟨t, ht, tx⟩
      · rw [tx, f_isTy_m wg tg, cl_ok, if_pos rfl, if_neg (fun z => z.1 rfl)]
        exact fin 0
      · have m1 := nI_nm1 (a := t) (by omega)
        rw [tx, f_isTy wg tg ht, cl_ok, b2i_if, cN_n (by omega)]
        by_cases ct : T.2.1 t = A
        · rw [decide_eq_true ct, if_pos rfl, if_pos ⟨m1, ct⟩]; exact fin 1
        · rw [decide_eq_false ct, if_neg (by decide), if_neg (fun z => ct z.2)]; exact fin 0
    · have ep : j_pt P 29 (cN A) (cN B) = 4 := rfl
      have ex : x_arr 29 A (cN B) (D + 1) s hn i T = (if (s D).toInt32 = -1 ∨ T.2.1 (cN (s D).toInt32) = A then xo (Int32.toInt64 (s D).toInt32) hn (i + 1) T else xf 5 hn i T) := rfl
      rw [ep, ex, if_neg (by decide), if_neg (by decide), if_neg (by decide), if_neg (by decide), if_neg (by decide), rcv_ok w.1]
      refine ok_cl (Q := PR o c h (m, i, D + 1, s, l, hn) (xw m D 4 s l (if (s D).toInt32 = -1 ∨ T.2.1 (cN (s D).toInt32) = A then xo (Int32.toInt64 (s D).toInt32) hn (i + 1) T else xf 5 hn i T))) (ok_cl (k_popInt w) (fun r g q => ?_)) (fun r g q => ok_some q)
      obtain ⟨rfl, q2, q3⟩ := q
      rw [rcv_ok q2.1]
      refine ok_cl (k_push q2 _ (by omega)) (fun _ g2 p => ?_)
      have ff := q3.trans p.2
      have wg := px.1.fr ff
      have tg := px.2.1.aw ff
      have fin : Ok (some ((-1 : Int32), g2)) (PR o c h (m, i, D + 1, s, l, hn) (xw m D 4 s l (xo (Int32.toInt64 (s D).toInt32) hn (i + 1) T))) := by
        unfold xw xo pushS
        dsimp only
        rw [if_neg (by decide), if_neg (by decide), if_neg (by decide)]
        exact ok_some (pr_ok px ff p.1)
      by_cases cx : (s D).toInt32 = -1
      · rw [if_pos cx, if_pos (Or.inl cx)]; exact fin
      · rcases tx with tx | ⟨t, ht, tx⟩
        · exact absurd tx cx
        · rw [if_neg cx, gR_ok wg.1.1, wg.1.2.2.1, rcv_ok wg.2.1.1]
          rw [tx] at cx fin ⊢
          rw [f_isTy wg tg ht, cl_ok, b2i_if, cN_n (by omega)]
          by_cases ct : T.2.1 t = A
          · rw [decide_eq_true ct, if_pos rfl, if_pos (Or.inr ct)]; exact fin
          · rw [decide_eq_false ct, if_neg (by decide), if_neg (fun z => z.elim cx ct)]
            exact pr_fail px ff p.1 5 _ _
end CO3
