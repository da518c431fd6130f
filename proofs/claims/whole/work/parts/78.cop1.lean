/-! the class: one operation; what it leaves -/
def CS (h : Hp) (o c : Nat) (x : Cl) : Prop := Wv h (o + 23 + 5 * c) (o + 24 + 5 * c) x.2.2.1 x.2.2.2.1 ∧ (∀ j, j < 16 → hL h (o + 25 + 5 * c) j = x.2.2.2.2.1 j) ∧ (∀ t, t < 60 → hI h (o + 26 + 5 * c) t = nI (x.2.2.2.2.2 t)) ∧ hI h (o + 22 + 5 * c) 7 = nI (sm 60 x.2.2.2.2.2)
def AP (o c : Nat) : Nat → Prop := fun b => (o + 14 ≤ b ∧ b ≤ o + 19) ∨ b = o + 21 ∨ (o + 22 + 5 * c ≤ b ∧ b ≤ o + 26 + 5 * c)
def PR (o c : Nat) (h : Hp) (x : Cl) (R : Option (Nat × Option Nat) × Cl × Th) : Int32 → Hp → Prop := fun r g => Fr (AP o c) h g ∧ (∀ k, k ≠ 14 → hI g (o + 14) k = hI h (o + 14) k) ∧ hL g (o + 14) = hL h (o + 14) ∧ (∀ k, k ≠ 3 → k ≠ 7 → hI g (o + 22 + 5 * c) k = hI h (o + 22 + 5 * c) k) ∧ TV g o R.2.2 U0 ∧ (match R.1 with
  | some f => r = nI f.1 ∧ hI g (o + 14) 14 = o2i f.2 ∧ ∃ d s, CS g o c (x.1, x.2.1, d, s, x.2.2.2.2.1, x.2.2.2.2.2)
  | none => r = -1 ∧ hI g (o + 22 + 5 * c) 3 = nI R.2.1.2.1 ∧ CS g o c R.2.1)
def PX (h : Hp) (o c : Nat) (x : Cl) (T : Th) : Prop := WT (hT h) (hR h) o ∧ TV h o T U0 ∧ CS h o c x ∧ hI h (o + 14) 14 = -1 ∧ hI h (o + 22 + 5 * c) 3 = nI (x.2.1 + 1) ∧ c < 6
/-- values of a kind -/
def Ty (n k : Nat) (v : Int64) : Prop := ((k = 0 ∨ k = 2) → sx v) ∧ (k = 4 → v = -1 ∨ ∃ j, j < n ∧ v = lN j)
theorem lN_32 {j : Nat} (h : j < 2 ^ 31) : (lN j).toInt32 = nI j := by rw [← nI_l8 h, sx_r]
theorem ty_4 {n : Nat} {v : Int64} (hn : n ≤ 60) (h : Ty n 4 v) : v.toInt32 = -1 ∨ ∃ t, t < n ∧ v.toInt32 = nI t := by
  rcases h.2 rfl with rfl | ⟨j, hj, rfl⟩
  · exact Or.inl rfl
  · exact Or.inr ⟨j, hj, lN_32 (by omega)⟩
/-- what is behind an operation whose value is X -/
def xw (m D pt : Nat) (s l : Nat → Int64) (X : Xr) : Option (Nat × Option Nat) × Cl × Th := (X.1, (m, X.2.2.2.1, (if pt = 5 then D else D + wd pt), (if pt = 5 then s else pushS s D pt X.2.1), l, X.2.2.1), X.2.2.2.2)
theorem xop_v {P : Pg} {op : Nat} {A B : Int32} {m i d : Nat} {s l : Nat → Int64} {hn : Nat → Nat} {T : Th} (h1 : ¬ (8 ≤ op ∧ op ≤ 16)) (h2 : ¬ op = 6) (h3 : ¬ op = 7) : x_op P op A B (m, i, d, s, l, hn) T = xw m (d - tkW (j_tk P op (cN A) (cN B))) (j_pt P op (cN A) (cN B)) s l (x_val P op A B d s l hn i T) := by
  unfold x_op xw
  rw [if_neg h1, if_neg h2, if_neg h3]
theorem CS.fr {A : Nat → Prop} {h g : Hp} {o c : Nat} {x : Cl} {d : Nat} {s : Nat → Int64} (v : CS h o c x) (f : Fr A h g) (h1 : ¬ A (o + 22 + 5 * c)) (h2 : ¬ A (o + 25 + 5 * c)) (h3 : ¬ A (o + 26 + 5 * c)) (w : Wv g (o + 23 + 5 * c) (o + 24 + 5 * c) d s) (m i : Nat) : CS g o c (m, i, d, s, x.2.2.2.2.1, x.2.2.2.2.2) := by
  obtain ⟨v1, v2, v3, v4⟩ := v
  refine ⟨w, ?_, ?_, ?_⟩
  · rw [(f.2.2.2 _ h2).2]; exact v2
  · rw [(f.2.2.2 _ h3).1]; exact v3
  · rw [(f.2.2.2 _ h1).1]; exact v4
section CO
variable {h : Hp} {o c m i d : Nat} {s l : Nat → Int64} {hn : Nat → Nat} {T : Th}
theorem pr_ok {g : Hp} (px : PX h o c (m, i, d, s, l, hn) T) (f : Fr (Aw (o + 23 + 5 * c) (o + 24 + 5 * c)) h g) {d' : Nat} {s' : Nat → Int64} (w : Wv g (o + 23 + 5 * c) (o + 24 + 5 * c) d' s') : PR o c h (m, i, d, s, l, hn) (none, (m, i + 1, d', s', l, hn), T) (-1) g := by
  obtain ⟨p1, p2, p3, p4, p5, p6⟩ := px
  refine ⟨f.mono (fun b z => by unfold Aw at z; unfold AP; omega), fun k _ => ?_, ?_, fun k _ _ => ?_, p2.fr f (fun b h1 h2 => by unfold Aw; omega), rfl, ?_, p3.fr f (by unfold Aw; omega) (by unfold Aw; omega) (by unfold Aw; omega) w m (i + 1)⟩
  · rw [(f.2.2.2 (o + 14) (by unfold Aw; omega)).1]
  · rw [(f.2.2.2 (o + 14) (by unfold Aw; omega)).2]
  · rw [(f.2.2.2 (o + 22 + 5 * c) (by unfold Aw; omega)).1]
  · rw [(f.2.2.2 (o + 22 + 5 * c) (by unfold Aw; omega)).1]; exact p5
theorem pr_f {g : Hp} (px : PX h o c (m, i, d, s, l, hn) T) (f : Fr (Aw (o + 23 + 5 * c) (o + 24 + 5 * c)) h g) {d' : Nat} {s' : Nat → Int64} (w : Wv g (o + 23 + 5 * c) (o + 24 + 5 * c) d' s') (n : Nat) (y : Cl) : PR o c h (m, i, d, s, l, hn) (some (n, none), y, T) (nI n) g := by
  obtain ⟨p1, p2, p3, p4, p5, p6⟩ := px
  refine ⟨f.mono (fun b z => by unfold Aw at z; unfold AP; omega), fun k _ => ?_, ?_, fun k _ _ => ?_, p2.fr f (fun b h1 h2 => by unfold Aw; omega), rfl, ?_, d', s', p3.fr f (by unfold Aw; omega) (by unfold Aw; omega) (by unfold Aw; omega) w m i⟩
  · rw [(f.2.2.2 (o + 14) (by unfold Aw; omega)).1]
  · rw [(f.2.2.2 (o + 14) (by unfold Aw; omega)).2]
  · rw [(f.2.2.2 (o + 22 + 5 * c) (by unfold Aw; omega)).1]
  · rw [(f.2.2.2 (o + 14) (by unfold Aw; omega)).1]; exact p4
/-- a value is pushed at the end -/
theorem pr_push {g : Hp} (px : PX h o c (m, i, d, s, l, hn) T) (f : Fr (Aw (o + 23 + 5 * c) (o + 24 + 5 * c)) h g) {D pt : Nat} (w : Wv g (o + 23 + 5 * c) (o + 24 + 5 * c) D s) (hp : pt < 5) (hD : D + wd pt ≤ 14) (v : Int64) : Ok (cl (FX10_pushBits (some (o + 23 + 5 * c)) (nI pt) v g) (fun _ h2 => some ((-1 : Int32), h2))) (PR o c h (m, i, d, s, l, hn) (xw m D pt s l (xo v hn (i + 1) T))) := by
  refine ok_cl (k_pushBits (by omega) w v hD) (fun _ g2 q => ok_some ?_)
  have n5 : ¬ pt = 5 := by omega
  unfold xw xo
  dsimp only
  rw [if_neg n5, if_neg n5]
  exact pr_ok px (f.trans q.2) q.1
theorem pr_push1 {g : Hp} (px : PX h o c (m, i, d, s, l, hn) T) (f : Fr (Aw (o + 23 + 5 * c) (o + 24 + 5 * c)) h g) {D pt : Nat} (w : Wv g (o + 23 + 5 * c) (o + 24 + 5 * c) D s) (hp : pt < 5) (h1 : wd pt = 1) (hD : D + 1 ≤ 14) (v : Int64) : Ok (cl (FX10_push (some (o + 23 + 5 * c)) v g) (fun _ h2 => some ((-1 : Int32), h2))) (PR o c h (m, i, d, s, l, hn) (xw m D pt s l (xo v hn (i + 1) T))) := by
  refine ok_cl (k_push w v (by omega)) (fun _ g2 q => ok_some ?_)
  have n5 : ¬ pt = 5 := by omega
  unfold xw xo pushS
  dsimp only
  rw [if_neg n5, if_neg n5, h1, if_neg (by decide)]
  exact pr_ok px (f.trans q.2) q.1
theorem pr_fail {g : Hp} (px : PX h o c (m, i, d, s, l, hn) T) (f : Fr (Aw (o + 23 + 5 * c) (o + 24 + 5 * c)) h g) {d' : Nat} {s' : Nat → Int64} (w : Wv g (o + 23 + 5 * c) (o + 24 + 5 * c) d' s') (n D pt : Nat) : Ok (some (nI n, g)) (PR o c h (m, i, d, s, l, hn) (xw m D pt s l (xf n hn i T))) := ok_some (pr_f px f w n _)
theorem f_pushFixed {P : Pg} {ma ta : Nat → Nat} (px : PX h o c (m, i, d, s, l, hn) T) (pc : PC h o ma ta P) (pw : PW P) {op : Nat} {A B : Int32} (hop : op ≤ 4) (hod : j_od P op A B = true) (hd : d + wd op ≤ 14) : Ok (cl (FX9_pushFixed (some (o + 14)) (some (o + 23 + 5 * c)) (nI op) A h) (fun r g => some (r, g))) (PR o c h (m, i, d, s, l, hn) (x_op P op A B (m, i, d, s, l, hn) T)) := by
  have t14 := px.1.1.1
  have r0 := px.1.1.2.1
  have w : Wv h (o + 23 + 5 * c) (o + 24 + 5 * c) d s := px.2.2.1.1
  have fr := Fr.refl (Aw (o + 23 + 5 * c) (o + 24 + 5 * c)) h
  rw [xop_v (by omega) (by omega) (by omega)]
  have cn : ∀ k, (k = 1 ∨ k = 3) → op = k → Ok (cl (BX9_pushFixed_32 (some (o + 14)) (some (o + 23 + 5 * c)) (nI k) A h) (fun r g => some (r, g))) (PR o c h (m, i, d, s, l, hn) (xw m d k s l (xo (p_c P (cN A)) hn (i + 1) T))) := by
    intro k hk he
    have h1 : wi A (p_nc P) = true := by
      unfold j_od at hod
      rw [if_pos (by omega)] at hod
      exact hod
    obtain ⟨j, hj, ej, ec⟩ := wi_ex (by have := pw.2.1; omega) h1
    unfold BX9_pushFixed_32
    rw [gR_ok t14, r0, rcv_ok pc.1.1, ej, f_readC pc pw hj, cl_ok, rcv_ok w.1, ← ej, ec]
    subst he
    exact ok_cl (Ok.mono (pr_push px fr w (by omega) hd _) (fun r g q => q)) (fun r g q => ok_some q)
  have h5 : op = 0 ∨ op = 1 ∨ op = 2 ∨ op = 3 ∨ op = 4 := by omega
  rcases h5 with rfl | rfl | rfl | rfl | rfl
  · show Ok (cl (rcv h (some (o + 23 + 5 * c)) 9 <| cl (FX10_push (some (o + 23 + 5 * c)) (Int32.toInt64 A) h) fun v10 h11 => some ((-1), h11)) (fun r g => some (r, g))) _
    rw [rcv_ok w.1]
    exact ok_cl (pr_push1 (pt := 0) px fr w (by omega) rfl hd _) (fun r g q => ok_some q)
  · exact cn 1 (Or.inl rfl) rfl
  · show Ok (cl (rcv h (some (o + 23 + 5 * c)) 9 <| cl (FX10_push (some (o + 23 + 5 * c)) (Int32.toInt64 A) h) fun v10 h11 => some ((-1), h11)) (fun r g => some (r, g))) _
    rw [rcv_ok w.1]
    exact ok_cl (pr_push1 (pt := 2) px fr w (by omega) rfl hd _) (fun r g q => ok_some q)
  · exact cn 3 (Or.inr rfl) rfl
  · show Ok (cl (rcv h (some (o + 23 + 5 * c)) 9 <| cl (FX10_push (some (o + 23 + 5 * c)) (-1) h) fun v10 h11 => some ((-1), h11)) (fun r g => some (r, g))) _
    rw [rcv_ok w.1]
    exact ok_cl (pr_push1 (pt := 4) px fr w (by omega) rfl hd _) (fun r g q => ok_some q)
theorem f_rdL (px : PX h o c (m, i, d, s, l, hn) T) {a : Nat} (ha : a < 16) : FX0_readLocal (some (o + 22 + 5 * c)) (nI a) h = some (l a, h) := by
  obtain ⟨p1, p2, p3, p4, p5, p6⟩ := px
  obtain ⟨⟨-, t22⟩, ⟨-, r5, -⟩, -, -, t25, -⟩ := p1.2.2.2.2 c p6
  unfold FX0_readLocal
  rw [nl_16, f_within_t ha (by decide), cl_ok, if_neg (by decide), gR_ok t22, r5, aL_n t25 (by omega) (by decide), p3.2.1 a ha]
theorem f_wrL {g : Hp} {c' : Nat} (wt : WT (hT g) (hR g) o) (hc : c' < 6) {a : Nat} (ha : a < 16) (v : Int64) : FX0_writeLocal (some (o + 22 + 5 * c')) (nI a) v g = some ((), wL g (o + 25 + 5 * c') a v) := by
  obtain ⟨⟨-, t22⟩, ⟨-, r5, -⟩, -, -, t25, -⟩ := wt.2.2.2.2 c' hc
  unfold FX0_writeLocal
  rw [nl_16, f_within_t ha (by decide), cl_ok, if_neg (by decide), gR_ok t22, r5, sL_n t25 (by omega) (by decide)]
/-- a local is written at the end -/
theorem pr_loc {g : Hp} (px : PX h o c (m, i, d, s, l, hn) T) (f : Fr (Aw (o + 23 + 5 * c) (o + 24 + 5 * c)) h g) {d' a : Nat} (w : Wv g (o + 23 + 5 * c) (o + 24 + 5 * c) d' s) (v : Int64) : PR o c h (m, i, d, s, l, hn) (none, (m, i + 1, d', s, vp_updL l a v, hn), T) (-1) (wL g (o + 25 + 5 * c) a v) := by
  have f2 : Fr (fun b => b = o + 25 + 5 * c) g (wL g (o + 25 + 5 * c) a v) := Fr.wL rfl
  obtain ⟨q1, q2, q3, q4, q5, q6, q7, q8⟩ := pr_ok px f w
  have e14 := f2.2.2.2 (o + 14) (by omega)
  have e22 := f2.2.2.2 (o + 22 + 5 * c) (by omega)
  refine ⟨q1.trans (f2.mono (fun b z => by unfold AP; omega)), fun k hk => by rw [e14.1]; exact q2 k hk, by rw [e14.2]; exact q3, fun k h1 h2 => by rw [e22.1]; exact q4 k h1 h2, q5.fr f2 (fun b h1 h2 => by omega), rfl, by rw [e22.1]; exact q7, q8.1.fr f2 (by omega) (by omega), fun j hj => ?_, ?_, ?_⟩
  · by_cases e : j = a
    · subst e; rw [hL_wL_s]; exact (if_pos rfl).symm
    · rw [hL_wL_k e, q8.2.1 j hj]; exact (if_neg e).symm
  · rw [(f2.2.2.2 _ (by omega)).1]; exact q8.2.2.1
  · rw [e22.1]; exact q8.2.2.2
theorem f_useLocal {P : Pg} (px : PX h o c (m, i, d, s, l, hn) T) {op : Nat} {A B : Int32} (h5 : 5 ≤ op) (h7 : op ≤ 7) (hod : j_od P op A B = true) (hd : op = 5 → d + wd (cN B) ≤ 14) (hd6 : op = 6 → wd (cN B) ≤ d) : Ok (cl (FX9_useLocal (some (o + 14)) (some (o + 22 + 5 * c)) (nI op) A B h) (fun r g => some (r, g))) (PR o c h (m, i, d, s, l, hn) (x_op P op A B (m, i, d, s, l, hn) T)) := by
  have w : Wv h (o + 23 + 5 * c) (o + 24 + 5 * c) d s := px.2.2.1.1
  have fr := Fr.refl (Aw (o + 23 + 5 * c) (o + 24 + 5 * c)) h
  obtain ⟨⟨-, t22⟩, ⟨r4, r5, -⟩, -, -, t25, -⟩ := px.1.2.2.2.2 c px.2.2.2.2.2
  have h3 : op = 5 ∨ op = 6 ∨ op = 7 := by omega
  unfold FX9_useLocal
  rcases h3 with rfl | rfl | rfl
  · have h1 : (wi B 5 && wi A (17 - wd (cN B))) = true := hod
    rw [Bool.and_eq_true] at h1
    obtain ⟨b, hb, eb, ecb⟩ := wi_ex (by decide) h1.1
    have hw := wd_le b
    obtain ⟨a, ha, ea, eca⟩ := wi_ex (by omega) h1.2
    rw [ecb] at ha
    have hd' := hd rfl
    rw [ecb] at hd'
    rw [if_pos (show nI 5 = 5 from rfl), gR_ok t22, r4, rcv_ok t22, ea, f_rdL px (by omega), cl_ok, rcv_ok w.1, ← ea, xop_v (by omega) (by omega) (by omega), eb]
    have e1 : j_tk P 5 (cN A) (cN (nI b)) = [] := rfl
    have e2 : j_pt P 5 (cN A) (cN (nI b)) = b := by show cN (nI b) = b; exact cN_n (by omega)
    have e3 : x_val P 5 A (nI b) d s l hn i T = xo (l a) hn (i + 1) T := by show xo (l (cN A)) hn (i + 1) T = _; rw [eca]
    rw [e1, e2, e3]
    exact ok_cl (pr_push px fr w hb hd' _) (fun r g q => ok_some q)
  · have h1 : (wi B 5 && wi A (17 - wd (cN B))) = true := hod
    rw [Bool.and_eq_true] at h1
    obtain ⟨b, hb, eb, ecb⟩ := wi_ex (by decide) h1.1
    have hw := wd_le b
    obtain ⟨a, ha, ea, eca⟩ := wi_ex (by omega) h1.2
    rw [ecb] at ha
    have hd' := hd6 rfl
    rw [ecb] at hd'
    obtain ⟨D, rfl⟩ : ∃ D, d = D + wd b := ⟨d - wd b, by omega⟩
    rw [if_neg (by decide), if_pos (show nI 6 = 6 from rfl), gR_ok t22, r4, rcv_ok w.1]
    have ex : x_op P 6 A B (m, i, D + wd b, s, l, hn) T = (none, (m, i + 1, D, s, vp_updL l a (s D), hn), T) := by
      unfold x_op
      rw [if_neg (by omega), if_pos rfl, eca, ecb]
      dsimp only
      rw [Nat.add_sub_cancel]
    rw [ex, eb]
    have kk := k_popBits (k := b) (by omega) w
    refine ok_cl (Q := PR o c h (m, i, D + wd b, s, l, hn) (none, (m, i + 1, D, s, vp_updL l a (s D), hn), T)) (ok_cl kk (fun r g q => ?_)) (fun r g q => ok_some q)
    obtain ⟨rfl, q2, q3⟩ := q
    have wg := px.1.fr q3
    rw [rcv_ok (wg.2.2.2.2 c px.2.2.2.2.2).1.2, ea, f_wrL wg px.2.2.2.2.2 (by omega), cl_ok]
    exact ok_some (pr_loc px q3 q2 _)
  · have h1 : wi A 16 = true := hod
    obtain ⟨a, ha, ea, eca⟩ := wi_ex (by decide) h1
    rw [if_neg (by decide), if_neg (by decide), rcv_ok t22, ea, f_rdL px ha, cl_ok, rcv_ok t22, f_wrL px.1 px.2.2.2.2.2 ha, cl_ok, cl_ok]
    have ex : x_op P 7 (nI a) B (m, i, d, s, l, hn) T = (none, (m, i + 1, d, s, vp_updL l a (Int32.toInt64 ((l a).toInt32 + B)), hn), T) := by
      unfold x_op
      rw [if_neg (by omega), if_neg (by omega), if_pos rfl, cN_n (by omega)]
    rw [ex]
    exact ok_some (pr_loc px fr w _)
theorem f_mv {P : Pg} (px : PX h o c (m, i, d, s, l, hn) T) {op : Nat} {A B : Int32} (h1 : 8 ≤ op) (h2 : op ≤ 16) (hd : d ≤ 12) (hu : mvU op + mvV op ≤ d) : Ok (cl (FX10_move (some (o + 23 + 5 * c)) (nI op) h) (fun _ g => some ((-1 : Int32), g))) (PR o c h (m, i, d, s, l, hn) (x_op P op A B (m, i, d, s, l, hn) T)) := by
  have w : Wv h (o + 23 + 5 * c) (o + 24 + 5 * c) d s := px.2.2.1.1
  refine ok_cl (k_move h1 h2 w hu hd) (fun _ g q => ok_some ?_)
  unfold x_op
  rw [if_pos ⟨h1, h2⟩]
  exact pr_ok px q.2 q.1
end CO
