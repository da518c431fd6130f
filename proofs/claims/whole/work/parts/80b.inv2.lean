/-! values keep their kinds: one operation -/
def OkT (P : Pg) (m i : Nat) (T : Th) (hn : Nat → Nat) (S : Sh) (X : Option (Nat × Option Nat) × Cl × Th) : Prop := TH X.2.2 ∧ T.1 ≤ X.2.2.1 ∧ X.2.1.2.2.1 = S.1 ∧ TSt X.2.2.1 S.1 S.2.1 X.2.1.2.2.2.1 ∧ TLo X.2.2.1 S.2.2 X.2.1.2.2.2.2.1 ∧ (∀ t, X.2.2.1 ≤ t → t < 60 → X.2.1.2.2.2.2.2 t = 0) ∧ sm 60 X.2.1.2.2.2.2.2 ≤ sm 60 hn + 1 ∧ (X.2.1.2.1, S) ∈ j_on P m i S
section IV
variable {P : Pg} {m i d : Nat} {s l : Nat → Int64} {hn : Nat → Nat} {T : Th} {σ lk : Nat → Nat} {e op : Nat} {A B : Int32}
theorem jon_nx (hop : p_op P m i = op) (h : op ≠ 20 ∧ op ≠ 23 ∧ op ≠ 31 ∧ op ≠ 34) (S : Sh) : (i + 1, S) ∈ j_on P m i S := by
  unfold j_on
  rw [hop, if_neg h.2.1]
  rw [List.mem_append]
  right
  have : j_nx op = true := decide_eq_true h
  rw [if_pos this]
  exact List.mem_singleton.mpr rfl
theorem jon_go (hop : p_op P m i = op) (hA : p_A P m i = A) (h : op = 20 ∨ op = 21 ∨ op = 22) (S : Sh) : (cN A, S) ∈ j_on P m i S := by
  unfold j_on
  rw [hop, hA, if_neg (by omega), List.mem_append]
  left
  rw [if_pos h]
  exact List.mem_singleton.mpr rfl
theorem jon_tab (hop : p_op P m i = 23) (hA : p_A P m i = A) (S : Sh) (x : Int32) : (p_key P (cN A) x, S) ∈ j_on P m i S := by
  unfold j_on
  rw [hop, hA, if_pos rfl, List.mem_append]
  unfold p_key
  cases hf : (List.range (p_ne P (cN A))).find? (fun e => decide (p_ky P (cN A) e = x)) with
  | none => right; exact List.mem_singleton.mpr rfl
  | some k =>
    left
    exact List.mem_map.mpr ⟨k, List.mem_of_find?_eq_some hf, rfl⟩
/-- a value is given -/
theorem xw_ok (h1 : ¬ (8 ≤ op ∧ op ≤ 16)) (h6 : ¬ op = 6) (he : e = d - tkW (j_tk P op (cN A) (cN B))) (ts : TSt T.1 d σ s) (tl : TLo T.1 lk l) {v : Int64} {hn' : Nat → Nat} {nx : Nat} {T' : Th} (hv : j_pt P op (cN A) (cN B) = 5 ∨ Ty T'.1 (j_pt P op (cN A) (cN B)) v) (th' : TH T') (hT : T.1 ≤ T'.1) (hz : ∀ t, T'.1 ≤ t → t < 60 → hn' t = 0) (hs : sm 60 hn' ≤ sm 60 hn + 1) (hj : ∀ S, (nx, S) ∈ j_on P m i S) : OkT P m i T hn (j_put P op (cN A) (cN B) e σ lk) (xw m (d - tkW (j_tk P op (cN A) (cN B))) (j_pt P op (cN A) (cN B)) s l (xo v hn' nx T')) := by
  have ts' : TSt T'.1 e σ s := (ts.sub (by omega)).mono hT
  rw [← he]
  unfold OkT j_put xw xo
  dsimp only
  rw [if_neg h1, if_neg h6]
  by_cases c5 : j_pt P op (cN A) (cN B) = 5
  · rw [if_pos c5, if_pos c5, if_pos c5]
    exact ⟨th', hT, rfl, ts', tl.mono hT, hz, hs, hj _⟩
  · rw [if_neg c5, if_neg c5, if_neg c5]
    exact ⟨th', hT, rfl, tst_push ts' (hv.resolve_left c5), tl.mono hT, hz, hs, hj _⟩
theorem tk_hd {k : Nat} {ks : List Nat} {d0 : Nat} (hh : takeL σ (k :: ks) d0 = some e) : wd k ≤ d0 ∧ σ (d0 - wd k) = k ∧ takeL σ ks (d0 - wd k) = some e := by
  rw [takeL] at hh
  by_cases cc : wd k ≤ d0 ∧ σ (d0 - wd k) = k
  · rw [if_pos cc] at hh; exact ⟨cc.1, cc.2, hh⟩
  · rw [if_neg cc] at hh; cases hh
theorem xop_ok (hop : p_op P m i = op) (hA : p_A P m i = A) (th : TH T) (h34 : op < 34) (hod : j_od P op A B = true) (htk : j_take P op (cN A) (cN B) d σ = some e) (h57 : ¬ (op = 5 ∧ ¬ lk (cN A) = cN B ∨ op = 7 ∧ ¬ lk (cN A) = 0)) (hd : d ≤ 12) (ts : TSt T.1 d σ s) (tl : TLo T.1 lk l) (hz : ∀ t, T.1 ≤ t → t < 60 → hn t = 0) (hok : (x_op P op A B (m, i, d, s, l, hn) T).1 = none) : OkT P m i T hn (j_put P op (cN A) (cN B) e σ lk) (x_op P op A B (m, i, d, s, l, hn) T) := by
  have h60 := th.1
  by_cases c816 : 8 ≤ op ∧ op ≤ 16
  · have hm : mok op d σ = true ∧ e = d := by
      unfold j_take at htk
      rw [if_pos c816] at htk
      by_cases z : mok op d σ = true
      · rw [if_pos z] at htk
        injection htk with htk
        exact ⟨z, htk.symm⟩
      · rw [if_neg z] at htk; cases htk
    have hu := (of_decide_eq_true hm.1).1
    rw [hm.2]
    unfold x_op j_put OkT
    rw [if_pos c816, if_pos c816]
    exact ⟨th, Nat.le_refl _, rfl, tst_move c816.1 c816.2 hu ts, tl, hz, Nat.le_succ _, jon_nx hop (by omega) _⟩
  · have htk : takeL σ (j_tk P op (cN A) (cN B)) d = some e := by
      unfold j_take at htk
      rw [if_neg c816] at htk
      exact htk
    obtain ⟨k1, k2⟩ := tkL _ htk
    by_cases c6 : op = 6
    · subst c6
      have h1 : (wi B 5 && wi A (17 - wd (cN B))) = true := hod
      rw [Bool.and_eq_true] at h1
      obtain ⟨b, hb, rfl, ecb⟩ := wi_ex (by decide) h1.1
      have hw := wd_le b
      rw [ecb] at h1 htk k1 k2 ⊢
      obtain ⟨a, ha, rfl, eca⟩ := wi_ex (by omega) h1.2
      have ej : ∀ x, j_tk P 6 x b = [b] := fun _ => rfl
      rw [ej] at htk k1 k2
      rw [tkW_1] at k1 k2
      obtain ⟨g1, g2, -⟩ := tk_hd htk
      subst k2
      unfold x_op j_put OkT
      rw [if_neg (by omega), if_pos rfl, if_neg (by omega), if_pos rfl, ecb, eca]
      refine ⟨th, Nat.le_refl _, rfl, ts.sub (by omega), fun j hj => ?_, hz, Nat.le_succ _, jon_nx hop (by omega) _⟩
      dsimp only
      rcases dh_or (wrl lk a b) j with y | y
      · rw [y]; exact ty_x (by decide) (by decide) (by decide)
      · rw [y]
        have tv : Ty T.1 b (s (d - wd b)) := by
          have := ts (d - wd b) (by omega)
          rw [g2] at this
          exact this
        unfold wrl
        by_cases w2 : wd b = 2
        · rw [if_pos w2]
          by_cases ja : j = a + 1
          · subst ja
            rw [va_s]
            unfold en
            split <;> exact ty_x (by decide) (by decide) (by decide)
          · rw [va_n _ _ ja]
            by_cases jb : j = a
            · subst jb
              rw [va_s]
              have : vp_updL l j (s (d - wd b)) j = s (d - wd b) := if_pos rfl
              rw [this]; exact tv
            · rw [va_n _ _ jb]
              have : vp_updL l a (s (d - wd b)) j = l j := if_neg jb
              rw [this]; exact tl j hj
        · rw [if_neg w2]
          by_cases jb : j = a
          · subst jb
            rw [va_s]
            have : vp_updL l j (s (d - wd b)) j = s (d - wd b) := if_pos rfl
            rw [this]; exact tv
          · rw [va_n _ _ jb]
            have : vp_updL l a (s (d - wd b)) j = l j := if_neg jb
            rw [this]; exact tl j hj
    · by_cases c7 : op = 7
      · subst c7
        have h1 : wi A 16 = true := hod
        obtain ⟨a, ha, rfl, eca⟩ := wi_ex (by decide) h1
        have l0 : lk a = 0 := by
          by_cases z : lk a = 0
          · exact z
          · exact absurd (Or.inr ⟨rfl, by rw [eca]; exact z⟩) h57
        have ek : e = d := by rw [k2]; rfl
        subst ek
        have ejp : j_put P 7 (cN (nI a)) (cN B) e σ lk = (e, σ, lk) := rfl
        rw [ejp]
        unfold x_op OkT
        rw [if_neg (by omega), if_neg (by omega), if_pos rfl, eca]
        refine ⟨th, Nat.le_refl _, rfl, ts, fun j hj => ?_, hz, Nat.le_succ _, jon_nx hop (by omega) _⟩
        dsimp only
        by_cases jb : j = a
        · subst jb
          have : vp_updL l j (Int32.toInt64 ((l j).toInt32 + B)) j = Int32.toInt64 ((l j).toInt32 + B) := if_pos rfl
          rw [this, l0]; exact ty_i _ (by decide)
        · have : vp_updL l a (Int32.toInt64 ((l a).toInt32 + B)) j = l j := if_neg jb
          rw [this]; exact tl j hj
      · rw [xop_v c816 c6 c7] at hok ⊢
        have hok : (x_val P op A B d s l hn i T).1 = none := hok
        -- what gives a value and leaves things and monitors as they are
        have pl : ∀ v : Int64, x_val P op A B d s l hn i T = xo v hn (i + 1) T → (op ≠ 20 ∧ op ≠ 23 ∧ op ≠ 31 ∧ op ≠ 34) → Ty T.1 (j_pt P op (cN A) (cN B)) v → OkT P m i T hn (j_put P op (cN A) (cN B) e σ lk) (xw m (d - tkW (j_tk P op (cN A) (cN B))) (j_pt P op (cN A) (cN B)) s l (x_val P op A B d s l hn i T)) := by
          intro v hv hn4 hty
          rw [hv]
          exact xw_ok c816 c6 k2 ts tl (Or.inr hty) th (Nat.le_refl _) hz (Nat.le_succ _) (fun S => jon_nx hop hn4 S)
        by_cases c4 : op ≤ 4
        · have hp : j_pt P op (cN A) (cN B) = op := by unfold j_pt; rw [if_pos c4]
          unfold x_val at pl ⊢
          by_cases y1 : op = 1 ∨ op = 3
          · rw [if_pos y1] at pl ⊢
            exact pl _ rfl (by omega) (by rw [hp]; exact ty_x (by omega) (by omega) (by omega))
          · rw [if_neg y1] at pl ⊢
            by_cases y2 : op = 4
            · rw [if_pos y2] at pl ⊢
              exact pl _ rfl (by omega) (by rw [hp, y2]; exact ty_m)
            · rw [if_neg y2, if_pos (by omega)] at pl ⊢
              exact pl _ rfl (by omega) (by rw [hp]; exact ty_i _ y2)
        · by_cases c5 : op = 5
          · subst c5
            have h1 : (wi B 5 && wi A (17 - wd (cN B))) = true := hod
            rw [Bool.and_eq_true] at h1
            have hw := wd_le (cN B)
            obtain ⟨a, ha, ea, eca⟩ := wi_ex (by omega) h1.2
            have hl : lk (cN A) = cN B := by
              by_cases z : lk (cN A) = cN B
              · exact z
              · exact absurd (Or.inl ⟨rfl, z⟩) h57
            refine pl (l (cN A)) rfl (by omega) ?_
            show Ty T.1 (cN B) (l (cN A))
            rw [← hl]
            exact tl (cN A) (by omega)
          · by_cases c20 : op < 20
            · rcases (show op = 17 ∨ op = 18 ∨ op = 19 by omega) with rfl | rfl | rfl
              · have h1 : (wi A 12 && wi B 2) = true := hod
                rw [Bool.and_eq_true] at h1
                obtain ⟨b, hb, eb, ecb⟩ := wi_ex (by decide) h1.2
                have hp : j_pt P 17 (cN A) (cN B) = cN B := rfl
                have hv : x_val P 17 A B d s l hn i T = x_num 17 (cN A) (cN B) d s hn i T := rfl
                have tyv : ∀ (x : Int64) (y : Int32), Ty T.1 (cN B) (if cN B = 1 then x else Int32.toInt64 y) := by
                  intro x y
                  by_cases z : cN B = 1
                  · rw [if_pos z, z]; exact ty_x (by decide) (by decide) (by decide)
                  · rw [if_neg z]; exact ty_i _ (by omega)
                rw [hv] at hok pl ⊢
                rw [hp] at pl ⊢
                unfold x_num at hok pl ⊢
                rw [if_pos rfl] at hok pl ⊢
                by_cases z1 : (cN A = 3 ∨ cN A = 4) ∧ s (d - wd (cN B)) = 0
                · rw [if_pos z1] at hok; cases hok
                · rw [if_neg z1] at pl ⊢
                  by_cases z2 : cN A = 11
                  · rw [if_pos z2] at pl ⊢
                    exact pl _ rfl (by omega) (tyv _ _)
                  · rw [if_neg z2] at pl ⊢
                    by_cases z3 : cN A < 8
                    · rw [if_pos z3] at pl ⊢
                      exact pl _ rfl (by omega) (tyv _ _)
                    · rw [if_neg z3] at pl ⊢
                      exact pl _ rfl (by omega) (tyv _ _)
              · refine pl (c_cnv (cN A) (s (d - wd (if cN A = 3 then 1 else 0)))) rfl (by omega) ?_
                show Ty T.1 (if cN A = 4 then 1 else 0) _
                unfold c_cnv
                by_cases z : cN A = 4
                · rw [if_pos z, if_pos z]; exact ty_x (by decide) (by decide) (by decide)
                · rw [if_neg z, if_neg z]
                  by_cases z2 : cN A = 3
                  · rw [if_pos z2]; exact ty_i _ (by decide)
                  · rw [if_neg z2]; exact ty_i _ (by decide)
              · exact pl _ rfl (by omega) (ty_i _ (by show 0 ≠ 4; decide))
            · by_cases c24 : op < 24
              · have hv : x_val P op A B d s l hn i T = x_go P op (cN A) (cN B) d s hn i T := by
                  unfold x_val
                  rw [if_neg (by omega), if_neg (by omega), if_neg (by omega), if_neg (by omega), if_neg (by omega), if_pos c24]
                have hp : j_pt P op (cN A) (cN B) = 5 := by
                  rcases (show op = 20 ∨ op = 21 ∨ op = 22 ∨ op = 23 by omega) with rfl | rfl | rfl | rfl <;> rfl
                rw [hv]
                unfold x_go
                refine xw_ok c816 c6 k2 ts tl (Or.inl hp) th (Nat.le_refl _) hz (Nat.le_succ _) (fun S => ?_)
                by_cases y0 : op = 20
                · rw [if_pos y0]; exact jon_go hop hA (Or.inl y0) S
                · rw [if_neg y0]
                  by_cases y1 : op = 21
                  · rw [if_pos y1]
                    split
                    · exact jon_go hop hA (Or.inr (Or.inl y1)) S
                    · exact jon_nx hop (by omega) S
                  · rw [if_neg y1]
                    by_cases y2 : op = 22
                    · rw [if_pos y2]
                      split
                      · exact jon_go hop hA (Or.inr (Or.inr y2)) S
                      · exact jon_nx hop (by omega) S
                    · rw [if_neg y2]
                      have y3 : op = 23 := by omega
                      subst y3
                      exact jon_tab hop hA S _
              · by_cases c30 : op < 30
                · have hv : x_val P op A B d s l hn i T = x_arr op A (cN B) d s hn i T := by
                    unfold x_val
                    rw [if_neg (by omega), if_neg (by omega), if_neg (by omega), if_neg (by omega), if_neg (by omega), if_neg c24, if_pos c30]
                  rw [hv] at hok pl ⊢
                  rcases (show op = 24 ∨ op = 25 ∨ op = 26 ∨ op = 27 ∨ op = 28 ∨ op = 29 by omega) with rfl | rfl | rfl | rfl | rfl | rfl
                  · have ho : (ity A && decide (1 ≤ B.toInt ∧ B.toInt ≤ A.toInt / 8)) = true := hod
                    rw [Bool.and_eq_true, decide_eq_true_eq] at ho
                    unfold ity at ho
                    rw [decide_eq_true_eq] at ho
                    obtain ⟨⟨y1, y2, y3⟩, y4, y5⟩ := ho
                    obtain ⟨y, hy, rfl⟩ := nI_lt_of (x := A) (n := 32) (by decide) (by omega) (by omega)
                    rw [nI_tI (by omega)] at y1 y5
                    obtain ⟨b, hb, rfl⟩ := nI_lt_of (x := B) (n := 4) (by decide) (by omega) (by omega)
                    rw [nI_tI (by omega)] at y4 y5
                    have y8 : ¬ y % 8 = 4 := fun z => y3 (by rw [nl_8, pk_rem (by omega) (by decide) (by decide), z]; rfl)
                    rw [cN_n (show b < 2 ^ 31 by omega)] at hok ⊢
                    unfold x_arr at hok ⊢
                    rw [if_pos rfl] at hok ⊢
                    by_cases g1 : ngs s d b = true
                    · rw [if_pos g1] at hok; cases hok
                    · rw [if_neg g1] at hok ⊢
                      by_cases g2 : room T.1 (szs s d b) = true
                      · rw [if_pos g2] at hok ⊢
                        have g2 := g2
                        unfold room at g2
                        rw [Bool.and_eq_true, decide_eq_true_eq] at g2
                        have hlen : (szs s d b).length = b := by unfold szs; simp
                        have hcn := mk_R_n (szs s d b) y T (by omega)
                        have hty := mk_R_t (szs s d b) y T th (by omega) hy y8 g2.1 g2.2
                        have hpos : 0 < cnt (szs s d b) := by
                          cases hzs : szs s d b with
                          | nil => rw [hzs] at hlen; simp at hlen; omega
                          | cons z zs => rw [cnt]; omega
                        have hb0 : cN (nI b) = b := cN_n (by omega)
                        rw [cN_n (show y < 2 ^ 31 by omega)]
                        have hx := xw_ok (P := P) (m := m) (i := i) (op := 24) (A := nI y) (B := nI b) (v := lN T.1) (hn := hn) (hn' := hn) (nx := i + 1) (T' := (mk_R (szs s d b) y T).1) c816 c6 k2 ts tl (Or.inr (by show Ty _ 4 _; exact ty_t (by omega))) hty.1 (by omega) (fun t h1 h2 => hz t (by omega) h2) (Nat.le_succ _) (fun S => jon_nx hop (by omega) S)
                        rw [cN_n (show y < 2 ^ 31 by omega), hb0] at hx
                        exact hx
                      · rw [if_neg g2] at hok; cases hok
                  · have ho : wi B 8 = true := hod
                    obtain ⟨b, hb, eb, ecb⟩ := wi_ex (by decide) ho
                    have htk : takeL σ [0, 4] d = some e := htk
                    obtain ⟨a1, a2, a3⟩ := tk_hd htk
                    obtain ⟨b1, b2, b3⟩ := tk_hd a3
                    have w0 : wd 0 = 1 := rfl
                    have w4 : wd 4 = 1 := rfl
                    have ty4 := ts (d - wd 0 - wd 4) (by omega)
                    rw [b2, show d - wd 0 - wd 4 = d - 2 by omega] at ty4
                    have tx := ty_4 h60 ty4
                    rw [ecb] at hok pl ⊢
                    unfold x_arr at hok pl ⊢
                    rw [if_neg (by decide), if_pos rfl] at hok pl ⊢
                    cases hr : refc T (s (d - 2)).toInt32 (s (d - 1)).toInt32 b with
                    | some f => rw [hr] at hok; cases hok
                    | none =>
                      rw [hr] at pl
                      obtain ⟨z1, z2, z3, z4⟩ := refc_no hr
                      rcases tx with tx | ⟨t, ht, et⟩
                      · exact absurd tx z1
                      · refine pl _ rfl (by omega) ?_
                        rw [et, cN_n (by omega)] at z3 z4 ⊢
                        have := (th.2 t ht).1
                        obtain ⟨k, hk, ek, eck⟩ := wi_ex (by omega) z4
                        have tyc := (th.2 t ht).2.2 k hk
                        rw [eck]
                        have : tkd (T.2.1 t) = kcl b := by unfold tkd; rw [z3, cN_n (by omega)]
                        rw [this] at tyc
                        exact tyc
                  · have ho : wi B 8 = true := hod
                    obtain ⟨b, hb, eb, ecb⟩ := wi_ex (by decide) ho
                    rw [ecb] at htk
                    have htk : takeL σ [kcl b, 0, 4] d = some e := htk
                    obtain ⟨a1, a2, a3⟩ := tk_hd htk
                    obtain ⟨b1, b2, b3⟩ := tk_hd a3
                    obtain ⟨c1, c2, c3⟩ := tk_hd b3
                    have w0 : wd 0 = 1 := rfl
                    have w4 : wd 4 = 1 := rfl
                    have hw := wd_le (kcl b)
                    have ty4 := ts (d - wd (kcl b) - wd 0 - wd 4) (by omega)
                    rw [c2, show d - wd (kcl b) - wd 0 - wd 4 = d - wd (kcl b) - 2 by omega] at ty4
                    have tx := ty_4 h60 ty4
                    have tyv := ts (d - wd (kcl b)) (by omega)
                    rw [a2] at tyv
                    rw [ecb] at hok ⊢
                    rw [ecb] at k2
                    have ex : x_arr 26 A b d s hn i T = x_put b (s (d - wd (kcl b))) (s (d - wd (kcl b) - 1)).toInt32 (s (d - wd (kcl b) - 2)).toInt32 hn i T := rfl
                    rw [ex] at hok ⊢
                    unfold x_put at hok ⊢
                    cases hr : refc T (s (d - wd (kcl b) - 2)).toInt32 (s (d - wd (kcl b) - 1)).toInt32 b with
                    | some f => rw [hr] at hok; cases hok
                    | none =>
                      rw [hr] at hok
                      dsimp only at hok ⊢
                      by_cases g1 : b = 4 ∧ ¬ ((s (d - wd (kcl b))).toInt32 = -1 ∨ T.2.1 (cN (s (d - wd (kcl b))).toInt32) = T.2.1 (cN (s (d - wd (kcl b) - 2)).toInt32) - 8)
                      · rw [if_pos g1] at hok; cases hok
                      · rw [if_neg g1]
                        obtain ⟨z1, z2, z3, z4⟩ := refc_no hr
                        rcases tx with tx | ⟨t, ht, et⟩
                        · exact absurd tx z1
                        · rw [et, cN_n (by omega)] at z3 ⊢
                          have htk' : tkd (T.2.1 t) = kcl b := by unfold tkd; rw [z3, cN_n (by omega)]
                          have hw2 : TH (wrC T t (cN (s (d - wd (kcl b) - 1)).toInt32) (if b < 5 then s (d - wd (kcl b)) else Int32.toInt64 (c_nar b (s (d - wd (kcl b))).toInt32))) := by
                            refine th.wr ht ?_
                            rw [htk']
                            by_cases b5 : b < 5
                            · rw [if_pos b5]; exact tyv
                            · rw [if_neg b5]
                              have : kcl b = 0 := by unfold kcl; rw [if_pos (by omega)]
                              rw [this]; exact ty_i _ (by decide)
                          have hx := xw_ok (P := P) (m := m) (i := i) (op := 26) (A := A) (B := B) (v := 0) (hn := hn) (hn' := hn) (nx := i + 1) (e := e) (T' := wrC T t (cN (s (d - wd (kcl b) - 1)).toInt32) (if b < 5 then s (d - wd (kcl b)) else Int32.toInt64 (c_nar b (s (d - wd (kcl b))).toInt32))) c816 c6 (ecb.symm ▸ k2) ts tl (Or.inl rfl) hw2 (Nat.le_refl _) hz (Nat.le_succ _) (fun S => jon_nx hop (by omega) S)
                          rw [ecb] at hx
                          exact hx
                  · unfold x_arr at hok pl ⊢
                    rw [if_neg (by decide), if_neg (by decide), if_neg (by decide), if_pos rfl] at hok pl ⊢
                    by_cases g1 : (s (d - 1)).toInt32 = -1
                    · rw [if_pos g1] at hok; cases hok
                    · rw [if_neg g1] at hok pl ⊢
                      by_cases g2 : T.2.1 (cN (s (d - 1)).toInt32) < 0
                      · rw [if_pos g2] at hok; cases hok
                      · rw [if_neg g2] at pl ⊢
                        have htk : takeL σ [4] d = some e := htk
                        obtain ⟨a1, a2, a3⟩ := tk_hd htk
                        have w4 : wd 4 = 1 := rfl
                        have ty4 := ts (d - wd 4) (by omega)
                        rw [a2, w4] at ty4
                        rcases ty_4 h60 ty4 with tx | ⟨t, ht, et⟩
                        · exact absurd tx g1
                        · have := (th.2 t ht).1
                          refine pl _ rfl (by omega) (ty_l ?_ (by show 0 ≠ 4; decide))
                          rw [et, cN_n (by omega)]; omega
                  · unfold x_arr at hok pl ⊢
                    rw [if_neg (by decide), if_neg (by decide), if_neg (by decide), if_neg (by decide), if_pos rfl] at hok pl ⊢
                    refine pl _ rfl (by omega) ?_
                    show Ty T.1 0 _
                    split
                    · exact ty_l (j := 1) (by decide) (by decide)
                    · exact ty_l (j := 0) (by decide) (by decide)
                  · unfold x_arr at hok pl ⊢
                    rw [if_neg (by decide), if_neg (by decide), if_neg (by decide), if_neg (by decide), if_neg (by decide)] at hok pl ⊢
                    by_cases g1 : (s (d - 1)).toInt32 = -1 ∨ T.2.1 (cN (s (d - 1)).toInt32) = A
                    · rw [if_pos g1] at pl ⊢
                      refine pl _ rfl (by omega) ?_
                      show Ty T.1 4 _
                      have htk : takeL σ [4] d = some e := htk
                      obtain ⟨a1, a2, a3⟩ := tk_hd htk
                      have w4 : wd 4 = 1 := rfl
                      have ty4 := ts (d - wd 4) (by omega)
                      rw [a2, w4] at ty4
                      rcases ty4.2 rfl with tx | ⟨t, ht, et⟩
                      · rw [tx]; exact ty_m
                      · rw [et, lN_32 (by omega), nI_l8 (by omega)]; exact ty_t ht
                    · rw [if_neg g1] at hok; cases hok
                · have hv : x_val P op A B d s l hn i T = x_fm op A d s hn i T := by
                    unfold x_val
                    rw [if_neg (by omega), if_neg (by omega), if_neg (by omega), if_neg (by omega), if_neg (by omega), if_neg c24, if_neg c30]
                  rw [hv] at hok ⊢
                  by_cases y0 : op = 30
                  · subst y0
                    unfold x_fm at hok ⊢
                    rw [if_pos rfl] at hok ⊢
                    by_cases g1 : T.1 = 60
                    · rw [if_pos g1] at hok; cases hok
                    · rw [if_neg g1]
                      have ho : wi A 16 = true := hod
                      obtain ⟨a, ha, rfl, eca⟩ := wi_ex (by decide) ho
                      exact xw_ok c816 c6 k2 ts tl (Or.inr (by show Ty _ 4 _; exact ty_t (by show T.1 < T.1 + 1; omega))) (th.fail (by omega) ha) (by show T.1 ≤ T.1 + 1; omega) (fun t h1 h2 => hz t (by have h1 : T.1 + 1 ≤ t := h1; omega) h2) (Nat.le_succ _) (fun S => jon_nx hop (by omega) S)
                  · have e4 : j_tk P op (cN A) (cN B) = [4] := by
                      rcases (show op = 31 ∨ op = 32 ∨ op = 33 by omega) with rfl | rfl | rfl <;> rfl
                    have hp : j_pt P op (cN A) (cN B) = 5 := by
                      rcases (show op = 31 ∨ op = 32 ∨ op = 33 by omega) with rfl | rfl | rfl <;> rfl
                    rw [e4] at htk
                    obtain ⟨a1, a2, a3⟩ := tk_hd htk
                    have w4 : wd 4 = 1 := rfl
                    have ty4 := ts (d - wd 4) (by omega)
                    rw [a2, w4] at ty4
                    unfold x_fm at hok ⊢
                    rw [if_neg y0] at hok ⊢
                    rcases ty_4 h60 ty4 with tx | ⟨t, ht, et⟩
                    · rw [if_pos tx] at hok; cases hok
                    · have m1 : ¬ (s (d - 1)).toInt32 = -1 := by rw [et]; exact nI_nm1 (by omega)
                      rw [if_neg m1] at hok ⊢
                      rw [et, cN_n (by omega)] at hok ⊢
                      have hge := sm_ge (f := hn) (show t < 60 by omega)
                      by_cases y1 : op = 31
                      · rw [if_pos y1] at hok
                        split at hok <;> cases hok
                      · rw [if_neg y1] at hok ⊢
                        by_cases y2 : op = 32
                        · rw [if_pos y2]
                          have := sm_up (n := 60) (f := hn) (t := t) (v := hn t + 1) (by omega)
                          refine xw_ok c816 c6 k2 ts tl (Or.inl hp) th (Nat.le_refl _) (fun a h1 h2 => ?_) (by omega) (fun S => jon_nx hop (by omega) S)
                          have h1 : T.1 ≤ a := h1
                          rw [va_n _ _ (by omega)]; exact hz a h1 h2
                        · rw [if_neg y2] at hok ⊢
                          by_cases y3 : hn t = 0
                          · rw [if_pos y3] at hok; cases hok
                          · rw [if_neg y3]
                            have := sm_up (n := 60) (f := hn) (t := t) (v := hn t - 1) (by omega)
                            refine xw_ok c816 c6 k2 ts tl (Or.inl hp) th (Nat.le_refl _) (fun a h1 h2 => ?_) (by omega) (fun S => jon_nx hop (by omega) S)
                            have h1 : T.1 ≤ a := h1
                            rw [va_n _ _ (by omega)]; exact hz a h1 h2
end IV
