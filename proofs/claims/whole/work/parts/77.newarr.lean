/-! the class: is there room, a new array -/
theorem il_lt {α : Type} {a b : Nat} (ha : a < 2 ^ 31) (hb : b < 2 ^ 31) {x y : α} : (if lN a < lN b then x else y) = if a < b then x else y := by
  by_cases c : a < b
  · rw [if_pos (by rw [i64_lt, lN_toInt ha, lN_toInt hb]; omega), if_pos c]
  · rw [if_neg (by rw [i64_lt, lN_toInt ha, lN_toInt hb]; omega), if_neg c]
def okR (R : Nat) (zs : List Nat) : Bool := decide (R = 0) || okz zs
section HR
variable {o n : Nat} {L : Nat → Nat}
theorem hr_12 {h : Hp} (hn3 : n ≤ 3) (t21 : hT h (o + 21) = some (.inr (.int, 3))) (lt : ∀ j, j < n → hI h (o + 21) j = nI (L j)) (hL : ∀ j, j < n → L j < 2 ^ 31) : ∀ (f lv R A : Nat), lv ≤ n → n - lv < f → (lv = 0 → R ≤ 1) → (lv = 1 → R ≤ 100) → (lv = 2 → R ≤ 10000) → (lv = 3 → R ≤ 1000000) → A ≤ 60 + lv * 1000000 → BX8_haveRoom_12 f (some (o + 21)) (nI n) (lN R) (lN A) (nI lv) h = some (b2i (okR R (zsF L lv n) && decide (A + R * cnt (zsF L lv n) ≤ 60)), h) := by
  intro f
  induction f with
  | zero => intro lv R A h1 h2; omega
  | succ f ih =>
    intro lv R A h1 h2 r0 r1 r2 r3 hA
    have hR : R ≤ 1000000 := by
      rcases (show lv = 0 ∨ lv = 1 ∨ lv = 2 ∨ lv = 3 by omega) with z | z | z | z
      · have := r0 z; omega
      · have := r1 z; omega
      · have := r2 z; omega
      · exact r3 z
    unfold BX8_haveRoom_12
    rw [if_lt (by omega) (by omega)]
    by_cases c : lv < n
    · have e3 : Int32.ofNat 3 = nI 3 := rfl
      have hl := lt lv c
      have hl2 := hL lv c
      rw [if_pos c, ln_ok t21, e3, if_lt (by omega) (by decide), if_pos (by omega), show (0 : Int64) = lN 0 from rfl, il_lt (by omega) (by omega), zsF_s c, cnt]
      have step : R * L lv ≤ R * 100 → BX8_haveRoom_42 (BX8_haveRoom_12 f) (some (o + 21)) (nI n) (lN R) (lN A) (nI lv) h = some (b2i (okR (R * L lv) (zsF L (lv + 1) n) && decide (A + R + R * L lv * cnt (zsF L (lv + 1) n) ≤ 60)), h) := by
        intro hz
        unfold BX8_haveRoom_42
        rw [aI_n t21 (by omega) (by decide), hl, nI_l8 hl2, lN_mul, lN_add, nI_1]
        exact ih (lv + 1) (R * L lv) (A + R) (by omega) (by omega) (fun z => by omega) (fun z => by have := r0 (by omega); omega) (fun z => by have := r1 (by omega); omega) (fun z => by have := r2 (by omega); omega) (by omega)
      by_cases c0 : 0 < R
      · rw [if_pos c0, aI_n t21 (by omega) (by decide), hl, nl_100, if_lt (by decide) hl2]
        by_cases c1 : 100 < L lv
        · rw [if_pos c1]
          have : (okR R (L lv :: zsF L (lv + 1) n)) = false := by
            unfold okR
            rw [okz, decide_eq_false (show ¬ R = 0 by omega), decide_eq_false (show ¬ L lv ≤ 100 by omega)]; rfl
          rw [this]; rfl
        · rw [if_neg c1, step (Nat.mul_le_mul_left R (by omega))]
          have e1 : okR R (L lv :: zsF L (lv + 1) n) = okR (R * L lv) (zsF L (lv + 1) n) := by
            unfold okR
            rw [okz, decide_eq_false (show ¬ R = 0 by omega), decide_eq_true (show L lv ≤ 100 by omega), Bool.false_or, Bool.true_and]
            congr 1
            apply decide_eq_decide.mpr
            constructor
            · intro z; rw [z, Nat.mul_zero]
            · intro z
              rcases Nat.mul_eq_zero.mp z with z | z
              · omega
              · exact z
          have e2 : A + R * (1 + L lv * cnt (zsF L (lv + 1) n)) = A + R + R * L lv * cnt (zsF L (lv + 1) n) := by
            rw [Nat.mul_add, Nat.mul_one, Nat.mul_assoc, Nat.add_assoc]
          rw [e1, e2]
      · have : R = 0 := by omega
        subst this
        rw [if_neg c0, step (by omega)]
        unfold okR
        simp only [Nat.zero_mul, Nat.add_zero, decide_true, Bool.true_or]
    · have e : lv = n := by omega
      subst e
      rw [if_neg c, zsF_e]
      have e1 : okR R [] = true := by unfold okR; rw [okz, Bool.or_true]
      have e2 : A + R * cnt [] = A := by show A + R * 0 = A; omega
      unfold BX8_haveRoom_62
      rw [show (60 : Int64) = lN 60 from rfl, il_lt (by decide) (by omega), e1, Bool.true_and]
      by_cases c2 : 60 < A
      · rw [if_pos c2, decide_eq_false (by rw [e2]; omega)]; rfl
      · rw [if_neg c2, decide_eq_true (by rw [e2]; omega)]; rfl
theorem f_room {h : Hp} {T : Th} {U : Nat → Nat → Prop} (wt : WT (hT h) (hR h) o) (v : TV h o T U) (hn3 : n ≤ 3) (lt : ∀ j, j < n → hI h (o + 21) j = nI (L j)) (hL : ∀ j, j < n → L j < 2 ^ 31) : FX8_haveRoom (some (o + 15)) (some (o + 21)) (nI n) h = some (b2i (room T.1 (zsF L 0 n)), h) := by
  have n60 := v.1.2
  unfold FX8_haveRoom
  rw [gI_ok wt.2.1.1, v.1.1, nI_l8 (by omega), show (1 : Int64) = lN 1 from rfl, nI_c0, hr_12 hn3 wt.2.2.2.1.2 lt hL 100000 0 1 T.1 (by omega) (by omega) (fun _ => by omega) (fun z => by omega) (fun z => by omega) (fun z => by omega) (by omega), Nat.one_mul]
  rfl
end HR
def ngF (s : Nat → Int64) (D b j : Nat) : Bool := (List.range' j (b - j)).any (fun i => decide ((s (D + i)).toInt32 < 0))
theorem ngF_e {s : Nat → Int64} {D b : Nat} : ngF s D b b = false := by unfold ngF; rw [Nat.sub_self]; rfl
theorem ngF_s {s : Nat → Int64} {D b j : Nat} (h : j < b) : ngF s D b j = (decide ((s (D + j)).toInt32 < 0) || ngF s D b (j + 1)) := by
  unfold ngF
  rw [show b - j = (b - (j + 1)) + 1 by omega, List.range'_succ, List.any_cons]
theorem ngF_0 {s : Nat → Int64} {d b : Nat} : ngF s (d - b) b 0 = ngs s d b := by
  unfold ngF ngs
  rw [List.range_eq_range', Nat.sub_zero]
theorem zsF_0 {s : Nat → Int64} {d b : Nat} : zsF (fun j => cN (s (d - b + j)).toInt32) 0 b = szs s d b := by
  unfold zsF szs
  rw [List.range_eq_range', Nat.sub_zero]
theorem b2i_o1 (b : Bool) : b2i b ||| 1 = 1 := by cases b <;> decide
theorem b2i_o0 (b : Bool) : b2i b ||| 0 = b2i b := by cases b <;> decide
theorem i32_nn {x : Int32} (h : ¬ x < 0) : x = nI (cN x) ∧ cN x < 2 ^ 31 := by
  rw [i32_lt, i32_0] at h
  have e : cN x = x.toInt.toNat := rfl
  have hlt := Int32.toInt_lt x
  refine ⟨?_, by rw [e]; omega⟩
  rw [i32_eq, nI_tI (by rw [e]; omega), e]
  omega
/-- addresses of a call's stack, its array of sizes, things -/
def AN (o c : Nat) : Nat → Prop := fun b => (o + 15 ≤ b ∧ b ≤ o + 19) ∨ b = o + 21 ∨ b = o + 23 + 5 * c ∨ b = o + 24 + 5 * c
/-- what a new array leaves -/
def NaR (o c D : Nat) (s : Nat → Int64) (h : Hp) (X : Xr) : Int32 → Hp → Prop := fun r g => Fr (AN o c) h g ∧ TV g o X.2.2.2.2 U0 ∧ (match X.1 with
  | some f => r = nI f.1 ∧ f.2 = none ∧ ∃ d' s', Wv g (o + 23 + 5 * c) (o + 24 + 5 * c) d' s'
  | none => r = -1 ∧ Wv g (o + 23 + 5 * c) (o + 24 + 5 * c) (D + 1) (vp_updL s D X.2.1))
theorem na_12 {o c D b y : Nat} {s : Nat → Int64} {T : Th} {hn : Nat → Nat} {i : Nat} (hb : 1 ≤ b) (hb3 : b ≤ 3) (hy : 8 * b ≤ y) (hy2 : y < 32) (hy4 : ¬ y % 8 = 4) (hD : D + b ≤ 12) :
    ∀ (f j : Nat) (h : Hp), j ≤ b → j < f → WT (hT h) (hR h) o → TV h o T U0 → Wv h (o + 23 + 5 * c) (o + 24 + 5 * c) (D + j) s → (∀ k, j ≤ k → k < b → hI h (o + 21) k = (s (D + k)).toInt32) →
      Ok (BX9_newArray_12 f (some (o + 14)) (some (o + 23 + 5 * c)) (nI y) (nI b) (b2i (ngF s D b j)) (nI j + (-1)) h) (NaR o c D s h (if ngF s D b 0 = true then xf 4 hn i T else if room T.1 (zsF (fun k => cN (s (D + k)).toInt32) 0 b) = true then xo (lN T.1) hn (i + 1) (mk_R (zsF (fun k => cN (s (D + k)).toInt32) 0 b) y T).1 else xf 7 hn i T)) := by
  intro f
  induction f with
  | zero => intro j h h1 h2; omega
  | succ f ih =>
    intro j h h1 h2 wt tv wv lt
    have t14 := wt.1.1
    have r15 := wt.1.2.2.1
    have r21 := wt.1.2.2.2.2
    have t21 := wt.2.2.2.1.2
    unfold BX9_newArray_12
    cases j with
    | zero =>
      have e0 : nI 0 + (-1) < 0 := by decide
      rw [if_pos e0]
      cases hg : ngF s D b 0 with
      | true =>
        rw [if_neg (by decide), if_pos rfl]
        exact ok_some ⟨Fr.refl _ _, tv, rfl, rfl, _, _, wv⟩
      | false =>
        rw [if_pos (by decide), if_neg (by decide), gR_ok t14, r15, gR_ok t14, r21, rcv_ok wt.2.1.1]
        have hpos : ∀ k, k < b → ¬ (s (D + k)).toInt32 < 0 := fun k hk z => by
          unfold ngF at hg
          rw [Nat.sub_zero, ← Bool.not_eq_true, List.any_eq_true] at hg
          exact hg ⟨k, by rw [List.mem_range'_1]; omega, decide_eq_true z⟩
        have lt' : ∀ k, k < b → hI h (o + 21) k = nI ((fun k => cN (s (D + k)).toInt32) k) := fun k hk => by
          rw [lt k (by omega) hk]; exact (i32_nn (hpos k hk)).1
        rw [f_room wt tv hb3 lt' (fun k hk => (i32_nn (hpos k hk)).2), cl_ok, b2i_if]
        cases hr : room T.1 (zsF (fun k => cN (s (D + k)).toInt32) 0 b) with
        | false =>
          rw [if_neg (by decide), if_neg (by decide)]
          exact ok_some ⟨Fr.refl _ _, tv, rfl, rfl, _, _, wv⟩
        | true =>
          rw [if_pos rfl, if_pos rfl, gR_ok t14, r15, gR_ok t14, r21]
          unfold room at hr
          rw [Bool.and_eq_true, decide_eq_true_eq] at hr
          rw [nI_c0]
          refine ok_cl (f_mk hb3 6 0 y h T U0 (by omega) (by omega) (by omega) hy2 hy4 wt tv (fun _ _ z => z.elim) lt' hr.1 hr.2) (fun r g q => ?_)
          obtain ⟨q1, q2, q3⟩ := q
          have wv1 : Wv g (o + 23 + 5 * c) (o + 24 + 5 * c) D s := wv.fr q3 (by unfold AT; omega) (by unfold AT; omega)
          rw [rcv_ok wv1.1, q1]
          refine ok_cl (k_push wv1 _ (by omega)) (fun _ g2 p => ok_some ?_)
          have hv : (mk_R (zsF (fun k => cN (s (D + k)).toInt32) 0 b) y T).2 = lN T.1 := by rw [zsF_s (by omega)]; rfl
          rw [hv] at p
          refine ⟨(q3.mono (fun x z => by unfold AT at z; unfold AN; omega)).trans (p.2.mono (fun x z => by unfold Aw at z; unfold AN; omega)), ?_, rfl, p.1⟩
          exact q2.fr p.2 (fun x h1 h2 => by unfold Aw; omega)
    | succ m =>
      rw [pk_m1, if_neg (nI_pos (by omega)), gR_ok t14, r21, rcv_ok wv.1]
      refine ok_cl (k_popInt wv) (fun r g q => ?_)
      obtain ⟨rfl, q2, q3⟩ := q
      have wg := wt.fr q3
      rw [sI_n wg.2.2.2.1.2 (by omega) (by decide)]
      have f2 : Fr (fun b => b = o + 21) g (wI g (o + 21) m (s (D + m)).toInt32) := Fr.wI rfl
      have e21 : hI (wI g (o + 21) m (s (D + m)).toInt32) (o + 21) m = (s (D + m)).toInt32 := hI_wI_s
      have ek : ∀ k, k ≠ m → hI (wI g (o + 21) m (s (D + m)).toInt32) (o + 21) k = hI g (o + 21) k := fun k hk => hI_wI_k hk
      generalize wI g (o + 21) m (s (D + m)).toInt32 = g1 at f2 e21 ek ⊢
      have w1 := wg.fr f2
      rw [gR_ok w1.1.1, w1.1.2.2.2.2, aI_n w1.2.2.2.1.2 (by omega) (by decide), e21]
      have tv1 : TV g1 o T U0 := (tv.fr q3 (fun x h1 h2 => by unfold Aw; omega)).fr f2 (fun x h1 h2 => by omega)
      have wv1 : Wv g1 (o + 23 + 5 * c) (o + 24 + 5 * c) (D + m) s := q2.fr f2 (by omega) (by omega)
      have lt1 : ∀ k, m ≤ k → k < b → hI g1 (o + 21) k = (s (D + k)).toInt32 := fun k hk1 hk2 => by
        by_cases e : k = m
        · subst e; exact e21
        · rw [ek k e, (q3.2.2.2 (o + 21) (by unfold Aw; omega)).1]; exact lt k (by omega) hk2
      have fr1 : Fr (AN o c) h g1 := (q3.mono (fun x z => by unfold Aw at z; unfold AN; omega)).trans (f2.mono (fun x z => by unfold AN; omega))
      have fin : ∀ z : Int32, z = b2i (ngF s D b m) → Ok (BX9_newArray_12 f (some (o + 14)) (some (o + 23 + 5 * c)) (nI y) (nI b) z (nI m + (-1)) g1) (NaR o c D s h (if ngF s D b 0 = true then xf 4 hn i T else if room T.1 (zsF (fun k => cN (s (D + k)).toInt32) 0 b) = true then xo (lN T.1) hn (i + 1) (mk_R (zsF (fun k => cN (s (D + k)).toInt32) 0 b) y T).1 else xf 7 hn i T)) := by
        intro z hz
        rw [hz]
        exact (ih m g1 (by omega) (by omega) w1 tv1 wv1 lt1).mono (fun r g2 p => ⟨fr1.trans p.1, p.2⟩)
      unfold BX9_newArray_45
      by_cases cn : (s (D + m)).toInt32 < 0
      · rw [if_pos cn]
        refine fin _ ?_
        rw [b2i_o1, ngF_s (by omega), decide_eq_true cn]; rfl
      · rw [if_neg cn]
        refine fin _ ?_
        rw [b2i_o0, ngF_s (show m < b by omega), decide_eq_false cn, Bool.false_or]
theorem f_newArr {o c d b y : Nat} {s : Nat → Int64} {T : Th} {hn : Nat → Nat} {i : Nat} {h : Hp} (hb : 1 ≤ b) (hb3 : b ≤ 3) (hy : 8 * b ≤ y) (hy2 : y < 32) (hy4 : ¬ y % 8 = 4) (hd : d ≤ 12) (hbd : b ≤ d) (wt : WT (hT h) (hR h) o) (tv : TV h o T U0) (wv : Wv h (o + 23 + 5 * c) (o + 24 + 5 * c) d s) :
    Ok (FX9_newArray (some (o + 14)) (some (o + 23 + 5 * c)) (nI y) (nI b) h) (NaR o c (d - b) s h (x_arr 24 (nI y) b d s hn i T)) := by
  unfold FX9_newArray x_arr
  rw [nl_3, if_lt (by decide) (by omega), if_neg (by omega), if_pos rfl, Int32.sub_eq_add_neg, cN_n (by omega), ← ngF_0, ← zsF_0]
  have := na_12 (o := o) (c := c) (D := d - b) (b := b) (y := y) (s := s) (T := T) (hn := hn) (i := i) hb hb3 hy hy2 hy4 (by omega) 100000 b h (Nat.le_refl _) (by omega) wt tv (by rw [show d - b + b = d by omega]; exact wv) (fun k h1 h2 => by omega)
  rw [ngF_e] at this
  exact this
