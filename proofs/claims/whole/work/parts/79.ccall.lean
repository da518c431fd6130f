/-! the class: a failure that ends calls, calls that begin and end -/
def Fw (o : Nat) (h g : Hp) : Prop := hT g = hT h ∧ hz g = hz h ∧ (∀ b, ¬ (o + 14 ≤ b ∧ b ≤ o + 51) → hI g b = hI h b ∧ hL g b = hL h b ∧ hR g b = hR h b) ∧ (∀ b k, (∀ c, c < 6 → ¬ (b = o + 22 + 5 * c ∧ k = 1)) → hR g b k = hR h b k) ∧ hI g (o + 14) 6 = hI h (o + 14) 6 ∧ hI g (o + 14) 10 = hI h (o + 14) 10
theorem Fw.refl {o : Nat} {h : Hp} : Fw o h h := ⟨rfl, rfl, fun _ _ => ⟨rfl, rfl, rfl⟩, fun _ _ _ => rfl, rfl, rfl⟩
theorem Fw.trans {o : Nat} {h g k : Hp} (a : Fw o h g) (b : Fw o g k) : Fw o h k := ⟨b.1.trans a.1, b.2.1.trans a.2.1, fun x hx => ⟨(b.2.2.1 x hx).1.trans (a.2.2.1 x hx).1, (b.2.2.1 x hx).2.1.trans (a.2.2.1 x hx).2.1, (b.2.2.1 x hx).2.2.trans (a.2.2.1 x hx).2.2⟩, fun x y hx => (b.2.2.2.1 x y hx).trans (a.2.2.2.1 x y hx), b.2.2.2.2.1.trans a.2.2.2.2.1, b.2.2.2.2.2.trans a.2.2.2.2.2⟩
theorem Fw.of {A : Nat → Prop} {o : Nat} {h g : Hp} (f : Fr A h g) (hA : ∀ b, A b → o + 14 ≤ b ∧ b ≤ o + 51) (h6 : hI g (o + 14) 6 = hI h (o + 14) 6) (h10 : hI g (o + 14) 10 = hI h (o + 14) 10) : Fw o h g := ⟨f.1, f.2.2.1, fun b hb => ⟨(f.2.2.2 b (fun z => hb (hA b z))).1, (f.2.2.2 b (fun z => hb (hA b z))).2, by rw [f.2.1]⟩, fun b k _ => by rw [f.2.1], h6, h10⟩
theorem Fw.of' {A : Nat → Prop} {o : Nat} {h g : Hp} (f : Fr A h g) (hA : ∀ b, A b → o + 15 ≤ b ∧ b ≤ o + 51) : Fw o h g := Fw.of f (fun b z => by have := hA b z; omega) (by rw [(f.2.2.2 (o + 14) (fun z => by have := hA _ z; omega)).1]) (by rw [(f.2.2.2 (o + 14) (fun z => by have := hA _ z; omega)).1])
theorem WT.fw {o : Nat} {h g : Hp} (v : WT (hT h) (hR h) o) (f : Fw o h g) : WT (hT g) (hR g) o := by
  have e := f.2.2.2.1
  unfold WT at v ⊢
  rw [f.1, e (o + 14) 0 (fun c _ => by omega), e (o + 14) 1 (fun c _ => by omega), e (o + 14) 2 (fun c _ => by omega), e (o + 14) 3 (fun c _ => by omega), e (o + 15) 0 (fun c _ => by omega), e (o + 15) 1 (fun c _ => by omega), e (o + 15) 2 (fun c _ => by omega), e (o + 15) 3 (fun c _ => by omega)]
  obtain ⟨v1, v2, v3, v4, v5⟩ := v
  refine ⟨v1, v2, v3, v4, fun c hc => ?_⟩
  rw [e (o + 20) c (fun c _ => by omega), e (o + 22 + 5 * c) 4 (fun c _ => by omega), e (o + 22 + 5 * c) 5 (fun c _ => by omega), e (o + 22 + 5 * c) 6 (fun c _ => by omega), e (o + 23 + 5 * c) 0 (fun c _ => by omega)]
  exact v5 c hc
theorem PC.ag {h g : Hp} {o : Nat} {ma ta : Nat → Nat} {P : Pg} (v : PC h o ma ta P) (t : hT g = hT h) (e : ∀ b, PA o ma ta P b → hI g b = hI h b ∧ hL g b = hL h b ∧ hR g b = hR h b) : PC g o ma ta P := by
  have c : ∀ b, o + 1 ≤ b → b ≤ o + 4 → hI g b = hI h b ∧ hL g b = hL h b ∧ hR g b = hR h b := fun b h1 h2 => e b (Or.inl ⟨h1, h2⟩)
  obtain ⟨v1, v2, v3, v4, v5⟩ := v
  refine ⟨?_, ?_, fun m hm => ?_, fun k hk => ?_, fun x hx => ?_⟩
  · unfold PT at v1 ⊢
    rw [t, (c (o + 1) (by omega) (by omega)).2.2]
    exact v1
  · rw [(c (o + 1) (by omega) (by omega)).1]; exact v2
  · obtain ⟨x1, x2, x3⟩ := v3 m hm
    have em : ∀ b, ma m ≤ b → b ≤ ma m + 8 → hI g b = hI h b ∧ hL g b = hL h b ∧ hR g b = hR h b := fun b h1 h2 => e b (Or.inr (Or.inl ⟨m, hm, h1, h2⟩))
    refine ⟨by rw [(c (o + 2) (by omega) (by omega)).2.2]; exact x1, ?_, ?_⟩
    · unfold MT at x2 ⊢
      rw [t, (em (ma m) (by omega) (by omega)).2.2]
      exact x2
    · unfold MC at x3 ⊢
      rw [(em (ma m) (by omega) (by omega)).1, (em (ma m + 1) (by omega) (by omega)).1, (em (ma m + 2) (by omega) (by omega)).1, (em (ma m + 3) (by omega) (by omega)).1, (em (ma m + 4) (by omega) (by omega)).1, (em (ma m + 5) (by omega) (by omega)).1, (em (ma m + 6) (by omega) (by omega)).1, (em (ma m + 7) (by omega) (by omega)).1, (em (ma m + 8) (by omega) (by omega)).1]
      exact x3
  · obtain ⟨x1, x2, x3⟩ := v4 k hk
    have em : ∀ b, ta k ≤ b → b ≤ ta k + 2 → hI g b = hI h b ∧ hL g b = hL h b ∧ hR g b = hR h b := fun b h1 h2 => e b (Or.inr (Or.inr ⟨k, hk, h1, h2⟩))
    refine ⟨by rw [(c (o + 4) (by omega) (by omega)).2.2]; exact x1, ?_, ?_⟩
    · unfold TT at x2 ⊢
      rw [t, (em (ta k) (by omega) (by omega)).2.2]
      exact x2
    · unfold TC at x3 ⊢
      rw [(em (ta k) (by omega) (by omega)).1, (em (ta k + 1) (by omega) (by omega)).1, (em (ta k + 2) (by omega) (by omega)).1]
      exact x3
  · rw [(c (o + 3) (by omega) (by omega)).2.1]; exact v5 x hx
theorem PC.fw {h g : Hp} {o : Nat} {ma ta : Nat → Nat} {P : Pg} (v : PC h o ma ta P) (ap : Apt o ma ta P) (f : Fw o h g) : PC g o ma ta P := v.ag f.1 (fun b hb => f.2.2.1 b (by
  have a1 := ap.1
  have a2 := ap.2.1
  rcases hb with hb | ⟨k, hk, hb⟩ | ⟨k, hk, hb⟩
  · omega
  · have := a1 k hk; omega
  · have := a2 k hk; omega))
/-- what stands in a call beside stack, locals, monitors -/
def CM (h : Hp) (o : Nat) (ma : Nat → Nat) (c : Nat) (x : Cl) : Prop := hI h (o + 22 + 5 * c) 0 = nI x.1 ∧ hI h (o + 22 + 5 * c) 2 = nI x.2.1 ∧ hR h (o + 22 + 5 * c) 1 = some (ma x.1)
def CK (h : Hp) (o : Nat) (W : Wk) : Prop := (∀ c, c < 6 → ∀ j, j < 16 → hL h (o + 25 + 5 * c) j = (W.1.2 c).2.2.2.2.1 j) ∧ (hI h (o + 14) 7 = W.2.2.1.1 ∧ hI h (o + 14) 8 = W.2.2.1.2.1 ∧ hI h (o + 14) 9 = W.2.2.1.2.2) ∧ (hI h (o + 14) 11 = nI W.2.2.2.1.1 ∧ hI h (o + 14) 12 = nI W.2.2.2.1.2.1 ∧ hI h (o + 14) 13 = nI W.2.2.2.1.2.2) ∧ hL h (o + 14) 5 = W.2.2.2.2
/-- the class's walk; in CX nothing is said of the uppermost stack -/
def CW (h : Hp) (o : Nat) (ma : Nat → Nat) (W : Wk) : Prop := WT (hT h) (hR h) o ∧ TV h o W.2.1 U0 ∧ (hI h (o + 14) 4 = nI W.1.1 ∧ W.1.1 ≤ 6) ∧ (∀ c, c < W.1.1 → CS h o c (W.1.2 c) ∧ CM h o ma c (W.1.2 c)) ∧ CK h o W
def CX (h : Hp) (o : Nat) (ma : Nat → Nat) (W : Wk) : Prop := WT (hT h) (hR h) o ∧ TV h o W.2.1 U0 ∧ (hI h (o + 14) 4 = nI W.1.1 ∧ W.1.1 ≤ 6) ∧ (∀ c, c < W.1.1 → (c + 1 < W.1.1 → CS h o c (W.1.2 c)) ∧ (∃ d s, CS h o c ((W.1.2 c).1, (W.1.2 c).2.1, d, s, (W.1.2 c).2.2.2.2.1, (W.1.2 c).2.2.2.2.2)) ∧ CM h o ma c (W.1.2 c)) ∧ CK h o W
theorem CW.cx {h : Hp} {o : Nat} {ma : Nat → Nat} {W : Wk} (v : CW h o ma W) : CX h o ma W := ⟨v.1, v.2.1, v.2.2.1, fun c hc => ⟨fun _ => (v.2.2.2.1 c hc).1, ⟨_, _, (v.2.2.2.1 c hc).1⟩, (v.2.2.2.1 c hc).2⟩, v.2.2.2.2⟩
theorem CS.keep {A : Nat → Prop} {h g : Hp} {o c : Nat} {x : Cl} (v : CS h o c x) (f : Fr A h g) (hA : ∀ b, o + 22 + 5 * c ≤ b → b ≤ o + 26 + 5 * c → ¬ A b) : CS g o c x := by
  have := v.fr f (hA _ (by omega) (by omega)) (hA _ (by omega) (by omega)) (hA _ (by omega) (by omega)) (v.1.fr f (hA _ (by omega) (by omega)) (hA _ (by omega) (by omega))) x.1 x.2.1
  exact this
theorem CM.keep {A : Nat → Prop} {h g : Hp} {o c : Nat} {ma : Nat → Nat} {x : Cl} (v : CM h o ma c x) (f : Fr A h g) (hA : ¬ A (o + 22 + 5 * c)) : CM g o ma c x := by
  unfold CM at v ⊢
  rw [(f.2.2.2 _ hA).1, f.2.1]
  exact v
section CC
variable {o : Nat} {ma ta : Nat → Nat} {P : Pg}
theorem ca_loop {h : Hp} {m i f : Nat} (pc : PC h o ma ta P) (pw : PW P) (hm : m < p_nm P) (hi : i < 60) : ∀ (n k : Nat), k ≤ p_nh P m → p_nh P m - k < n → (∀ j, j < k → (pcov P m j i && (decide (p_hn P m j = -1) || decide (p_hn P m j = nI f))) = false) → BX2_catcher_2 n (some (ma m)) (nI i) (nI f) (nI k) h = some (o2i (p_cat P m i f), h) := by
  obtain ⟨x1, x2, x3⟩ := pc.2.2.1 m hm
  have wm := pw.2.2.2.1 m hm
  have h6 := wm.2.2.2.2.1
  obtain ⟨a0, ⟨r1, r4, r5, r6, r8, r9, r10, r11, r13⟩, t1, t2, t3, t4, t5, t6, t7, t8⟩ := id x2
  intro n
  induction n with
  | zero => intro k h1 h2; omega
  | succ n ih =>
    intro k h1 h2 hb
    unfold BX2_catcher_2
    rw [gI_ok a0, x3.1.2.2.2.2, if_lt (by omega) (by omega)]
    by_cases ck : k < p_nh P m
    · obtain ⟨e1, e2, e3, e4⟩ := x3.2.2.2 k ck
      have hg := (wm.2.2.2.2.2.2.2.2 k ck).2.2.1
      rw [if_pos ck, rcv_ok a0, f_covers x2 x3 wm ck hi, cl_ok, b2i_if]
      have next : (pcov P m k i && (decide (p_hn P m k = -1) || decide (p_hn P m k = nI f))) = false → BX2_catcher_46 (BX2_catcher_2 n) (some (ma m)) (nI i) (nI f) (nI k) h = some (o2i (p_cat P m i f), h) := by
        intro z
        unfold BX2_catcher_46
        rw [nI_1]
        exact ih (k + 1) (by omega) (by omega) (fun j hj => by
          by_cases y : j = k
          · subst y; exact z
          · exact hb j (by omega))
      have got : (pcov P m k i && (decide (p_hn P m k = -1) || decide (p_hn P m k = nI f))) = true → some (nI (p_hg P m k), h) = some (o2i (p_cat P m i f), h) := by
        intro z
        have : (List.range (p_nh P m)).find? (fun k => pcov P m k i && (decide (p_hn P m k = -1) || decide (p_hn P m k = nI f))) = some k := by
          rw [List.find?_range_eq_some]
          exact ⟨z, List.mem_range.mpr ck, fun j hj => by rw [hb j hj]; rfl⟩
        unfold p_cat
        rw [this]; rfl
      cases hc : pcov P m k i with
      | false =>
        rw [if_neg (by decide)]
        exact next (by rw [hc]; rfl)
      | true =>
        rw [if_pos rfl, gR_ok a0, r11, aI_n t8 (by omega) (by decide), e4]
        by_cases z1 : p_hn P m k = -1
        · rw [if_pos z1, gR_ok a0, r10, aI_n t7 (by omega) (by decide), e3]
          exact got (by rw [hc, decide_eq_true z1]; rfl)
        · rw [if_neg z1, gR_ok a0, r11, aI_n t8 (by omega) (by decide), e4]
          by_cases z2 : p_hn P m k = nI f
          · rw [if_pos z2, gR_ok a0, r10, aI_n t7 (by omega) (by decide), e3]
            exact got (by rw [hc, decide_eq_true z2, Bool.or_true]; rfl)
          · rw [if_neg z2]
            exact next (by rw [hc, decide_eq_false z1, decide_eq_false z2]; rfl)
    · rw [if_neg ck]
      have : (List.range (p_nh P m)).find? (fun k => pcov P m k i && (decide (p_hn P m k = -1) || decide (p_hn P m k = nI f))) = none := by
        rw [List.find?_eq_none]
        intro j hj
        rw [hb j (by have := List.mem_range.mp hj; omega)]
        decide
      unfold p_cat
      rw [this]; rfl
theorem f_catcher {h : Hp} {m i f : Nat} (pc : PC h o ma ta P) (pw : PW P) (hm : m < p_nm P) (hi : i < 60) : FX2_catcher (some (ma m)) (nI i) (nI f) h = some (o2i (p_cat P m i f), h) := by
  unfold FX2_catcher
  rw [nI_c0]
  exact ca_loop pc pw hm hi 100000 0 (by omega) (by have := (pw.2.2.2.1 m hm).2.2.2.2.1; omega) (fun j hj => by omega)
def AL (o c : Nat) : Nat → Prop := fun b => b = o + 18 ∨ b = o + 26 + 5 * c ∨ b = o + 22 + 5 * c
theorem lg_2 {T : Th} {hn : Nat → Nat} {c : Nat} (hc : c < 6) : ∀ (f k : Nat) (h : Hp), k ≤ 60 → 60 - k < f → WT (hT h) (hR h) o → TV h o (hdT T (fun t => if t < k then T.2.2.2.1 t - nI (hn t) else T.2.2.2.1 t)) U0 → (∀ t, k ≤ t → t < 60 → hI h (o + 26 + 5 * c) t = nI (hn t)) → Ok (BX9_letGoAll_2 f (some (o + 14)) (some (o + 22 + 5 * c)) (nI k) h) (fun _ g => TV g o (lgT T hn) U0 ∧ Fr (AL o c) h g) := by
  intro f
  induction f with
  | zero => intro k h h1 h2; omega
  | succ f ih =>
    intro k h h1 h2 wt tv hh
    obtain ⟨⟨-, t22⟩, ⟨r4, r5, r6⟩, -, -, t25, t26⟩ := wt.2.2.2.2 c hc
    unfold BX9_letGoAll_2
    rw [nl_60, if_lt (by omega) (by decide)]
    by_cases ck : k < 60
    · rw [if_pos ck, gR_ok wt.1.1, wt.1.2.2.1, gR_ok wt.2.1.1, wt.2.1.2.2.2.1, aI_n wt.2.2.1.2.2.1 ck (by decide), gR_ok t22, r6, aI_n t26 ck (by decide), hh k (by omega) ck, sI_n wt.2.2.1.2.2.1 ck (by decide)]
      rw [gR_ok (show hT (wI h (o + 18) k (hI h (o + 18) k - nI (hn k))) (o + 22 + 5 * c) = _ from t22), show hR (wI h (o + 18) k (hI h (o + 18) k - nI (hn k))) (o + 22 + 5 * c) 6 = _ from r6, sI_n (show hT (wI h (o + 18) k (hI h (o + 18) k - nI (hn k))) (o + 26 + 5 * c) = _ from t26) ck (by decide), nI_1]
      have f1 : Fr (AL o c) h (wI (wI h (o + 18) k (hI h (o + 18) k - nI (hn k))) (o + 26 + 5 * c) k 0) := (Fr.wI (A := AL o c) (Or.inl rfl)).trans (Fr.wI (A := AL o c) (Or.inr (Or.inl rfl)))
      refine (ih (k + 1) _ (by omega) (by omega) (wt.fr f1) ⟨?_, fun t ht => ?_⟩ (fun t h3 h4 => ?_)).mono (fun r g q => ⟨q.1, f1.trans q.2⟩)
      · rw [hI_wI_a (by omega), hI_wI_a (by omega)]; exact tv.1
      · unfold hdT at ht ⊢
        dsimp only at ht ⊢
        obtain ⟨d1, d2, d3, d4⟩ := tv.2 t ht
        unfold hdT at d1 d2 d3 d4
        dsimp only at d1 d2 d3 d4
        rw [hI_wI_a (show o + 16 ≠ o + 26 + 5 * c by omega), hI_wI_a (show o + 16 ≠ o + 18 by omega), hI_wI_a (show o + 17 ≠ o + 26 + 5 * c by omega), hI_wI_a (show o + 17 ≠ o + 18 by omega), hI_wI_a (show o + 18 ≠ o + 26 + 5 * c by omega)]
        refine ⟨d1, d2, ?_, d4⟩
        by_cases z : t = k
        · subst z
          rw [hI_wI_s, if_pos (by omega), d3, if_neg (by omega)]
        · rw [hI_wI_k z, d3]
          by_cases y : t < k
          · rw [if_pos y, if_pos (by omega)]
          · rw [if_neg y, if_neg (by omega)]
      · rw [hI_wI_k (by omega), hI_wI_a (by omega)]; exact hh t (by omega) h4
    · rw [if_neg ck, pI_ok t22]
      have f1 : Fr (AL o c) h (wI h (o + 22 + 5 * c) 7 0) := Fr.wI (Or.inr (Or.inr rfl))
      refine ok_some ⟨?_, f1⟩
      have tv2 : TV (wI h (o + 22 + 5 * c) 7 0) o (hdT T (fun t => if t < k then T.2.2.2.1 t - nI (hn t) else T.2.2.2.1 t)) U0 := tv.fr (Fr.wI (A := fun b => b = o + 22 + 5 * c) rfl) (fun b h1 h2 => by omega)
      refine ⟨tv2.1, fun t ht => ?_⟩
      obtain ⟨d1, d2, d3, d4⟩ := tv2.2 t ht
      have n60 := tv2.1.2
      have ht : t < T.1 := ht
      have n60 : T.1 ≤ 60 := n60
      refine ⟨d1, d2, ?_, d4⟩
      rw [d3]
      show (if t < k then T.2.2.2.1 t - nI (hn t) else T.2.2.2.1 t) = T.2.2.2.1 t - nI (hn t)
      rw [if_pos (by omega)]
theorem f_letGo {h : Hp} {T : Th} {hn : Nat → Nat} {c : Nat} (hc : c < 6) (wt : WT (hT h) (hR h) o) (tv : TV h o T U0) (hh : ∀ t, t < 60 → hI h (o + 26 + 5 * c) t = nI (hn t)) : Ok (FX9_letGoAll (some (o + 14)) (some (o + 22 + 5 * c)) h) (fun _ g => TV g o (lgT T hn) U0 ∧ Fr (AL o c) h g) := by
  unfold FX9_letGoAll
  rw [nI_c0]
  refine lg_2 hc 100000 0 h (by omega) (by omega) wt ?_ (fun t _ h2 => hh t h2)
  have e : hdT T (fun t => if t < 0 then T.2.2.2.1 t - nI (hn t) else T.2.2.2.1 t) = T := by
    unfold hdT
    have : (fun t => if t < 0 then T.2.2.2.1 t - nI (hn t) else T.2.2.2.1 t) = T.2.2.2.1 := by
      funext t
      rw [if_neg (by omega)]
    rw [this]
  rw [e]; exact tv
theorem wfn_0 {C : Nat → Cl} {T : Th} {R : (Int32 × Int32 × Int32) × (Nat × Nat × Nat) × Int64} {f m i : Nat} {v : Int64} : w_fn P ((0, C), T, R) f v m i = ((0, C), T, (nI f, nI i, nI m), R.2.1, R.2.2) := rfl
theorem wfn_s {C : Nat → Cl} {T : Th} {R : (Int32 × Int32 × Int32) × (Nat × Nat × Nat) × Int64} {f m i n g : Nat} {v : Int64} (h : p_cat P (C n).1 (C n).2.1 f = some g) : w_fn P ((n + 1, C), T, R) f v m i = ((n + 1, va_up C n ((C n).1, g, 1, (fun _ => v), (C n).2.2.2.2.1, (C n).2.2.2.2.2)), T, R.1, (R.2.1.1, R.2.1.2.1, R.2.1.2.2 + 1), R.2.2) := by
  have e : w_un P f C (n + 1) T = (n + 1, some g, T) := by rw [w_un, h]
  unfold w_fn
  dsimp only
  rw [e]
  rfl
theorem wfn_n {C : Nat → Cl} {T : Th} {R : (Int32 × Int32 × Int32) × (Nat × Nat × Nat) × Int64} {f m i n : Nat} {v : Int64} (h : p_cat P (C n).1 (C n).2.1 f = none) : w_fn P ((n + 1, C), T, R) f v m i = w_fn P ((n, C), lgT T (C n).2.2.2.2.2, R) f v m i := by
  have e : w_un P f C (n + 1) T = w_un P f C n (lgT T (C n).2.2.2.2.2) := by rw [w_un, h]
  unfold w_fn
  dsimp only
  rw [e]
end CC
