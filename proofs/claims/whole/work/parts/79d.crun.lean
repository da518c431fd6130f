/-! what holds all along a walk; the class's walk, step by step -/
def TSt (n d : Nat) (σ : Nat → Nat) (s : Nat → Int64) : Prop := ∀ p, p < d → Ty n (σ p) (s p)
def TLo (n : Nat) (l : Nat → Nat) (s : Nat → Int64) : Prop := ∀ j, j < 16 → Ty n (l j) (s j)
/-- the kind of what an array's cells give -/
def tkd (x : Int32) : Nat := kcl (cN (csI x))
def TH (T : Th) : Prop := T.1 ≤ 60 ∧ ∀ t, t < T.1 → T.2.2.1 t ≤ 100 ∧ ((T.2.2.1 t = 0 ∧ T.2.1 t < 0 ∧ ∃ j : Nat, j < 16 ∧ T.2.1 t = -100 + nI j) ∨ ∃ y : Nat, 8 ≤ y ∧ y < 32 ∧ ¬ y % 8 = 4 ∧ T.2.1 t = nI y) ∧ ∀ k, k < T.2.2.1 t → Ty T.1 (tkd (T.2.1 t)) (T.2.2.2.2 t k)
def CI (P : Pg) (tt : Nat → Tab) (T : Th) (k : Nat) (x : Cl) : Prop := x.1 < p_nm P ∧ TSt T.1 x.2.2.1 ((tt x.1).2.1 x.2.1) x.2.2.2.1 ∧ TLo T.1 ((tt x.1).2.2.1 x.2.1) x.2.2.2.2.1 ∧ (∀ t, T.1 ≤ t → t < 60 → x.2.2.2.2.2 t = 0) ∧ sm 60 x.2.2.2.2.2 ≤ k
def WI (P : Pg) (tt : Nat → Tab) (k : Nat) (W : Wk) : Prop := TH W.2.1 ∧ (W.1.1 ≤ 6 ∧ W.2.2.2.1.2.1 ≤ 14) ∧ (∀ c, c < W.1.1 → CI P tt W.2.1 k (W.1.2 c)) ∧ (∀ c, c + 1 = W.1.1 → (tt (W.1.2 c).1).1 (W.1.2 c).2.1 = some (W.1.2 c).2.2.1) ∧ ∀ c, c + 1 < W.1.1 → ∃ e, (tt (W.1.2 c).1).1 (W.1.2 c).2.1 = some e ∧ p_op P (W.1.2 c).1 (W.1.2 c).2.1 = 35 ∧ cN (p_A P (W.1.2 c).1 (W.1.2 c).2.1) = (W.1.2 (c + 1)).1 ∧ takeL ((tt (W.1.2 c).1).2.1 (W.1.2 c).2.1) (argL P (W.1.2 (c + 1)).1 (p_na P (W.1.2 (c + 1)).1)) e = some (W.1.2 c).2.2.1
def ST (P : Pg) (tt : Nat → Tab) : Prop := ∀ m, m < p_nm P → Stb P m (tt m) ∧ TW (tt m)
def Fu (o : Nat) (h g : Hp) : Prop := hT g = hT h ∧ hz g = hz h ∧ (∀ b, ¬ (o + 14 ≤ b ∧ b ≤ o + 51) → hI g b = hI h b ∧ hL g b = hL h b ∧ hR g b = hR h b) ∧ (∀ b k, (∀ c, c < 6 → ¬ (b = o + 22 + 5 * c ∧ k = 1)) → hR g b k = hR h b k) ∧ hI g (o + 14) 6 = hI h (o + 14) 6
theorem Fu.refl {o : Nat} {h : Hp} : Fu o h h := ⟨rfl, rfl, fun _ _ => ⟨rfl, rfl, rfl⟩, fun _ _ _ => rfl, rfl⟩
theorem Fu.trans {o : Nat} {h g k : Hp} (a : Fu o h g) (b : Fu o g k) : Fu o h k := ⟨b.1.trans a.1, b.2.1.trans a.2.1, fun x hx => ⟨(b.2.2.1 x hx).1.trans (a.2.2.1 x hx).1, (b.2.2.1 x hx).2.1.trans (a.2.2.1 x hx).2.1, (b.2.2.1 x hx).2.2.trans (a.2.2.1 x hx).2.2⟩, fun x y hx => (b.2.2.2.1 x y hx).trans (a.2.2.2.1 x y hx), b.2.2.2.2.trans a.2.2.2.2⟩
theorem Fw.fu {o : Nat} {h g : Hp} (f : Fw o h g) : Fu o h g := ⟨f.1, f.2.1, f.2.2.1, f.2.2.2.1, f.2.2.2.2.1⟩
theorem PC.fu {h g : Hp} {o : Nat} {ma ta : Nat → Nat} {P : Pg} (v : PC h o ma ta P) (ap : Apt o ma ta P) (f : Fu o h g) : PC g o ma ta P := v.ag f.1 (fun b hb => f.2.2.1 b (by
  have a1 := ap.1
  have a2 := ap.2.1
  rcases hb with hb | ⟨k, hk, hb⟩ | ⟨k, hk, hb⟩
  · omega
  · have := a1 k hk; omega
  · have := a2 k hk; omega))
theorem wI_id {h : Hp} {a k : Nat} {v : Int32} (e : hI h a k = v) : wI h a k v = h := by
  have : up2 (hI h) a k v = hI h := by
    funext b j
    unfold up2
    by_cases c1 : b = a
    · subst c1
      rw [if_pos rfl]
      by_cases c2 : j = k
      · subst c2; rw [if_pos rfl, e]
      · rw [if_neg c2]
    · rw [if_neg c1]
  unfold wI
  rw [this]; rfl
section CU
variable {o : Nat} {ma ta : Nat → Nat} {P : Pg} {tt : Nat → Tab}
/-- what touches objects alone, and of them what the picture does not tell -/
theorem CW.kp {A : Nat → Prop} {h g : Hp} {W : Wk} (cw : CW h o ma W) (f : Fr A h g) (hA : ∀ b, A b → b = o + 14 ∨ ∃ c, c < 6 ∧ b = o + 22 + 5 * c) (e14 : ∀ k, k = 4 ∨ k = 7 ∨ k = 8 ∨ k = 9 ∨ k = 11 ∨ k = 12 ∨ k = 13 → hI g (o + 14) k = hI h (o + 14) k) (l14 : hL g (o + 14) = hL h (o + 14)) (e22 : ∀ c, c < W.1.1 → ∀ k, k = 0 ∨ k = 2 ∨ k = 7 → hI g (o + 22 + 5 * c) k = hI h (o + 22 + 5 * c) k) : CW g o ma W := by
  obtain ⟨wt, tv, ⟨n1, n2⟩, cc, ck⟩ := cw
  have nA : ∀ b, b ≠ o + 14 → (∀ c, c < 6 → b ≠ o + 22 + 5 * c) → ¬ A b := fun b h1 h2 z => by
    rcases hA b z with z | ⟨c, hc, z⟩
    · exact h1 z
    · exact h2 c hc z
  refine ⟨wt.fr f, tv.fr f (fun b h1 h2 => nA b (by omega) (fun c hc => by omega)), ⟨by rw [e14 4 (by omega)]; exact n1, n2⟩, fun c hc => ?_, ck.keep (fun c hc => by rw [(f.2.2.2 (o + 25 + 5 * c) (nA _ (by omega) (fun c hc => by omega))).2]) (fun k hk => e14 k (by omega)) l14 (fun _ _ => rfl) rfl⟩
  obtain ⟨⟨s1, s2, s3, s4⟩, m1, m2, m3⟩ := cc c hc
  refine ⟨⟨s1.fr f (nA _ (by omega) (fun c hc => by omega)) (nA _ (by omega) (fun c hc => by omega)), ?_, ?_, ?_⟩, ?_, ?_, ?_⟩
  · rw [(f.2.2.2 (o + 25 + 5 * c) (nA _ (by omega) (fun c hc => by omega))).2]; exact s2
  · rw [(f.2.2.2 (o + 26 + 5 * c) (nA _ (by omega) (fun c hc => by omega))).1]; exact s3
  · rw [e22 c hc 7 (by omega)]; exact s4
  · rw [e22 c hc 0 (by omega)]; exact m1
  · rw [e22 c hc 2 (by omega)]; exact m2
  · rw [f.2.1]; exact m3
theorem xop_m {op : Nat} {A B : Int32} {x : Cl} {T : Th} : (x_op P op A B x T).2.1.1 = x.1 := by
  unfold x_op
  split
  · rfl
  · split
    · rfl
    · split <;> rfl
/-- the end of a step: the most words, one step more -/
theorem cr_end {h g : Hp} {W : Wk} {k steps f : Nat} {Q : Int32 → Hp → Prop} (ap : Apt o ma ta P) (pc : PC h o ma ta P) (fu : Fu o h g) (cw : CW g o ma W) (h10 : hI g (o + 14) 10 = nI k) (hm : W.2.2.2.1.2.1 ≤ 14) (kk : ∀ g', CW g' o ma (w_max W) → hI g' (o + 14) 10 = nI (k + 1) → PC g' o ma ta P → Fu o h g' → Ok (BX9_run_5 f (some (o + 14)) (nI steps) g') Q) : Ok (BX9_run_111 (BX9_run_5 f) (some (o + 14)) (nI steps) g) Q := by
  have wt := cw.1
  have t14 := wt.1.1
  obtain ⟨n1, n2⟩ := cw.2.2.1
  have fin : ∀ (g1 : Hp), CW g1 o ma (w_max W) → hI g1 (o + 14) 10 = nI k → Fu o h g1 → Ok (BX9_run_146 (BX9_run_5 f) (some (o + 14)) (nI steps) g1) Q := by
    intro g1 c1 e10 fu1
    have u14 := c1.1.1.1
    unfold BX9_run_146
    rw [gI_ok u14, e10, pI_ok u14, nI_1]
    have f1 : Fr (fun b => b = o + 14) g1 (wI g1 (o + 14) 10 (nI (k + 1))) := Fr.wI rfl
    have ek : ∀ x, x ≠ 10 → hI (wI g1 (o + 14) 10 (nI (k + 1))) (o + 14) x = hI g1 (o + 14) x := fun x hx => hI_wI_k hx
    have fu2 : Fu o g1 (wI g1 (o + 14) 10 (nI (k + 1))) := ⟨rfl, rfl, fun b hb => ⟨(f1.2.2.2 b (by omega)).1, rfl, rfl⟩, fun b k _ => rfl, ek 6 (by decide)⟩
    exact kk _ (c1.kp f1 (fun b z => Or.inl z) (fun x hx => ek x (by omega)) rfl (fun c hc x hx => by rw [(f1.2.2.2 _ (by omega)).1])) hI_wI_s (pc.fu ap (fu1.trans fu2)) (fu1.trans fu2)
  unfold BX9_run_111
  rw [gI_ok t14, n1, ir_0 (by omega)]
  by_cases c0 : 0 < W.1.1
  · obtain ⟨n, en⟩ : ∃ n, W.1.1 = n + 1 := ⟨W.1.1 - 1, by omega⟩
    obtain ⟨cs, cm⟩ := cw.2.2.2.1 n (by omega)
    obtain ⟨⟨r20, t22⟩, ⟨r4, r5, r6⟩, ⟨t23, r23⟩, -, t25, t26⟩ := wt.2.2.2.2 n (by omega)
    have e12 := cw.2.2.2.2.2.2.1.2.1
    have hd := cs.1.2.2.2.2.2.1
    rw [if_pos c0, gI_ok t14, e12, gR_ok t14, wt.1.2.2.2.1, gI_ok t14, n1, en, nI_pred, aR_n wt.2.2.2.1.1 (by omega) (by decide), r20, gR_ok t22, r4, gI_ok t23, cs.1.2.2.2.2.1, pI_ok t14, if_lt (by omega) (by omega)]
    have ev : (if W.2.2.2.1.2.1 < (W.1.2 n).2.2.1 then nI (W.1.2 n).2.2.1 else nI W.2.2.2.1.2.1) = nI (if W.2.2.2.1.2.1 < (W.1.2 n).2.2.1 then (W.1.2 n).2.2.1 else W.2.2.2.1.2.1) := by split <;> rfl
    rw [ev]
    have f1 : Fr (fun b => b = o + 14) g (wI g (o + 14) 12 (nI (if W.2.2.2.1.2.1 < (W.1.2 n).2.2.1 then (W.1.2 n).2.2.1 else W.2.2.2.1.2.1))) := Fr.wI rfl
    have ek : ∀ x, x ≠ 12 → hI (wI g (o + 14) 12 (nI (if W.2.2.2.1.2.1 < (W.1.2 n).2.2.1 then (W.1.2 n).2.2.1 else W.2.2.2.1.2.1))) (o + 14) x = hI g (o + 14) x := fun x hx => hI_wI_k hx
    have e12' : hI (wI g (o + 14) 12 (nI (if W.2.2.2.1.2.1 < (W.1.2 n).2.2.1 then (W.1.2 n).2.2.1 else W.2.2.2.1.2.1))) (o + 14) 12 = nI (if W.2.2.2.1.2.1 < (W.1.2 n).2.2.1 then (W.1.2 n).2.2.1 else W.2.2.2.1.2.1) := hI_wI_s
    have lL : hL (wI g (o + 14) 12 (nI (if W.2.2.2.1.2.1 < (W.1.2 n).2.2.1 then (W.1.2 n).2.2.1 else W.2.2.2.1.2.1))) = hL g := rfl
    generalize wI g (o + 14) 12 (nI (if W.2.2.2.1.2.1 < (W.1.2 n).2.2.1 then (W.1.2 n).2.2.1 else W.2.2.2.1.2.1)) = g1 at f1 ek e12' lL ⊢
    have hmx : w_max W = (W.1, W.2.1, W.2.2.1, (W.2.2.2.1.1, (if W.2.2.2.1.2.1 < (W.1.2 n).2.2.1 then (W.1.2 n).2.2.1 else W.2.2.2.1.2.1), W.2.2.2.1.2.2), W.2.2.2.2) := by
      unfold w_max
      rw [if_pos c0, show W.1.1 - 1 = n by omega]
    have fu2 : Fu o g g1 := ⟨f1.1, f1.2.2.1, fun b hb => ⟨(f1.2.2.2 b (by omega)).1, by rw [lL], by rw [f1.2.1]⟩, fun b k _ => by rw [f1.2.1], ek 6 (by decide)⟩
    refine fin g1 ?_ (by rw [ek 10 (by decide)]; exact h10) (fu.trans fu2)
    rw [hmx]
    obtain ⟨k1, k2, k3, k4⟩ := cw.2.2.2.2
    refine ⟨wt.fr f1, cw.2.1.fr f1 (fun b h1 h2 => by omega), ⟨by rw [ek 4 (by decide)]; exact n1, n2⟩, fun c hc => ?_, ?_, ?_, ?_, ?_⟩
    · obtain ⟨y1, y3⟩ := cw.2.2.2.1 c hc
      exact ⟨y1.keep f1 (fun b h1 h2 => by omega), y3.keep f1 (by omega)⟩
    · intro c hc j hj
      rw [lL]; exact k1 c hc j hj
    · rw [ek 7 (by decide), ek 8 (by decide), ek 9 (by decide)]; exact k2
    · rw [ek 11 (by decide), ek 13 (by decide), e12']; exact ⟨k3.1, rfl, k3.2.2⟩
    · rw [lL]; exact k4
  · rw [if_neg c0]
    have hmx : w_max W = W := by
      unfold w_max
      rw [if_neg c0]
    exact fin g (by rw [hmx]; exact cw) h10 fu
end CU
