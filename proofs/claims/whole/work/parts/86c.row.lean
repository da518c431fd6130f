/-! one method's row of the program is changed: what that leaves, on both sides -/
def EqM (P P' : Pg) (m : Nat) : Prop := (∀ c m' k, m' ≠ m ∨ c < 3 ∨ 12 < c → P'.1 c m' k = P.1 c m' k) ∧ (∀ c m' k, m' ≠ m ∨ 3 ≤ c → P'.2.1 c m' k = P.2.1 c m' k) ∧ P'.2.2 = P.2.2
section GR
variable {h g : Hp} {o q : Nat} {G : Gs} {P P' : Pg} {m : Nat}
theorem EqM.mr {m' : Nat} (e : EqM P P' m) (hm : m' ≠ m) : (p_re P' m' = p_re P m' ∧ p_na P' m' = p_na P m' ∧ p_nw P' m' = p_nw P m' ∧ p_no P' m' = p_no P m' ∧ p_nh P' m' = p_nh P m') ∧ (∀ k, p_ka P' m' k = p_ka P m' k) ∧ (∀ i, p_op P' m' i = p_op P m' i ∧ p_A P' m' i = p_A P m' i ∧ p_B P' m' i = p_B P m' i) ∧ ∀ k, p_hf P' m' k = p_hf P m' k ∧ p_hu P' m' k = p_hu P m' k ∧ p_hg P' m' k = p_hg P m' k ∧ p_hn P' m' k = p_hn P m' k := by
  have a : ∀ c k, P'.1 c m' k = P.1 c m' k := fun c k => e.1 c m' k (Or.inl hm)
  have b : ∀ c k, P'.2.1 c m' k = P.2.1 c m' k := fun c k => e.2.1 c m' k (Or.inl hm)
  exact ⟨⟨a _ _, a _ _, a _ _, a _ _, a _ _⟩, fun k => a _ _, fun i => ⟨a _ _, b _ _, b _ _⟩, fun k => ⟨a _ _, a _ _, a _ _, b _ _⟩⟩
theorem EqM.n (e : EqM P P' m) : p_nm P' = p_nm P ∧ p_nc P' = p_nc P ∧ p_nt P' = p_nt P := ⟨e.1 0 0 0 (by omega), e.1 1 0 0 (by omega), e.1 2 0 0 (by omega)⟩
theorem EqM.t (e : EqM P P' m) (t : Nat) : (p_ot P' t = p_ot P t ∧ p_ne P' t = p_ne P t ∧ p_sp P' t = p_sp P t ∧ p_lo P' t = p_lo P t) ∧ ∀ x, p_tt P' t x = p_tt P t x ∧ p_ky P' t x = p_ky P t x := ⟨⟨e.1 13 t 0 (by omega), e.1 14 t 0 (by omega), e.1 16 t 0 (by omega), e.2.1 3 t 0 (by omega)⟩, fun x => ⟨e.1 15 t x (by omega), e.2.1 4 t x (by omega)⟩⟩
theorem EqM.c (e : EqM P P' m) (c : Nat) : p_c P' c = p_c P c := by
  unfold p_c; rw [e.2.2]
theorem PWm.c {m' : Nat} (e : EqM P P' m) (hm : m' ≠ m) (w : PWm P m') : PWm P' m' := by
  obtain ⟨⟨a1, a2, a3, a4, a5⟩, a6, a7, a8⟩ := e.mr hm
  obtain ⟨w1, w2, w3, w4, w5, w6, w7, w8, w9⟩ := w
  refine ⟨by rw [a1]; exact w1, by rw [a2]; exact w2, by rw [a3]; exact w3, by rw [a4]; exact w4, by rw [a5]; exact w5, ?_, fun k hk => ?_, fun i hi => ?_, fun k hk => ?_⟩
  · rw [paw_c a6, a2, a3]; exact w6
  · rw [a6]; exact w7 k (by rw [a2] at hk; exact hk)
  · rw [(a7 i).1]; exact w8 i (by rw [a4] at hi; exact hi)
  · obtain ⟨b1, b2, b3, b4⟩ := a8 k
    rw [b1, b2, b3, b4]; exact w9 k (by rw [a5] at hk; exact hk)
theorem PWt.c {t : Nat} (e : EqM P P' m) (w : PWt P t) : PWt P' t := by
  obtain ⟨⟨a1, a2, a3, a4⟩, a5⟩ := e.t t
  have b1 : ∀ x, p_tt P' t x = p_tt P t x := fun x => (a5 x).1
  have b2 : ∀ x, p_ky P' t x = p_ky P t x := fun x => (a5 x).2
  unfold PWt at w ⊢
  simp only [a1, a2, a3, a4, b1, b2]
  exact w
theorem pw_row (pw : PW P) (e : EqM P P' m) (wm : PWm P' m) : PW P' := by
  obtain ⟨n1, n2, n3⟩ := e.n
  refine ⟨by rw [n1]; exact pw.1, by rw [n2]; exact pw.2.1, by rw [n3]; exact pw.2.2.1, fun m' hm' => ?_, fun t ht => (pw.2.2.2.2 t (by rw [n3] at ht; exact ht)).c e⟩
  by_cases c : m' = m
  · subst c; exact wm
  · exact (pw.2.2.2.1 m' (by rw [n1] at hm'; exact hm')).c e c
theorem MC.c {a m' : Nat} (e : EqM P P' m) (hm : m' ≠ m) (v : MC h a P m') : MC h a P' m' := by
  obtain ⟨⟨a1, a2, a3, a4, a5⟩, a6, a7, a8⟩ := e.mr hm
  obtain ⟨⟨v1, v2, v3, v4, v5⟩, v6, v7, v8⟩ := v
  refine ⟨⟨by rw [a1]; exact v1, by rw [a2]; exact v2, by rw [a3]; exact v3, by rw [a4]; exact v4, by rw [a5]; exact v5⟩, fun k hk => ?_, fun i hi => ?_, fun k hk => ?_⟩
  · rw [a6]; exact v6 k (by rw [a2] at hk; exact hk)
  · obtain ⟨b1, b2, b3⟩ := a7 i
    rw [b1, b2, b3]; exact v7 i (by rw [a4] at hi; exact hi)
  · obtain ⟨b1, b2, b3, b4⟩ := a8 k
    rw [b1, b2, b3, b4]; exact v8 k (by rw [a5] at hk; exact hk)
theorem TC.c {a t : Nat} (e : EqM P P' m) (v : TC h a P t) : TC h a P' t := by
  obtain ⟨⟨a1, a2, a3, a4⟩, a5⟩ := e.t t
  obtain ⟨⟨v1, v2, v3, v4⟩, v5⟩ := v
  refine ⟨⟨by rw [a3]; exact v1, by rw [a4]; exact v2, by rw [a1]; exact v3, by rw [a2]; exact v4⟩, fun x hx => ?_⟩
  rw [(a5 x).1, (a5 x).2]; exact v5 x (by rw [a2] at hx; exact hx)
/-- the class's program, where one method's rows are changed -/
theorem pc_row {ma ta : Nat → Nat} {A : Nat → Prop} (pc : PC h o ma ta P) (ap : Apt o ma ta P) (hm : m < p_nm P) (e : EqM P P' m) (f : Fr A h g) (hA : ∀ b, A b → ma m ≤ b ∧ b ≤ ma m + 8) (mc : MC g (ma m) P' m) : PC g o ma ta P' := by
  obtain ⟨n1, n2, n3⟩ := e.n
  obtain ⟨p1, p2, p3, p4, p5⟩ := pc
  have om := ap.1 m hm
  have nA : ∀ b, ¬ (ma m ≤ b ∧ b ≤ ma m + 8) → ¬ A b := fun b hb z => hb (hA b z)
  refine ⟨by rw [f.1, f.2.1]; exact p1, by rw [n1, n2, n3, (f.2.2.2 (o + 1) (nA _ (by omega))).1]; exact p2, fun m' hm' => ?_, fun t ht => ?_, fun c hc => ?_⟩
  · rw [n1] at hm'
    obtain ⟨x1, x2, x3⟩ := p3 m' hm'
    refine ⟨by rw [f.2.1]; exact x1, by rw [f.1, f.2.1]; exact x2, ?_⟩
    by_cases c : m' = m
    · subst c; exact mc
    · have := ap.2.2.1 m' m hm' hm c
      exact (x3.fr f (fun b h1 h2 => nA b (by omega))).c e c
  · rw [n3] at ht
    obtain ⟨x1, x2, x3⟩ := p4 t ht
    have := ap.2.2.2.2 m t hm ht
    exact ⟨by rw [f.2.1]; exact x1, by rw [f.1, f.2.1]; exact x2, (x3.fr f (fun b h1 h2 => nA b (by omega))).c e⟩
  · rw [n2] at hc
    rw [(f.2.2.2 (o + 3) (nA _ (by omega))).2, e.c]; exact p5 c hc
/-- the rows of other methods in the model -/
def Fr5 (q m : Nat) (h g : Hp) : Prop := ∀ m', m' ≠ m → (∀ b, b = 1 ∨ b = 2 ∨ b = 3 ∨ b = 5 ∨ b = 9 → hI g (q + b) m' = hI h (q + b) m') ∧ (∀ k, k < 8 → hI g (q + 4) (8 * m' + k) = hI h (q + 4) (8 * m' + k)) ∧ (∀ b i, 6 ≤ b → b ≤ 8 → i < 60 → hI g (q + b) (60 * m' + i) = hI h (q + b) (60 * m' + i)) ∧ ∀ b k, 10 ≤ b → b ≤ 13 → k < 6 → hI g (q + b) (6 * m' + k) = hI h (q + b) (6 * m' + k)
theorem pm_row {A : Nat → Prop} (pw : PW P) (pm : PM h q P) (hm : m < p_nm P) (e : EqM P P' m) (f : Fm q F40 A h g) (hA : ∀ b, A b → (q + 1 ≤ b ∧ b ≤ q + 14) ∨ b = q + 22) (f5 : Fr5 q m h g) (mm : PMm g q P' m) : PM g q P' := by
  obtain ⟨n1, n2, n3⟩ := e.n
  obtain ⟨p1, p2, p3, p4, p5, p6⟩ := pm
  have nA : ∀ b, 15 ≤ b ∧ b ≤ 21 → hI g (q + b) = hI h (q + b) ∧ hL g (q + b) = hL h (q + b) := fun b hb => f.2.2.2.1 (q + b) (by omega) (fun z => by have := hA _ z; omega)
  have k0 : ∀ k, hI g q k = hI h q k := fun k => (f.2.2.2.2 k (fun z => z)).1
  refine ⟨by rw [n1, n2, n3, k0, k0, k0]; exact p1, fun m' hm' => ?_, fun t ht => ?_, fun c hc => ?_, fun m' h1 h2 => ?_, fun t h1 h2 => ?_⟩
  · rw [n1] at hm'
    by_cases c : m' = m
    · subst c; exact mm
    · obtain ⟨⟨v1, v2, v3, v4, v5⟩, v6, v7, v8⟩ := p2 m' hm'
      have w := pw.2.2.2.1 m' hm'
      obtain ⟨⟨a1, a2, a3, a4, a5⟩, a6, a7, a8⟩ := e.mr c
      obtain ⟨b1, b2, b3, b4⟩ := f5 m' c
      have c2 := w.2.1
      have c4 := w.2.2.2.1
      have c5 := w.2.2.2.2.1
      refine ⟨⟨by rw [a1, b1 1 (by omega)]; exact v1, by rw [a2, b1 2 (by omega)]; exact v2, by rw [a3, b1 3 (by omega)]; exact v3, by rw [a4, b1 5 (by omega)]; exact v4, by rw [a5, b1 9 (by omega)]; exact v5⟩, fun k hk => ?_, fun i hi => ?_, fun k hk => ?_⟩
      · rw [a2] at hk
        rw [a6, b2 k (by omega)]; exact v6 k hk
      · rw [a4] at hi
        obtain ⟨d1, d2, d3⟩ := a7 i
        rw [d1, d2, d3, b3 6 i (by omega) (by omega) (by omega), b3 7 i (by omega) (by omega) (by omega), b3 8 i (by omega) (by omega) (by omega)]; exact v7 i hi
      · rw [a5] at hk
        obtain ⟨d1, d2, d3, d4⟩ := a8 k
        rw [d1, d2, d3, d4, b4 10 k (by omega) (by omega) (by omega), b4 11 k (by omega) (by omega) (by omega), b4 12 k (by omega) (by omega) (by omega), b4 13 k (by omega) (by omega) (by omega)]; exact v8 k hk
  · rw [n3] at ht
    obtain ⟨⟨a1, a2, a3, a4⟩, a5⟩ := e.t t
    obtain ⟨⟨v1, v2, v3, v4⟩, v5⟩ := p3 t ht
    refine ⟨⟨by rw [a3, (nA 16 (by omega)).1]; exact v1, by rw [a4, (nA 17 (by omega)).1]; exact v2, by rw [a1, (nA 18 (by omega)).1]; exact v3, by rw [a2, (nA 19 (by omega)).1]; exact v4⟩, fun x hx => ?_⟩
    rw [a2] at hx
    rw [(a5 x).1, (a5 x).2, (nA 20 (by omega)).1, (nA 21 (by omega)).1]; exact v5 x hx
  · rw [n2] at hc
    rw [(nA 15 (by omega)).2, e.c]; exact p4 c hc
  · rw [n1] at h1
    obtain ⟨b1, -⟩ := f5 m' (by omega)
    rw [b1 2 (by omega), b1 3 (by omega), b1 5 (by omega), b1 9 (by omega)]; exact p5 m' h1 h2
  · rw [n3] at h1
    rw [(nA 19 (by omega)).1]; exact p6 t h1 h2
end GR
