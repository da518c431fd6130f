/-! one table's row of the program is changed: what that leaves, on both sides -/
def EqT (P P' : Pg) (t : Nat) : Prop := (∀ c t' k, t' ≠ t ∨ c < 13 → P'.1 c t' k = P.1 c t' k) ∧ (∀ c t' k, t' ≠ t ∨ c < 3 → P'.2.1 c t' k = P.2.1 c t' k) ∧ P'.2.2 = P.2.2
section GT2
variable {h g : Hp} {o q : Nat} {G : Gs} {P P' : Pg} {t : Nat}
theorem EqT.mr (e : EqT P P' t) (m : Nat) : (p_re P' m = p_re P m ∧ p_na P' m = p_na P m ∧ p_nw P' m = p_nw P m ∧ p_no P' m = p_no P m ∧ p_nh P' m = p_nh P m) ∧ (∀ k, p_ka P' m k = p_ka P m k) ∧ (∀ i, p_op P' m i = p_op P m i ∧ p_A P' m i = p_A P m i ∧ p_B P' m i = p_B P m i) ∧ ∀ k, p_hf P' m k = p_hf P m k ∧ p_hu P' m k = p_hu P m k ∧ p_hg P' m k = p_hg P m k ∧ p_hn P' m k = p_hn P m k := by
  have a : ∀ c k, c < 13 → P'.1 c m k = P.1 c m k := fun c k hc => e.1 c m k (Or.inr hc)
  have b : ∀ c k, c < 3 → P'.2.1 c m k = P.2.1 c m k := fun c k hc => e.2.1 c m k (Or.inr hc)
  exact ⟨⟨a 3 0 (by omega), a 4 0 (by omega), a 5 0 (by omega), a 7 0 (by omega), a 9 0 (by omega)⟩, fun k => a 6 k (by omega), fun i => ⟨a 8 i (by omega), b 0 i (by omega), b 1 i (by omega)⟩, fun k => ⟨a 10 k (by omega), a 11 k (by omega), a 12 k (by omega), b 2 k (by omega)⟩⟩
theorem EqT.n (e : EqT P P' t) : p_nm P' = p_nm P ∧ p_nc P' = p_nc P ∧ p_nt P' = p_nt P := ⟨e.1 0 0 0 (by omega), e.1 1 0 0 (by omega), e.1 2 0 0 (by omega)⟩
theorem EqT.tr {t' : Nat} (e : EqT P P' t) (ht : t' ≠ t) : (p_ot P' t' = p_ot P t' ∧ p_ne P' t' = p_ne P t' ∧ p_sp P' t' = p_sp P t' ∧ p_lo P' t' = p_lo P t') ∧ ∀ x, p_tt P' t' x = p_tt P t' x ∧ p_ky P' t' x = p_ky P t' x := ⟨⟨e.1 _ _ _ (Or.inl ht), e.1 _ _ _ (Or.inl ht), e.1 _ _ _ (Or.inl ht), e.2.1 _ _ _ (Or.inl ht)⟩, fun x => ⟨e.1 _ _ _ (Or.inl ht), e.2.1 _ _ _ (Or.inl ht)⟩⟩
theorem EqT.c (e : EqT P P' t) (c : Nat) : p_c P' c = p_c P c := by
  unfold p_c; rw [e.2.2]
theorem pwT_row (pw : PW P) (e : EqT P P' t) (wt : PWt P' t) : PW P' := by
  obtain ⟨n1, n2, n3⟩ := e.n
  refine ⟨by rw [n1]; exact pw.1, by rw [n2]; exact pw.2.1, by rw [n3]; exact pw.2.2.1, fun m hm => ?_, fun t' ht' => ?_⟩
  · obtain ⟨⟨a1, a2, a3, a4, a5⟩, a6, a7, a8⟩ := e.mr m
    obtain ⟨w1, w2, w3, w4, w5, w6, w7, w8, w9⟩ := pw.2.2.2.1 m (by rw [n1] at hm; exact hm)
    refine ⟨by rw [a1]; exact w1, by rw [a2]; exact w2, by rw [a3]; exact w3, by rw [a4]; exact w4, by rw [a5]; exact w5, ?_, fun k hk => ?_, fun i hi => ?_, fun k hk => ?_⟩
    · rw [paw_c a6, a2, a3]; exact w6
    · rw [a6]; exact w7 k (by rw [a2] at hk; exact hk)
    · rw [(a7 i).1]; exact w8 i (by rw [a4] at hi; exact hi)
    · obtain ⟨b1, b2, b3, b4⟩ := a8 k
      rw [b1, b2, b3, b4]; exact w9 k (by rw [a5] at hk; exact hk)
  · by_cases c : t' = t
    · subst c; exact wt
    · obtain ⟨⟨a1, a2, a3, a4⟩, a5⟩ := e.tr c
      have b1 : ∀ x, p_tt P' t' x = p_tt P t' x := fun x => (a5 x).1
      have b2 : ∀ x, p_ky P' t' x = p_ky P t' x := fun x => (a5 x).2
      have w := pw.2.2.2.2 t' (by rw [n3] at ht'; exact ht')
      unfold PWt at w ⊢
      simp only [a1, a2, a3, a4, b1, b2]
      exact w
theorem pcT_row {ma ta : Nat → Nat} {A : Nat → Prop} (pc : PC h o ma ta P) (ap : Apt o ma ta P) (ht : t < p_nt P) (e : EqT P P' t) (f : Fr A h g) (hA : ∀ b, A b → ta t ≤ b ∧ b ≤ ta t + 2) (tc : TC g (ta t) P' t) : PC g o ma ta P' := by
  obtain ⟨n1, n2, n3⟩ := e.n
  obtain ⟨p1, p2, p3, p4, p5⟩ := pc
  have om := ap.2.1 t ht
  have nA : ∀ b, ¬ (ta t ≤ b ∧ b ≤ ta t + 2) → ¬ A b := fun b hb z => hb (hA b z)
  refine ⟨by rw [f.1, f.2.1]; exact p1, by rw [n1, n2, n3, (f.2.2.2 (o + 1) (nA _ (by omega))).1]; exact p2, fun m hm => ?_, fun t' ht' => ?_, fun c hc => ?_⟩
  · rw [n1] at hm
    obtain ⟨x1, x2, x3⟩ := p3 m hm
    refine ⟨by rw [f.2.1]; exact x1, by rw [f.1, f.2.1]; exact x2, ?_⟩
    have := ap.2.2.2.2 m t hm ht
    obtain ⟨⟨a1, a2, a3, a4, a5⟩, a6, a7, a8⟩ := e.mr m
    obtain ⟨⟨v1, v2, v3, v4, v5⟩, v6, v7, v8⟩ := x3.fr f (fun b h1 h2 => nA b (by omega))
    refine ⟨⟨by rw [a1]; exact v1, by rw [a2]; exact v2, by rw [a3]; exact v3, by rw [a4]; exact v4, by rw [a5]; exact v5⟩, fun k hk => ?_, fun i hi => ?_, fun k hk => ?_⟩
    · rw [a6]; exact v6 k (by rw [a2] at hk; exact hk)
    · obtain ⟨b1, b2, b3⟩ := a7 i
      rw [b1, b2, b3]; exact v7 i (by rw [a4] at hi; exact hi)
    · obtain ⟨b1, b2, b3, b4⟩ := a8 k
      rw [b1, b2, b3, b4]; exact v8 k (by rw [a5] at hk; exact hk)
  · rw [n3] at ht'
    obtain ⟨x1, x2, x3⟩ := p4 t' ht'
    refine ⟨by rw [f.2.1]; exact x1, by rw [f.1, f.2.1]; exact x2, ?_⟩
    by_cases c : t' = t
    · subst c; exact tc
    · have := ap.2.2.2.1 t' t ht' ht c
      obtain ⟨⟨a1, a2, a3, a4⟩, a5⟩ := e.tr c
      obtain ⟨⟨v1, v2, v3, v4⟩, v5⟩ := x3.fr f (fun b h1 h2 => nA b (by omega))
      refine ⟨⟨by rw [a3]; exact v1, by rw [a4]; exact v2, by rw [a1]; exact v3, by rw [a2]; exact v4⟩, fun x hx => ?_⟩
      rw [(a5 x).1, (a5 x).2]; exact v5 x (by rw [a2] at hx; exact hx)
  · rw [n2] at hc
    rw [(f.2.2.2 (o + 3) (nA _ (by omega))).2, e.c]; exact p5 c hc
end GT2
