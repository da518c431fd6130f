/-! one table's row of the program is changed: the model -/
section GT3
variable {h g : Hp} {o q : Nat} {G : Gs} {P P' : Pg} {t : Nat}
def Ft5 (q t : Nat) (h g : Hp) : Prop := ∀ t', t' ≠ t → (∀ b, 16 ≤ b → b ≤ 19 → hI g (q + b) t' = hI h (q + b) t') ∧ ∀ b x, b = 20 ∨ b = 21 → x < 8 → hI g (q + b) (8 * t' + x) = hI h (q + b) (8 * t' + x)
theorem pmT_row {A : Nat → Prop} (pw : PW P) (pm : PM h q P) (ht : t < p_nt P) (e : EqT P P' t) (f : Fm q F40 A h g) (hA : ∀ b, A b → b = q + 14 ∨ (q + 16 ≤ b ∧ b ≤ q + 22)) (f5 : Ft5 q t h g) (mm : PMt g q P' t) : PM g q P' := by
  obtain ⟨n1, n2, n3⟩ := e.n
  obtain ⟨p1, p2, p3, p4, p5, p6⟩ := pm
  have nA : ∀ b, 1 ≤ b ∧ b ≤ 15 ∧ b ≠ 14 → hI g (q + b) = hI h (q + b) ∧ hL g (q + b) = hL h (q + b) := fun b hb => f.2.2.2.1 (q + b) (by omega) (fun z => by have := hA _ z; omega)
  have k0 : ∀ k, hI g q k = hI h q k := fun k => (f.2.2.2.2 k (fun z => z)).1
  refine ⟨by rw [n1, n2, n3, k0, k0, k0]; exact p1, fun m hm => ?_, fun t' ht' => ?_, fun c hc => ?_, fun m h1 h2 => ?_, fun t' h1 h2 => ?_⟩
  · rw [n1] at hm
    obtain ⟨⟨v1, v2, v3, v4, v5⟩, v6, v7, v8⟩ := p2 m hm
    obtain ⟨⟨a1, a2, a3, a4, a5⟩, a6, a7, a8⟩ := e.mr m
    refine ⟨⟨by rw [a1, (nA 1 (by omega)).1]; exact v1, by rw [a2, (nA 2 (by omega)).1]; exact v2, by rw [a3, (nA 3 (by omega)).1]; exact v3, by rw [a4, (nA 5 (by omega)).1]; exact v4, by rw [a5, (nA 9 (by omega)).1]; exact v5⟩, fun k hk => ?_, fun i hi => ?_, fun k hk => ?_⟩
    · rw [a2] at hk
      rw [a6, (nA 4 (by omega)).1]; exact v6 k hk
    · rw [a4] at hi
      obtain ⟨d1, d2, d3⟩ := a7 i
      rw [d1, d2, d3, (nA 6 (by omega)).1, (nA 7 (by omega)).1, (nA 8 (by omega)).1]; exact v7 i hi
    · rw [a5] at hk
      obtain ⟨d1, d2, d3, d4⟩ := a8 k
      rw [d1, d2, d3, d4, (nA 10 (by omega)).1, (nA 11 (by omega)).1, (nA 12 (by omega)).1, (nA 13 (by omega)).1]; exact v8 k hk
  · rw [n3] at ht'
    by_cases c : t' = t
    · subst c; exact mm
    · obtain ⟨⟨a1, a2, a3, a4⟩, a5⟩ := e.tr c
      obtain ⟨⟨v1, v2, v3, v4⟩, v5⟩ := p3 t' ht'
      obtain ⟨b1, b2⟩ := f5 t' c
      have w := (pw.2.2.2.2 t' ht').2.1
      refine ⟨⟨by rw [a3, b1 16 (by omega) (by omega)]; exact v1, by rw [a4, b1 17 (by omega) (by omega)]; exact v2, by rw [a1, b1 18 (by omega) (by omega)]; exact v3, by rw [a2, b1 19 (by omega) (by omega)]; exact v4⟩, fun x hx => ?_⟩
      rw [a2] at hx
      rw [(a5 x).1, (a5 x).2, b2 20 x (by omega) (by omega), b2 21 x (by omega) (by omega)]; exact v5 x hx
  · rw [n2] at hc
    rw [(nA 15 (by omega)).2, e.c]; exact p4 c hc
  · rw [n1] at h1
    rw [(nA 2 (by omega)).1, (nA 3 (by omega)).1, (nA 5 (by omega)).1, (nA 9 (by omega)).1]; exact p5 m h1 h2
  · rw [n3] at h1
    rw [(f5 t' (by omega)).1 19 (by omega) (by omega)]; exact p6 t' h1 h2
end GT3
