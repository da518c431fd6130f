/-! the model's moves -/
section MC
variable {q : Nat} {P : Pg} {d u v : Nat} {σ l : Nat → Nat}
/-- the rows that the moves use -/
def MS (h : Hp) (q d : Nat) (l : Nat → Nat) : Prop := (hT h q = some (.inl 11) ∧ hR h q 30 = some (q + 27) ∧ hT h (q + 27) = some (.inr (.int, 64))) ∧ hI h q 29 = nI d ∧ ∀ j, j < 16 → hI h (q + 28) j = nI (l j) ∧ l j < 8
theorem MS.w {h : Hp} (m : MS h q d l) (i : Nat) (y : Int32) : MS (wI h (q + 27) i y) q d l := ⟨m.1, by rw [hI_wI_a (by omega)]; exact m.2.1, fun j hj => by rw [hI_wI_a (by omega)]; exact m.2.2 j hj⟩
theorem cq_3 (hu : 1 ≤ u) (hle : u + v ≤ d) (hd : d + u ≤ 16) (hs : ∀ p, p < d → σ p < 8) : ∀ (n k : Nat) (h : Hp), k ≤ u → u - k < n → MS h q d l → (∀ j, j < u → hI h (q + 27) (d + j) = nI (σ (d - u + j))) → (∀ p, d - v ≤ p → p < d → hI h (q + 27) p = nI (σ (p - u))) → (∀ j, j < k → hI h (q + 27) (d - u - v + j) = nI (σ (d - u + j))) → (∀ p, p < d - u - v → hI h (q + 27) p = nI (σ p)) →
    Ok (BX12_copies_100 n (some q) (nI u) (nI v) (nI k) h) (fun r g => r = 1 ∧ Mv g q (d + u) (cpG σ d v u) l ∧ Fq q F29 (A27 q) h g) := by
  intro n
  induction n with
  | zero => intro k h h1 h2; omega
  | succ n ih =>
    intro k h h1 h2 ms a1 a2 a3 a4
    obtain ⟨⟨t0, r30, t27⟩, m1, m2⟩ := id ms
    unfold BX12_copies_100
    rw [if_lt (by omega) (by omega)]
    by_cases c : k < u
    · rw [if_pos c, gR_ok t0, r30, gI_ok t0, m1, gR_ok t0, r30, gI_ok t0, m1, nI_add, aI_n t27 (by omega) (by decide), a1 k c, pk_sub (by omega), pk_sub (by omega), nI_add, sI_n t27 (by omega) (by decide), nI_1]
      refine (ih (k + 1) _ (by omega) (by omega) (ms.w _ _) (fun j hj => ?_) (fun p h1 h2 => ?_) (fun j hj => ?_) (fun p hp => ?_)).mono (fun r g x => ⟨x.1, x.2.1, q27w.trans x.2.2⟩)
      · rw [hI_wI_k (by omega)]; exact a1 j hj
      · rw [hI_wI_k (by omega)]; exact a2 p h1 h2
      · by_cases e : j = k
        · subst e; exact hI_wI_s
        · rw [hI_wI_k (by omega)]; exact a3 j (by omega)
      · rw [hI_wI_k (by omega)]; exact a4 p hp
    · have ek : k = u := by omega
      subst ek
      rw [if_neg c, gI_ok t0, m1, nI_add, pI_ok t0, bz_1]
      refine ok_some ⟨rfl, ⟨⟨hI_wI_s, by omega⟩, fun p hp => ?_, fun j hj => by rw [hI_wI_a (by omega)]; exact m2 j hj⟩, q29w⟩
      rw [hI_wI_a (by omega)]
      unfold cpG
      by_cases e1 : p < d - v - k
      · rw [if_pos e1, a4 p (by omega)]; exact ⟨rfl, hs p (by omega)⟩
      · rw [if_neg e1]
        by_cases e2 : p < d - v
        · rw [if_pos e2]
          have := a3 (p - (d - v - k)) (by omega)
          rw [show d - k - v + (p - (d - v - k)) = p by omega] at this
          rw [this]; exact ⟨rfl, hs _ (by omega)⟩
        · rw [if_neg e2]
          by_cases e3 : p < d
          · rw [a2 p (by omega) e3]; exact ⟨rfl, hs _ (by omega)⟩
          · have := a1 (p - d) (by omega)
            rw [show d + (p - d) = p by omega, show d - k + (p - d) = p - k by omega] at this
            rw [this]; exact ⟨rfl, hs _ (by omega)⟩
theorem cq_2 (hu : 1 ≤ u) (hle : u + v ≤ d) (hd : d + u ≤ 16) (hs : ∀ p, p < d → σ p < 8) : ∀ (n k : Nat) (h : Hp), k ≤ v → v - k < n → MS h q d l → (∀ j, j < u → hI h (q + 27) (d + j) = nI (σ (d - u + j))) → (∀ p, d - k ≤ p → p < d → hI h (q + 27) p = nI (σ (p - u))) → (∀ p, p < d - k → hI h (q + 27) p = nI (σ p)) →
    Ok (BX12_copies_59 n (some q) (nI u) (nI v) (nI k) h) (fun r g => r = 1 ∧ Mv g q (d + u) (cpG σ d v u) l ∧ Fq q F29 (A27 q) h g) := by
  intro n
  induction n with
  | zero => intro k h h1 h2; omega
  | succ n ih =>
    intro k h h1 h2 ms a1 a2 a4
    obtain ⟨⟨t0, r30, t27⟩, m1, m2⟩ := id ms
    unfold BX12_copies_59
    rw [if_lt (by omega) (by omega)]
    by_cases c : k < v
    · rw [if_pos c, gR_ok t0, r30, gI_ok t0, m1, gR_ok t0, r30, gI_ok t0, m1, nI_p1 (by omega), pk_sub (by omega), pk_sub (by omega), pk_sub (by omega), aI_n t27 (by omega) (by decide), a4 _ (by omega), sI_n t27 (by omega) (by decide), nI_1]
      refine (ih (k + 1) _ (by omega) (by omega) (ms.w _ _) (fun j hj => ?_) (fun p h1 h2 => ?_) (fun p hp => ?_)).mono (fun r g x => ⟨x.1, x.2.1, q27w.trans x.2.2⟩)
      · rw [hI_wI_k (by omega)]; exact a1 j hj
      · by_cases e : p = d - 1 - k
        · subst e; rw [hI_wI_s]; congr 2; omega
        · rw [hI_wI_k e]; exact a2 p (by omega) h2
      · rw [hI_wI_k (by omega)]; exact a4 p (by omega)
    · rw [if_neg c, nI_c0]
      have ek : k = v := by omega
      subst ek
      exact cq_3 hu hle hd hs 100000 0 h (by omega) (by omega) ms a1 a2 (fun j hj => by omega) (fun p hp => a4 p (by omega))
theorem cq_1 (hu : 1 ≤ u) (hle : u + v ≤ d) (hd : d + u ≤ 16) (hs : ∀ p, p < d → σ p < 8) : ∀ (n k : Nat) (h : Hp), k ≤ u → u - k < n → MS h q d l → (∀ j, j < k → hI h (q + 27) (d + j) = nI (σ (d - u + j))) → (∀ p, p < d → hI h (q + 27) p = nI (σ p)) →
    Ok (BX12_copies_22 n (some q) (nI u) (nI v) (nI k) h) (fun r g => r = 1 ∧ Mv g q (d + u) (cpG σ d v u) l ∧ Fq q F29 (A27 q) h g) := by
  intro n
  induction n with
  | zero => intro k h h1 h2; omega
  | succ n ih =>
    intro k h h1 h2 ms a1 a4
    obtain ⟨⟨t0, r30, t27⟩, m1, m2⟩ := id ms
    unfold BX12_copies_22
    rw [if_lt (by omega) (by omega)]
    by_cases c : k < u
    · rw [if_pos c, gR_ok t0, r30, gI_ok t0, m1, gR_ok t0, r30, gI_ok t0, m1, pk_sub (by omega), nI_add, nI_add, aI_n t27 (by omega) (by decide), a4 _ (by omega), sI_n t27 (by omega) (by decide), nI_1]
      refine (ih (k + 1) _ (by omega) (by omega) (ms.w _ _) (fun j hj => ?_) (fun p hp => ?_)).mono (fun r g x => ⟨x.1, x.2.1, q27w.trans x.2.2⟩)
      · by_cases e : j = k
        · subst e; exact hI_wI_s
        · rw [hI_wI_k (by omega)]; exact a1 j (by omega)
      · rw [hI_wI_k (by omega)]; exact a4 p hp
    · rw [if_neg c, nI_c0]
      have ek : k = u := by omega
      subst ek
      exact cq_2 hu hle hd hs 100000 0 h (by omega) (by omega) ms a1 (fun p h1 h2 => by omega) (fun p hp => a4 p (by omega))
variable {h : Hp}
theorem m_copies (lm : LM (hT h) (hR h) q) (mv : Mv h q d σ l) (hu : 1 ≤ u) (hu2 : u ≤ 2) (hv : v ≤ 2) (hd : d ≤ 12) : Ok (FX12_copies (some q) (nI u) (nI v) h) (fun r g => Fq q F29 (A27 q) h g ∧ ((u + v ≤ d ∧ σ (d - u - v) < 6 ∧ σ (d - u) < 6) ∧ r = 1 ∧ Mv g q (d + u) (cpG σ d v u) l ∨ ¬ (u + v ≤ d ∧ σ (d - u - v) < 6 ∧ σ (d - u) < 6) ∧ r = 0 ∧ ∃ d', d' ≤ d ∧ Mv g q d' σ l)) := by
  have t0 : hT h q = some (.inl 11) := lm.1
  have r30 : hR h q 30 = some (q + 27) := by obtain ⟨mt0, ⟨mr1, mt1⟩, ⟨mr2, mt2⟩, ⟨mr3, mt3⟩, ⟨mr4, mt4⟩, ⟨mr5, mt5⟩, ⟨mr6, mt6⟩, ⟨mr7, mt7⟩, ⟨mr8, mt8⟩, ⟨mr9, mt9⟩, ⟨mr10, mt10⟩, ⟨mr11, mt11⟩, ⟨mr12, mt12⟩, ⟨mr13, mt13⟩, ⟨mr14, mt14⟩, ⟨mr15, mt15⟩, ⟨mr16, mt16⟩, ⟨mr17, mt17⟩, ⟨mr18, mt18⟩, ⟨mr19, mt19⟩, ⟨mr20, mt20⟩, ⟨mr21, mt21⟩, ⟨mr22, mt22⟩, ⟨mr23, mt23⟩, ⟨mr24, mt24⟩, ⟨mr25, mt25⟩, ⟨mr26, mt26⟩, ⟨mr27, mt27⟩, ⟨mr28, mt28⟩, ⟨mr29, mt29⟩, ⟨mr30, mt30⟩, ⟨mr31, mt31⟩, ⟨mr32, mt32⟩, ⟨mr33, mt33⟩, ⟨mr34, mt34⟩, ⟨mr35, mt35⟩, ⟨mr36, mt36⟩, ⟨mr37, mt37⟩, ⟨mr38, mt38⟩, ⟨mr39, mt39⟩, ⟨mr40, mt40⟩, ⟨mr41, mt41⟩, ⟨mr42, mt42⟩, ⟨mr43, mt43⟩⟩ := id lm; exact mr27
  have t27 : hT h (q + 27) = some (.inr (.int, 64)) := by obtain ⟨mt0, ⟨mr1, mt1⟩, ⟨mr2, mt2⟩, ⟨mr3, mt3⟩, ⟨mr4, mt4⟩, ⟨mr5, mt5⟩, ⟨mr6, mt6⟩, ⟨mr7, mt7⟩, ⟨mr8, mt8⟩, ⟨mr9, mt9⟩, ⟨mr10, mt10⟩, ⟨mr11, mt11⟩, ⟨mr12, mt12⟩, ⟨mr13, mt13⟩, ⟨mr14, mt14⟩, ⟨mr15, mt15⟩, ⟨mr16, mt16⟩, ⟨mr17, mt17⟩, ⟨mr18, mt18⟩, ⟨mr19, mt19⟩, ⟨mr20, mt20⟩, ⟨mr21, mt21⟩, ⟨mr22, mt22⟩, ⟨mr23, mt23⟩, ⟨mr24, mt24⟩, ⟨mr25, mt25⟩, ⟨mr26, mt26⟩, ⟨mr27, mt27⟩, ⟨mr28, mt28⟩, ⟨mr29, mt29⟩, ⟨mr30, mt30⟩, ⟨mr31, mt31⟩, ⟨mr32, mt32⟩, ⟨mr33, mt33⟩, ⟨mr34, mt34⟩, ⟨mr35, mt35⟩, ⟨mr36, mt36⟩, ⟨mr37, mt37⟩, ⟨mr38, mt38⟩, ⟨mr39, mt39⟩, ⟨mr40, mt40⟩, ⟨mr41, mt41⟩, ⟨mr42, mt42⟩, ⟨mr43, mt43⟩⟩ := id lm; exact mt27
  obtain ⟨⟨v1, v2⟩, v3, v4⟩ := id mv
  unfold FX12_copies
  rw [rcv_ok t0, m_whole lm mv hu (by omega), cl_ok, b2i_if]
  by_cases c1 : u ≤ d ∧ σ (d - u) < 6
  · rw [decide_eq_true c1, if_pos rfl, rcv_ok t0, nI_add, m_whole lm mv (by omega) (by omega), cl_ok, b2i_if]
    by_cases c2 : u + v ≤ d ∧ σ (d - (u + v)) < 6
    · rw [decide_eq_true c2, if_pos rfl, nI_c0]
      have e : d - u - v = d - (u + v) := by omega
      refine (cq_1 hu (by omega) (by omega) (fun p hp => (v3 p hp).2) 100000 0 h (by omega) (by omega) ⟨⟨t0, r30, t27⟩, v1, v4⟩ (fun j hj => by omega) (fun p hp => (v3 p hp).1)).mono (fun r g x => ⟨x.2.2, Or.inl ⟨⟨by omega, by rw [e]; exact c2.2, c1.2⟩, x.1, x.2.1⟩⟩)
    · rw [decide_eq_false c2, if_neg (by decide), bz_0]
      have e : d - u - v = d - (u + v) := by omega
      exact ok_some ⟨Fq.refl, Or.inr ⟨fun z => c2 ⟨by omega, by rw [← e]; exact z.2.1⟩, rfl, d, by omega, mv⟩⟩
  · rw [decide_eq_false c1, if_neg (by decide), bz_0]
    exact ok_some ⟨Fq.refl, Or.inr ⟨fun z => c1 ⟨by omega, z.2.2⟩, rfl, d, by omega, mv⟩⟩
end MC
