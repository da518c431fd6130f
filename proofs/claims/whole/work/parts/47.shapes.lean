/-! Shapes: the table of a method's shapes: depths dp, stacks sk, locals lc, due du -/
def b2i (b : Bool) : Int32 := if b = true then 1 else 0
theorem b2i_or (b : Bool) : b2i b = 0 ∨ b2i b = 1 := by cases b <;> simp [b2i]
theorem b2i_0 (b : Bool) : b2i b = 0 ↔ b = false := by cases b <;> simp [b2i]
def d2i (d : Option Nat) : Int32 := match d with
  | none => -1
  | some n => nI n
abbrev Tab : Type := (Nat → Option Nat) × (Nat → Nat → Nat) × (Nat → Nat → Nat) × (Nat → Bool)
def Tv (h : Hp) (sh dp sk lc du : Nat) (t : Tab) : Prop := hT h sh = some (.inl 5) ∧ (hR h sh 0 = some dp ∧ hR h sh 1 = some sk ∧ hR h sh 2 = some lc ∧ hR h sh 3 = some du) ∧ (hT h dp = some (.inr (.int, 60)) ∧ hT h sk = some (.inr (.long, 720)) ∧ hT h lc = some (.inr (.long, 960)) ∧ hT h du = some (.inr (.boolean, 60))) ∧ (dp ≠ du ∧ sk ≠ lc ∧ dp ≠ sk ∧ dp ≠ lc ∧ du ≠ sk ∧ du ≠ lc) ∧
  (∀ i, i < 60 → hI h dp i = d2i (t.1 i) ∧ hI h du i = b2i (t.2.2.2 i)) ∧ ∀ i d, i < 60 → t.1 i = some d → d ≤ 12 ∧ (∀ k, k < d → hL h sk (12 * i + k) = lN (t.2.1 i k) ∧ t.2.1 i k < 8) ∧ (∀ j, j < 16 → hL h lc (16 * i + j) = lN (t.2.2.1 i j) ∧ t.2.2.1 i j < 8)
def At (dp sk lc du : Nat) : Nat → Prop := fun b => b = dp ∨ b = sk ∨ b = lc ∨ b = du
theorem Tv.fr {h g : Hp} {sh dp sk lc du : Nat} {t : Tab} {A : Nat → Prop} (v : Tv h sh dp sk lc du t) (f : Fr A h g) (h1 : ¬ A dp) (h2 : ¬ A sk) (h3 : ¬ A lc) (h4 : ¬ A du) : Tv g sh dp sk lc du t := by
  obtain ⟨a1, a2, a3, a4, a5, a6⟩ := v
  refine ⟨by rw [f.1]; exact a1, by rw [f.2.1]; exact a2, by rw [f.1]; exact a3, a4, fun i hi => ?_, fun i d hi hd => ?_⟩
  · rw [(f.2.2.2 dp h1).1, (f.2.2.2 du h4).1]; exact a5 i hi
  · obtain ⟨b1, b2, b3⟩ := a6 i d hi hd
    exact ⟨b1, fun k hk => by rw [(f.2.2.2 sk h2).2]; exact b2 k hk, fun j hj => by rw [(f.2.2.2 lc h3).2]; exact b3 j hj⟩
theorem d2i_none {d : Option Nat} (hd : ∀ n, d = some n → n ≤ 12) : d2i d = -1 ↔ d = none := by
  cases d with
  | none => exact ⟨fun _ => rfl, fun _ => rfl⟩
  | some n =>
    have := hd n rfl
    refine ⟨fun e => ?_, fun e => by cases e⟩
    have e2 := congrArg Int32.toInt e
    have e3 : (nI n).toInt = n := nI_tI (by omega)
    have e4 : (-1 : Int32).toInt = -1 := rfl
    have e5 : (d2i (some n)).toInt = n := e3
    omega
/-- nothing is known, nothing is due -/
def tab0 (t : Tab) : Tab := (fun _ => none, t.2.1, t.2.2.1, fun _ => false)
theorem fo_loop {sh dp sk lc du : Nat} {t : Tab} : ∀ (n j : Nat) (h : Hp), j ≤ 60 → 60 - j < n → Tv h sh dp sk lc du ((fun i => if i < j then none else t.1 i), t.2.1, t.2.2.1, (fun i => if i < j then false else t.2.2.2 i)) →
    Ok (BX6_forget_2 n (some sh) (nI j) h) (fun _ g => Tv g sh dp sk lc du (tab0 t) ∧ Fr (At dp sk lc du) h g) := by
  intro n
  induction n with
  | zero => intro j h h1 h2; omega
  | succ n ih =>
    intro j h h1 h2 v
    obtain ⟨a1, ⟨r0, r1, r2, r3⟩, ⟨t0, t1, t2, t3⟩, a4, a5, a6⟩ := id v
    unfold BX6_forget_2
    rw [show (60 : Int32) = nI 60 from rfl, if_lt (by omega) (by omega)]
    by_cases c : j < 60
    · rw [if_pos c, gR_ok a1, r0, sI_n t0 c (by decide), gR_ok (show hT (wI h dp j (-1)) sh = _ from a1), show hR (wI h dp j (-1)) sh 3 = _ from r3, sZ_n (show hT (wI h dp j (-1)) du = _ from t3) c (by decide) (Or.inl rfl), nI_1]
      refine (ih (j + 1) (wI (wI h dp j (-1)) du j 0) (by omega) (by omega) ⟨a1, ⟨r0, r1, r2, r3⟩, ⟨t0, t1, t2, t3⟩, a4, fun i hi => ?_, fun i d hi hd => ?_⟩).mono (fun _ g q => ⟨q.1, ((Fr.wI (Or.inl rfl)).trans (Fr.wI (Or.inr (Or.inr (Or.inr rfl))))).trans q.2⟩)
      · have := a5 i hi
        dsimp only at this ⊢
        by_cases e : i = j
        · subst e
          rw [hI_wI_a a4.1, hI_wI_s, hI_wI_s, if_pos (by omega), if_pos (by omega)]
          exact ⟨rfl, rfl⟩
        · rw [hI_wI_a a4.1, hI_wI_k e, hI_wI_k e, hI_wI_a (fun z => a4.1 z.symm)]
          by_cases e2 : i < j
          · rw [if_pos e2, if_pos e2] at this
            rw [if_pos (by omega), if_pos (by omega)]; exact this
          · rw [if_neg e2, if_neg e2] at this
            rw [if_neg (by omega), if_neg (by omega)]; exact this
      · dsimp only at hd
        by_cases e2 : i < j + 1
        · rw [if_pos e2] at hd; cases hd
        · rw [if_neg e2] at hd
          exact a6 i d hi (by dsimp only; rw [if_neg (by omega)]; exact hd)
    · rw [if_neg c]
      refine ok_some ⟨⟨a1, ⟨r0, r1, r2, r3⟩, ⟨t0, t1, t2, t3⟩, a4, fun i hi => ?_, fun i d hi hd => by cases hd⟩, Fr.refl _ _⟩
      have := a5 i hi
      dsimp only at this
      rw [if_pos (by omega), if_pos (by omega)] at this
      exact this
theorem k_forget {h : Hp} {sh dp sk lc du : Nat} {t : Tab} (v : Tv h sh dp sk lc du t) : Ok (FX6_forget (some sh) h) (fun _ g => Tv g sh dp sk lc du (tab0 t) ∧ Fr (At dp sk lc du) h g) := by
  unfold FX6_forget
  rw [nI_c0]
  refine fo_loop 100000 0 h (by omega) (by omega) ?_
  have e1 : (fun i => if i < 0 then none else t.1 i) = t.1 := by funext i; rw [if_neg (by omega)]
  have e2 : (fun i => if i < 0 then false else t.2.2.2 i) = t.2.2.2 := by funext i; rw [if_neg (by omega)]
  rw [e1, e2]
  exact v
theorem ld_loop {h : Hp} {sh dp sk lc du : Nat} {t : Tab} (v : Tv h sh dp sk lc du t) : ∀ (n j : Nat), j ≤ 60 → 60 - j < n → (∀ i, i < j → t.2.2.2 i = false) →
    (∃ i, i < 60 ∧ t.2.2.2 i = true ∧ (∀ k, k < i → t.2.2.2 k = false) ∧ BX6_leastDue_2 n (some sh) (nI j) h = some (nI i, h)) ∨ ((∀ i, i < 60 → t.2.2.2 i = false) ∧ BX6_leastDue_2 n (some sh) (nI j) h = some (-1, h)) := by
  obtain ⟨a1, ⟨r0, r1, r2, r3⟩, ⟨t0, t1, t2, t3⟩, a4, a5, a6⟩ := v
  intro n
  induction n with
  | zero => intro j h1 h2; omega
  | succ n ih =>
    intro j h1 h2 hb
    unfold BX6_leastDue_2
    rw [show (60 : Int32) = nI 60 from rfl, if_lt (by omega) (by omega)]
    by_cases c : j < 60
    · rw [if_pos c, gR_ok a1, r3, aI_n t3 c (by decide), (a5 j c).2]
      cases e : t.2.2.2 j with
      | false =>
        rw [show b2i false = 0 from rfl, if_pos rfl, nI_1]
        exact ih (j + 1) (by omega) (by omega) (fun i hi => by
          by_cases e2 : i = j
          · subst e2; exact e
          · exact hb i (by omega))
      | true =>
        left
        exact ⟨j, c, e, hb, by rw [show b2i true = 1 from rfl, if_neg (by decide)]⟩
    · right
      rw [if_neg c]
      exact ⟨fun i hi => hb i (by omega), rfl⟩
theorem k_leastDue {h : Hp} {sh dp sk lc du : Nat} {t : Tab} (v : Tv h sh dp sk lc du t) : (∃ i, i < 60 ∧ t.2.2.2 i = true ∧ (∀ k, k < i → t.2.2.2 k = false) ∧ FX6_leastDue (some sh) h = some (nI i, h)) ∨ ((∀ i, i < 60 → t.2.2.2 i = false) ∧ FX6_leastDue (some sh) h = some (-1, h)) := by
  unfold FX6_leastDue
  rw [nI_c0]
  exact ld_loop v 100000 0 (by omega) (by omega) (fun i hi => by omega)
/-- a shape of the table comes into a Shape -/
theorem cp_ok {α : Type} {h : Hp} {a0 a1 n0 n1 sp dp x : Nat} {c : Hp → Option α} (t0 : hT h a0 = some (.inr (.long, n0))) (t1 : hT h a1 = some (.inr (.long, n1))) (h0 : sp + x ≤ n0) (h1 : dp + x ≤ n1) (b0 : n0 < 2 ^ 31) (b1 : n1 < 2 ^ 31) : cp h (some a0) (nI sp) (some a1) (nI dp) (nI x) c = c (wLr h a1 (va_cpy (hL h a0) (hL h a1) sp dp x)) := by
  unfold cp
  rw [arl_ok t0, arl_ok t1, nI_clamp (by omega), nI_clamp (by omega), nI_clamp (by omega), if_neg]
  rintro (z | z | z | z | z)
  · exact nI_pos (by omega) z
  · exact nI_pos (by omega) z
  · exact nI_pos (by omega) z
  · omega
  · omega
theorem k_load {h : Hp} {sh dp sk lc du s w wa la d0 i d : Nat} {t : Tab} {σ0 l0 : Nat → Nat} (v : Tv h sh dp sk lc du t) (u : Sv h s w wa la d0 σ0 l0) (hi : i < 60) (hd : t.1 i = some d) (hap : wa ≠ sk ∧ wa ≠ lc ∧ la ≠ lc ∧ la ≠ sk ∧ w ≠ dp ∧ w ≠ wa) : Ok (FX6_load (some sh) (nI i) (some s) h) (fun _ g => Sv g s w wa la d (t.2.1 i) (t.2.2.1 i) ∧ Fr (Asv w wa la) h g) := by
  obtain ⟨a1, ⟨r0, r1, r2, r3⟩, ⟨t0, t1, t2, t3⟩, a4, a5, a6⟩ := v
  obtain ⟨s1, s2, s3, s4, s5, s6, s7, s8, s9, s10⟩ := u
  obtain ⟨b1, b2, b3⟩ := a6 i d hi hd
  obtain ⟨w1, w2, w3, w4, w5, w6, w7⟩ := s7
  unfold FX6_load
  have e1 := (a5 i hi).1
  rw [hd] at e1
  have e2 : hI h dp i = nI d := e1
  rw [gR_ok s1, s2, gR_ok a1, r0, aI_n t0 hi (by decide), e2, pI_ok w1]
  generalize hg1 : wI h w 1 (nI d) = g1
  have T1 : hT g1 = hT h := by rw [← hg1]; rfl
  have R1 : hR g1 = hR h := by rw [← hg1]; rfl
  have L1 : hL g1 = hL h := by rw [← hg1]; rfl
  rw [gR_ok (by rw [T1]; exact a1), gR_ok (by rw [T1]; exact s1), R1, r1, s2, gR_ok (by rw [T1]; exact w1), R1, w2]
  rw [show (12 : Int32) = nI 12 from rfl, pk_mul, nI_c0, cp_ok (n0 := 720) (n1 := 14) (by rw [T1]; exact t1) (by rw [T1]; exact w3) (by omega) (by omega) (by decide) (by decide), L1]
  generalize hg2 : wLr g1 wa (va_cpy (hL h sk) (hL h wa) (i * 12) 0 12) = g2
  have T2 : hT g2 = hT h := by rw [← hg2, ← T1]; rfl
  have R2 : hR g2 = hR h := by rw [← hg2, ← R1]; rfl
  have L2 : ∀ b, b ≠ wa → hL g2 b = hL h b := fun b hb => by rw [← hg2, hL_wLr_a hb, L1]
  rw [gR_ok (by rw [T2]; exact a1), gR_ok (by rw [T2]; exact s1), R2, r2, s3]
  rw [show (16 : Int32) = nI 16 from rfl, pk_mul, cp_ok (n0 := 960) (n1 := 16) (by rw [T2]; exact t2) (by rw [T2]; exact s4) (by omega) (by omega) (by decide) (by decide), L2 lc (Ne.symm hap.2.1), L2 la s6]
  have F1 : Fr (Asv w wa la) h g1 := by rw [← hg1]; exact Fr.wI (Or.inl rfl)
  have F2 : Fr (Asv w wa la) g1 g2 := by rw [← hg2]; exact Fr.wLr (Or.inr (Or.inl rfl))
  refine ok_some ⟨⟨by show hT g2 s = _; rw [T2]; exact s1, by show hR g2 s 0 = _; rw [R2]; exact s2, by show hR g2 s 1 = _; rw [R2]; exact s3, by show hT g2 la = _; rw [T2]; exact s4, s5, s6, ⟨by show hT g2 w = _; rw [T2]; exact w1, by show hR g2 w 0 = _; rw [R2]; exact w2, by show hT g2 wa = _; rw [T2]; exact w3, w4, ?_, by omega, fun k hk => ?_⟩, fun j hj => ?_, fun j hj => (b3 j hj).2, fun k hk => (b2 k hk).2⟩, (F1.trans F2).trans (Fr.wLr (Or.inr (Or.inr rfl)))⟩
  · show hI g2 w 1 = _
    rw [← hg2]
    show hI g1 w 1 = _
    rw [← hg1, hI_wI_s]
  · rw [hL_wLr_a (Ne.symm s6), ← hg2, hL_wLr_s, pk_cpy_in (by omega) (by omega)]
    have := (b2 k hk).1
    rw [show i * 12 + (k - 0) = 12 * i + k by omega]
    exact this
  · rw [hL_wLr_s, pk_cpy_in (by omega) (by omega)]
    have := (b3 j hj).1
    rw [show i * 16 + (j - 0) = 16 * i + j by omega]
    exact this
