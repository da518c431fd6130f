/-! a handler is added: the class -/
section GI2
variable {h g : Hp} {o q : Nat} {G : Gs}
theorem okh_no {a b c d : Int32} (z : ¬ ((0 ≤ a.toInt ∧ a.toInt ≤ b.toInt ∧ b.toInt ≤ 60) ∧ (0 ≤ c.toInt ∧ c.toInt < 60) ∧ -1 ≤ d.toInt ∧ d.toInt < 16)) : ¬ okh a b c d = true := fun y => z (of_decide_eq_true y)
theorem hk_pre {a b c d : Int32} (K : Hp → Option (Int32 × Hp)) : (if a < 0 then some (-2, h) else if b < a then some (-2, h) else if (60 : Int32) < b then some (-2, h) else cl (FX11_within c 60 h) fun v15 h16 => if v15 = 0 then some (-2, h16) else if d < -1 then some (-2, h16) else if d < 16 then K h16 else some (-2, h16)) = if okh a b c d = true then K h else some (-2, h) := by
  have fw : FX11_within c 60 h = some (b2i (wi c 60), h) := by rw [nl_60]; exact f_wi c (by decide) h
  have e60 : (60 : Int32).toInt = 60 := by decide
  have em1 : (-1 : Int32).toInt = -1 := by decide
  have e16 : (16 : Int32).toInt = 16 := by decide
  have la : (a < 0) = (a.toInt < 0) := by rw [i32_lt, i32_0]
  have lb : (b < a) = (b.toInt < a.toInt) := i32_lt _ _
  have lc : ((60 : Int32) < b) = (60 < b.toInt) := by rw [i32_lt, e60]
  have ld : (d < -1) = (d.toInt < -1) := by rw [i32_lt, em1]
  have le : (d < 16) = (d.toInt < 16) := by rw [i32_lt, e16]
  by_cases c1 : a < 0
  · rw [if_pos c1, if_neg (okh_no (by rw [la] at c1; omega))]
  · rw [if_neg c1]
    by_cases c2 : b < a
    · rw [if_pos c2, if_neg (okh_no (by rw [lb] at c2; omega))]
    · rw [if_neg c2]
      by_cases c3 : (60 : Int32) < b
      · rw [if_pos c3, if_neg (okh_no (by rw [lc] at c3; omega))]
      · rw [if_neg c3, fw, cl_ok, b2i_if]
        cases hw : wi c 60 with
        | false =>
          have := of_decide_eq_false hw
          rw [if_neg (by decide), if_neg (okh_no (by omega))]
        | true =>
          have w := of_decide_eq_true hw
          rw [if_pos rfl]
          by_cases c4 : d < -1
          · rw [if_pos c4, if_neg (okh_no (by rw [ld] at c4; omega))]
          · rw [if_neg c4]
            by_cases c5 : d < 16
            · rw [if_pos c5, if_pos]
              rw [la] at c1
              rw [lb] at c2
              rw [lc] at c3
              rw [ld] at c4
              rw [le] at c5
              exact decide_eq_true (by omega)
            · rw [if_neg c5, if_neg (okh_no (by rw [le] at c5; omega))]
theorem ca_core {a u v w n : Nat} {d : Int32} (mt : MT (hT h) (hR h) a) (en : hI h a 12 = nI n) (hn : n < 6) : Ok (FX2_addHandler (some a) (nI u) (nI v) (nI w) d h) (fun r g => r = nI (n + 1) ∧ (∀ j, hI g (a + 5) j = if j = n then nI u else hI h (a + 5) j) ∧ (∀ j, hI g (a + 6) j = if j = n then nI v else hI h (a + 6) j) ∧ (∀ j, hI g (a + 7) j = if j = n then nI w else hI h (a + 7) j) ∧ (∀ j, hI g (a + 8) j = if j = n then d else hI h (a + 8) j) ∧ hI g a 12 = nI (n + 1) ∧ (∀ j, j ≠ 12 → hI g a j = hI h a j) ∧ Fr (fun b => b = a ∨ (a + 5 ≤ b ∧ b ≤ a + 8)) h g) := by
  obtain ⟨a0, ⟨r1, r4, r5, r6, r8, r9, r10, r11, r13⟩, t1, t2, t3, t4, t5, t6, t7, t8⟩ := mt
  unfold FX2_addHandler
  have k1 : ∀ {z : Hp}, z = wI h (a + 5) n (nI u) → hT z a = some (.inl 2) ∧ hR z a 9 = some (a + 6) ∧ hI z a 12 = nI n ∧ hT z (a + 6) = some (.inr (.int, 6)) := fun e => by subst e; exact ⟨a0, r9, by rw [hI_wI_a (by omega)]; exact en, t6⟩
  obtain ⟨b1, b2, b3, b4⟩ := k1 rfl
  rw [gR_ok a0, r8, gI_ok a0, en, sI_n t5 hn (by decide), gR_ok b1, b2, gI_ok b1, b3, sI_n b4 hn (by decide)]
  have k2 : ∀ {z : Hp}, z = wI (wI h (a + 5) n (nI u)) (a + 6) n (nI v) → hT z a = some (.inl 2) ∧ hR z a 10 = some (a + 7) ∧ hI z a 12 = nI n ∧ hT z (a + 7) = some (.inr (.int, 6)) := fun e => by subst e; exact ⟨a0, r10, by rw [hI_wI_a (by omega)]; exact b3, t7⟩
  obtain ⟨c1, c2, c3, c4⟩ := k2 rfl
  rw [gR_ok c1, c2, gI_ok c1, c3, sI_n c4 hn (by decide)]
  have k3 : ∀ {z : Hp}, z = wI (wI (wI h (a + 5) n (nI u)) (a + 6) n (nI v)) (a + 7) n (nI w) → hT z a = some (.inl 2) ∧ hR z a 11 = some (a + 8) ∧ hI z a 12 = nI n ∧ hT z (a + 8) = some (.inr (.int, 6)) := fun e => by subst e; exact ⟨a0, r11, by rw [hI_wI_a (by omega)]; exact c3, t8⟩
  obtain ⟨d1, d2, d3, d4⟩ := k3 rfl
  rw [gR_ok d1, d2, gI_ok d1, d3, sI_n d4 hn (by decide)]
  have k4 : ∀ {z : Hp}, z = wI (wI (wI (wI h (a + 5) n (nI u)) (a + 6) n (nI v)) (a + 7) n (nI w)) (a + 8) n d → hT z a = some (.inl 2) ∧ hI z a 12 = nI n := fun e => by subst e; exact ⟨a0, by rw [hI_wI_a (by omega)]; exact d3⟩
  obtain ⟨e1, e2⟩ := k4 rfl
  rw [gI_ok e1, e2, nI_1, pI_ok e1, gI_ok (show hT (wI (wI (wI (wI (wI h (a + 5) n (nI u)) (a + 6) n (nI v)) (a + 7) n (nI w)) (a + 8) n d) a 12 (nI (n + 1))) a = _ from a0), hI_wI_s]
  have tr : ∀ {x : Hp} {b i : Nat} {v : Int32}, (b = a ∨ (a + 5 ≤ b ∧ b ≤ a + 8)) → Fr (fun b => b = a ∨ (a + 5 ≤ b ∧ b ≤ a + 8)) x (wI x b i v) := fun hb => Fr.wI (A := fun b => b = a ∨ (a + 5 ≤ b ∧ b ≤ a + 8)) hb
  refine ok_some ⟨rfl, fun j => ?_, fun j => ?_, fun j => ?_, fun j => ?_, hI_wI_s, fun j hj => ?_, ((((tr (by omega)).trans (tr (by omega))).trans (tr (by omega))).trans (tr (by omega))).trans (tr (by omega))⟩
  · rw [hI_wI_a (by omega), hI_wI_a (by omega), hI_wI_a (by omega), hI_wI_a (by omega)]
    by_cases z : j = n
    · rw [if_pos z, z]; exact hI_wI_s
    · rw [if_neg z, hI_wI_k z]
  · rw [hI_wI_a (by omega), hI_wI_a (by omega), hI_wI_a (by omega)]
    by_cases z : j = n
    · rw [if_pos z, z]; exact hI_wI_s
    · rw [if_neg z, hI_wI_k z, hI_wI_a (by omega)]
  · rw [hI_wI_a (by omega), hI_wI_a (by omega)]
    by_cases z : j = n
    · rw [if_pos z, z]; exact hI_wI_s
    · rw [if_neg z, hI_wI_k z, hI_wI_a (by omega), hI_wI_a (by omega)]
  · rw [hI_wI_a (by omega)]
    by_cases z : j = n
    · rw [if_pos z, z]; exact hI_wI_s
    · rw [if_neg z, hI_wI_k z, hI_wI_a (by omega), hI_wI_a (by omega), hI_wI_a (by omega)]
  · rw [hI_wI_k hj, hI_wI_a (by omega), hI_wI_a (by omega), hI_wI_a (by omega), hI_wI_a (by omega)]
end GI2
