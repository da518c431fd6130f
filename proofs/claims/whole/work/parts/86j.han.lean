/-! a handler is added: the picture; the class -/
def pgH (P : Pg) (m a b c : Nat) (d : Int32) : Pg := pgI (pgN (pgN (pgN (pgN P 10 m (p_nh P m) a) 11 m (p_nh P m) b) 12 m (p_nh P m) c) 9 m 0 (p_nh P m + 1)) 2 m (p_nh P m) d
def okh (a b c d : Int32) : Bool := decide ((0 ≤ a.toInt ∧ a.toInt ≤ b.toInt ∧ b.toInt ≤ 60) ∧ (0 ≤ c.toInt ∧ c.toInt < 60) ∧ -1 ≤ d.toInt ∧ d.toInt < 16)
def s_han (G : Gs) (x a b c d : Int32) : Int32 × Gs := if wi x (p_nm G.1) = true then (if okh a b c d = true then (if p_nh G.1 (cN x) = 6 then (-4, G) else (nI (p_nh G.1 (cN x) + 1), fgt G (pgH G.1 (cN x) (cN a) (cN b) (cN c) d))) else (-2, G)) else (-2, G)
section GH
variable {h g : Hp} {o q : Nat} {G : Gs} {P : Pg} {m a b c : Nat} {d : Int32}
theorem okh_ex {a b c d : Int32} (z : okh a b c d = true) : ∃ x y w : Nat, (x ≤ 60 ∧ y ≤ 60 ∧ w < 60) ∧ (a = nI x ∧ b = nI y ∧ c = nI w) ∧ (cN a = x ∧ cN b = y ∧ cN c = w) ∧ (d = -1 ∨ ∃ j : Nat, j < 16 ∧ d = nI j) := by
  obtain ⟨⟨z1, z2, z3⟩, ⟨z4, z5⟩, z6, z7⟩ := of_decide_eq_true z
  obtain ⟨x, hx, rfl⟩ := nI_lt_of (x := a) (n := 61) (by decide) z1 (by omega)
  obtain ⟨y, hy, rfl⟩ := nI_lt_of (x := b) (n := 61) (by decide) (by omega) (by omega)
  obtain ⟨w, hw, rfl⟩ := nI_lt_of (x := c) (n := 60) (by decide) z4 z5
  refine ⟨x, y, w, ⟨by omega, by omega, hw⟩, ⟨rfl, rfl, rfl⟩, ⟨cN_n (by omega), cN_n (by omega), cN_n (by omega)⟩, ?_⟩
  by_cases y : d.toInt = -1
  · left; rw [k_m1]; exact y
  · right; exact nI_lt_of (x := d) (n := 16) (by decide) (by omega) z7
theorem eqm_H : EqM P (pgH P m a b c d) m := by
  refine ⟨fun e m' k z => ?_, fun e m' k z => ?_, rfl⟩
  · show (pgN (pgN (pgN (pgN P 10 m (p_nh P m) a) 11 m (p_nh P m) b) 12 m (p_nh P m) c) 9 m 0 (p_nh P m + 1)).1 e m' k = P.1 e m' k
    have st : ∀ (Q : Pg) (e0 k0 v : Nat), 3 ≤ e0 → e0 ≤ 12 → (pgN Q e0 m k0 v).1 e m' k = Q.1 e m' k := by
      intro Q e0 k0 v h1 h2
      show (if e = e0 then (if m' = m ∧ k = k0 then v else Q.1 e m' k) else Q.1 e m' k) = _
      by_cases y : e = e0
      · rw [if_pos y, if_neg (by omega)]
      · rw [if_neg y]
    rw [st _ 9 _ _ (by omega) (by omega), st _ 12 _ _ (by omega) (by omega), st _ 11 _ _ (by omega) (by omega), st _ 10 _ _ (by omega) (by omega)]
  · show (if e = 2 then (if m' = m ∧ k = p_nh P m then d else P.2.1 e m' k) else P.2.1 e m' k) = _
    by_cases y : e = 2
    · rw [if_pos y, if_neg (by omega)]
    · rw [if_neg y]
theorem pH_nh : p_nh (pgH P m a b c d) m = p_nh P m + 1 := by
  show (if m = m ∧ 0 = 0 then p_nh P m + 1 else _) = _
  rw [if_pos ⟨rfl, rfl⟩]
theorem pH_k (j : Nat) : p_hf (pgH P m a b c d) m j = (if j = p_nh P m then a else p_hf P m j) ∧ p_hu (pgH P m a b c d) m j = (if j = p_nh P m then b else p_hu P m j) ∧ p_hg (pgH P m a b c d) m j = (if j = p_nh P m then c else p_hg P m j) ∧ p_hn (pgH P m a b c d) m j = (if j = p_nh P m then d else p_hn P m j) := by
  have e : ∀ {α : Type} (u v : α), (if m = m ∧ j = p_nh P m then u else v) = if j = p_nh P m then u else v := fun u v => by
    by_cases z : j = p_nh P m
    · rw [if_pos ⟨rfl, z⟩, if_pos z]
    · rw [if_neg (fun y => z y.2), if_neg z]
  exact ⟨e _ _, e _ _, e _ _, e _ _⟩
theorem pw_H (pw : PW P) (hm : m < p_nm P) (ha : a ≤ 60) (hb : b ≤ 60) (hc : c < 60) (hd : d = -1 ∨ ∃ j : Nat, j < 16 ∧ d = nI j) (h6 : ¬ p_nh P m = 6) : PW (pgH P m a b c d) := by
  refine pw_row pw eqm_H ?_
  obtain ⟨w1, w2, w3, w4, w5, w6, w7, w8, w9⟩ := pw.2.2.2.1 m hm
  refine ⟨w1, w2, w3, w4, by rw [pH_nh]; omega, (paw_c (P := P) (P' := pgH P m a b c d) (m := m) (fun _ => rfl) (p_na P m)).trans w6, w7, w8, fun j hj => ?_⟩
  rw [pH_nh] at hj
  obtain ⟨e1, e2, e3, e4⟩ := pH_k (P := P) (m := m) (a := a) (b := b) (c := c) (d := d) j
  rw [e1, e2, e3, e4]
  by_cases z : j = p_nh P m
  · rw [if_pos z, if_pos z, if_pos z, if_pos z]; exact ⟨ha, hb, hc, hd⟩
  · rw [if_neg z, if_neg z, if_neg z, if_neg z]; exact w9 j (by omega)
theorem gi_han (gi : GI G) (x a b c d : Int32) : GI (s_han G x a b c d).2 := by
  unfold s_han
  have hnm := gi.1.1
  cases hx : wi x (p_nm G.1) with
  | false => rw [if_neg (by decide)]; exact gi
  | true =>
    obtain ⟨m, hm, -, ec⟩ := wi_ex (by omega) hx
    rw [if_pos rfl, ec]
    by_cases z : okh a b c d = true
    · rw [if_pos z]
      obtain ⟨u, v, w, ⟨h1, h2, h3⟩, -, ⟨c1, c2, c3⟩, hd⟩ := okh_ex z
      by_cases y : p_nh G.1 m = 6
      · rw [if_pos y]; exact gi
      · rw [if_neg y, c1, c2, c3]; exact gi_fgt gi (pw_H gi.1 hm h1 h2 h3 hd y)
    · rw [if_neg z]; exact gi
end GH
