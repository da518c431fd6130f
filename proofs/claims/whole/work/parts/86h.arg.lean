/-! an argument is added: both sides -/
def pgG (P : Pg) (m k : Nat) : Pg := pgN (pgN (pgN P 6 m (p_na P m) k) 4 m 0 (p_na P m + 1)) 5 m 0 (p_nw P m + wd k)
def s_arg (G : Gs) (x p : Int32) : Int32 × Gs := if wi x (p_nm G.1) = true then (if wi p 5 = true then (if 8 < p_nw G.1 (cN x) + wd (cN p) then (-4, G) else (nI (p_nw G.1 (cN x) + wd (cN p)), fgt G (pgG G.1 (cN x) (cN p)))) else (-2, G)) else (-2, G)
section GA
variable {h g : Hp} {o q : Nat} {G : Gs} {P : Pg} {m k : Nat}
theorem eqm_G : EqM P (pgG P m k) m := by
  refine ⟨fun c m' j z => ?_, fun c m' j z => rfl, rfl⟩
  show (if c = 5 then (if m' = m ∧ j = 0 then _ else (if c = 4 then (if m' = m ∧ j = 0 then _ else (if c = 6 then (if m' = m ∧ j = p_na P m then _ else P.1 c m' j) else P.1 c m' j)) else (if c = 6 then (if m' = m ∧ j = p_na P m then _ else P.1 c m' j) else P.1 c m' j))) else (if c = 4 then (if m' = m ∧ j = 0 then _ else (if c = 6 then (if m' = m ∧ j = p_na P m then _ else P.1 c m' j) else P.1 c m' j)) else (if c = 6 then (if m' = m ∧ j = p_na P m then _ else P.1 c m' j) else P.1 c m' j))) = P.1 c m' j
  by_cases c5 : c = 5
  · rw [if_pos c5, if_neg (by omega), if_neg (by omega), if_neg (by omega)]
  · rw [if_neg c5]
    by_cases c4 : c = 4
    · rw [if_pos c4, if_neg (by omega), if_neg (by omega)]
    · rw [if_neg c4]
      by_cases c6 : c = 6
      · rw [if_pos c6, if_neg (by omega)]
      · rw [if_neg c6]
theorem pG_na : p_na (pgG P m k) m = p_na P m + 1 := by
  show (if m = m ∧ 0 = 0 then p_na P m + 1 else _) = _
  rw [if_pos ⟨rfl, rfl⟩]
theorem pG_nw : p_nw (pgG P m k) m = p_nw P m + wd k := by
  show (if m = m ∧ 0 = 0 then p_nw P m + wd k else _) = _
  rw [if_pos ⟨rfl, rfl⟩]
theorem pG_ka (j : Nat) : p_ka (pgG P m k) m j = if j = p_na P m then k else p_ka P m j := by
  show (if m = m ∧ j = p_na P m then k else P.1 6 m j) = _
  by_cases z : j = p_na P m
  · rw [if_pos ⟨rfl, z⟩, if_pos z]
  · rw [if_neg (fun y => z y.2), if_neg z]; rfl
theorem paw_l {P P' : Pg} {m : Nat} : ∀ k, (∀ j, j < k → p_ka P' m j = p_ka P m j) → p_aw P' m k = p_aw P m k := by
  intro k
  induction k with
  | zero => intro _; rfl
  | succ k ih => intro e; rw [p_aw, p_aw, ih (fun j hj => e j (by omega)), e k (by omega)]
theorem paw_ge {P : Pg} {m : Nat} : ∀ k, k ≤ p_aw P m k := by
  intro k
  induction k with
  | zero => exact Nat.le_refl _
  | succ k ih =>
    have := wd_le (p_ka P m k)
    rw [p_aw]; omega
theorem pw_G (pw : PW P) (hm : m < p_nm P) (hk : k < 5) (h8 : ¬ 8 < p_nw P m + wd k) : PW (pgG P m k) := by
  refine pw_row pw eqm_G ?_
  obtain ⟨w1, w2, w3, w4, w5, w6, w7, w8⟩ := pw.2.2.2.1 m hm
  have hw := wd_le k
  have hg := paw_ge (P := P) (m := m) (p_na P m)
  refine ⟨w1, by rw [pG_na]; omega, by rw [pG_nw]; omega, w4, w5, ?_, fun j hj => ?_, w8⟩
  · rw [pG_na, pG_nw, p_aw, paw_l (P := P) (P' := pgG P m k) (m := m) (p_na P m) (fun j hj => by rw [pG_ka, if_neg (by omega)]), pG_ka, if_pos rfl, w6]
  · rw [pG_na] at hj
    rw [pG_ka]
    by_cases z : j = p_na P m
    · rw [if_pos z]; exact hk
    · rw [if_neg z]; exact w7 j (by omega)
theorem gi_arg (gi : GI G) (x p : Int32) : GI (s_arg G x p).2 := by
  unfold s_arg
  have hnm := gi.1.1
  cases hx : wi x (p_nm G.1) with
  | false => rw [if_neg (by decide)]; exact gi
  | true =>
    obtain ⟨m, hm, -, ec⟩ := wi_ex (by omega) hx
    rw [if_pos rfl]
    cases hp : wi p 5 with
    | false => rw [if_neg (by decide)]; exact gi
    | true =>
      obtain ⟨k, hk, -, ek⟩ := wi_ex (by decide) hp
      rw [if_pos rfl, ec, ek]
      by_cases c : 8 < p_nw G.1 m + wd k
      · rw [if_pos c]; exact gi
      · rw [if_neg c]; exact gi_fgt gi (pw_G gi.1 hm hk c)
end GA
