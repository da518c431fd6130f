/-! Shape: kinds of words as naturals below 8 -/
theorem if_eqL {α : Type} {a b : Nat} (ha : a < 2 ^ 31) (hb : b < 2 ^ 31) {x y : α} : (if lN a = lN b then x else y) = if a = b then x else y := by
  by_cases h : a = b
  · rw [if_pos h, if_pos ((lN_eq ha hb).mpr h)]
  · rw [if_neg h, if_neg (fun z => h ((lN_eq ha hb).mp z))]
theorem lN_c (n : Nat) : Int64.ofNat n = lN n := rfl
/-- a word of a value of two that lacks its other one -/
def lk (a b c : Nat) : Bool := decide ((a = 1 ∧ ¬ b = 6) ∨ (a = 3 ∧ ¬ b = 7) ∨ (a = 6 ∧ ¬ c = 1) ∨ (a = 7 ∧ ¬ c = 3))
/-- locals without such words -/
def dh (l : Nat → Nat) : Nat → Nat := fun j => if lk (l j) (if j + 1 < 16 then l (j + 1) else 5) (if 0 < j then l (j - 1) else 5) = true then 5 else l j
theorem dh_lt {l : Nat → Nat} (hl : ∀ j, j < 16 → l j < 8) {j : Nat} (hj : j < 16) : dh l j < 8 := by
  unfold dh
  by_cases c : lk (l j) (if j + 1 < 16 then l (j + 1) else 5) (if 0 < j then l (j - 1) else 5) = true
  · rw [if_pos c]; omega
  · rw [if_neg c]; exact hl j hj
/-- a pass from left to right sees at the left what it has made of it: that tells the same -/
theorem lk_left {l : Nat → Nat} {j : Nat} (hj : 0 < j) (h16 : j < 16) (b : Nat) : lk (l j) b (dh l (j - 1)) = lk (l j) b (l (j - 1)) := by
  have e1 : j - 1 + 1 = j := by omega
  unfold dh
  rw [e1, if_pos h16]
  by_cases c : lk (l (j - 1)) (l j) (if 0 < j - 1 then l (j - 1 - 1) else 5) = true
  · rw [if_pos c]
    generalize l (j - 1) = p at c ⊢
    generalize l j = w at c ⊢
    generalize (if 0 < j - 1 then l (j - 1 - 1) else 5) = z at c
    by_cases w6 : w = 6
    · subst w6
      by_cases p1 : p = 1
      · subst p1; simp [lk] at c
      · simp [lk, p1]
    · by_cases w7 : w = 7
      · subst w7
        by_cases p3 : p = 3
        · subst p3; simp [lk] at c
        · simp [lk, p3]
      · simp [lk, w6, w7]
  · rw [if_neg c]
theorem dh_body {k2 : Option Nat → Int32 → Int32 → Hp → Option (Unit × Hp)} {x0 : Option Nat} {x1 x2 : Int32} {h : Hp} {a b c : Nat} (ha : a < 8) (hb : b < 8) (hc : c < 8) :
    BX5_dropHalves_54 k2 x0 x1 x2 (lN a) (lN b) (lN c) h = if lk a b c = true then sL h x0 (x1 + x2) 5 (fun h1 => k2 x0 x1 (x2 + 1) h1) else k2 x0 x1 (x2 + 1) h := by
  have e : ∀ (z : Nat) (α : Type) (u v : α), z < 8 → ((if lN z = (1 : Int64) then u else v) = if z = 1 then u else v) ∧ ((if lN z = (3 : Int64) then u else v) = if z = 3 then u else v) ∧ ((if lN z = (6 : Int64) then u else v) = if z = 6 then u else v) ∧ ((if lN z = (7 : Int64) then u else v) = if z = 7 then u else v) := fun z α u v hz => ⟨if_eqL (b := 1) (by omega) (by omega), if_eqL (b := 3) (by omega) (by omega), if_eqL (b := 6) (by omega) (by omega), if_eqL (b := 7) (by omega) (by omega)⟩
  unfold BX5_dropHalves_54 BX5_dropHalves_71 BX5_dropHalves_88 BX5_dropHalves_92 BX5_dropHalves_93 BX5_dropHalves_110 BX5_dropHalves_127 BX5_dropHalves_131 BX5_dropHalves_132 BX5_dropHalves_144 BX5_dropHalves_152
  rw [(e a _ _ _ ha).1]
  simp only [(e a _ _ _ ha).2.1, (e a _ _ _ ha).2.2.1, (e a _ _ _ ha).2.2.2, (e b _ _ _ hb).2.2.1, (e b _ _ _ hb).2.2.2, (e c _ _ _ hc).1, (e c _ _ _ hc).2.1]
  have z0 : ¬ ((1 : Int32) = 0) := by decide
  rcases (show a = 0 ∨ a = 1 ∨ a = 2 ∨ a = 3 ∨ a = 4 ∨ a = 5 ∨ a = 6 ∨ a = 7 by omega) with rfl | rfl | rfl | rfl | rfl | rfl | rfl | rfl
  · simp [lk, z0]
  · by_cases c6 : b = 6
    · subst c6; simp [lk, z0]
    · simp [lk, z0, c6]
  · simp [lk, z0]
  · by_cases c6 : b = 7
    · subst c6; simp [lk, z0]
    · simp [lk, z0, c6]
  · simp [lk, z0]
  · simp [lk, z0]
  · by_cases c6 : c = 1
    · subst c6; simp [lk, z0]
    · simp [lk, z0, c6]
  · by_cases c6 : c = 3
    · subst c6; simp [lk, z0]
    · simp [lk, z0, c6]
theorem dh_loop {la N row : Nat} {l : Nat → Nat} (hN : row + 16 ≤ N) (hN2 : N < 2 ^ 31) (hl : ∀ j, j < 16 → l j < 8) : ∀ (n j : Nat) (h : Hp), j ≤ 16 → 16 - j < n → hT h la = some (.inr (.long, N)) → (∀ i, i < j → hL h la (row + i) = lN (dh l i)) → (∀ i, j ≤ i → i < 16 → hL h la (row + i) = lN (l i)) →
    Ok (BX5_dropHalves_2 n (some la) (nI row) (nI j) h) (fun _ g => Fr (fun b => b = la) h g ∧ (∀ i, i < 16 → hL g la (row + i) = lN (dh l i)) ∧ ∀ i, (i < row ∨ row + 16 ≤ i) → hL g la i = hL h la i) := by
  intro n
  induction n with
  | zero => intro j h h1 h2; omega
  | succ n ih =>
    intro j h h1 h2 a1 c1 c2
    unfold BX5_dropHalves_2
    rw [show (16 : Int32) = nI 16 from rfl, if_lt (by omega) (by omega)]
    by_cases c : j < 16
    · rw [if_pos c, nI_add, nI_1, aL_n a1 (by omega) (by omega), c2 j (by omega) c, if_lt (by omega) (by omega)]
      have step : ∀ b, b < 8 → b = (if j + 1 < 16 then l (j + 1) else 5) → Ok (BX5_dropHalves_35 (BX5_dropHalves_2 n) (some la) (nI row) (nI j) (lN (l j)) (lN b) h) (fun _ g => Fr (fun b => b = la) h g ∧ (∀ i, i < 16 → hL g la (row + i) = lN (dh l i)) ∧ ∀ i, (i < row ∨ row + 16 ≤ i) → hL g la i = hL h la i) := by
        intro b hb eb
        have fin : ∀ cc, cc < 8 → lk (l j) b cc = lk (l j) b (if 0 < j then l (j - 1) else 5) → Ok (BX5_dropHalves_54 (BX5_dropHalves_2 n) (some la) (nI row) (nI j) (lN (l j)) (lN b) (lN cc) h) (fun _ g => Fr (fun b => b = la) h g ∧ (∀ i, i < 16 → hL g la (row + i) = lN (dh l i)) ∧ ∀ i, (i < row ∨ row + 16 ≤ i) → hL g la i = hL h la i) := by
          intro cc hcc ecc
          rw [dh_body (hl j c) hb hcc, ecc, nI_add, nI_1]
          have ed : dh l j = if lk (l j) b (if 0 < j then l (j - 1) else 5) = true then 5 else l j := by unfold dh; rw [← eb]
          by_cases d : lk (l j) b (if 0 < j then l (j - 1) else 5) = true
          · rw [if_pos d] at ed ⊢
            rw [sL_n a1 (by omega) (by omega)]
            refine (ih (j + 1) (wL h la (row + j) 5) (by omega) (by omega) a1 (fun i hi => ?_) (fun i hi hj => ?_)).mono (fun r g q => ⟨(Fr.wL (A := fun b => b = la) rfl).trans q.1, q.2.1, fun i hi => ?_⟩)
            · by_cases e : i = j
              · subst e; rw [hL_wL_s, ed]; rfl
              · rw [hL_wL_k (by omega)]; exact c1 i (by omega)
            · rw [hL_wL_k (by omega)]; exact c2 i (by omega) hj
            · rw [q.2.2 i hi, hL_wL_k (by omega)]
          · rw [if_neg d] at ed ⊢
            refine ih (j + 1) h (by omega) (by omega) a1 (fun i hi => ?_) (fun i hi hj => c2 i (by omega) hj)
            by_cases e : i = j
            · subst e; rw [ed]; exact c2 i (by omega) c
            · exact c1 i (by omega)
        unfold BX5_dropHalves_35
        rw [nI_c0, if_lt (by omega) (by omega)]
        by_cases c0 : 0 < j
        · rw [if_pos c0, nI_add, show nI (row + j) - 1 = nI (row + j - 1) by rw [nI_c1, pk_sub (by omega)], aL_n a1 (by omega) (by omega)]
          have e2 := c1 (j - 1) (by omega)
          rw [show row + (j - 1) = row + j - 1 by omega] at e2
          rw [e2]
          refine fin _ (dh_lt hl (by omega)) ?_
          rw [if_pos c0]
          exact lk_left c0 c b
        · rw [if_neg c0]
          exact fin 5 (by omega) (by rw [if_neg c0])
      by_cases c3 : j + 1 < 16
      · rw [if_pos c3, nI_1, aL_n a1 (by omega) (by omega), show row + j + 1 = row + (j + 1) by omega, c2 (j + 1) (by omega) c3]
        exact step _ (hl (j + 1) c3) (by rw [if_pos c3])
      · rw [if_neg c3]
        exact step 5 (by omega) (by rw [if_neg c3])
    · rw [if_neg c]
      exact ok_some ⟨Fr.refl _ _, fun i hi => c1 i (by omega), fun i _ => rfl⟩
theorem k_dropHalves {h : Hp} {la N row : Nat} {l : Nat → Nat} (a1 : hT h la = some (.inr (.long, N))) (hN : row + 16 ≤ N) (hN2 : N < 2 ^ 31) (hl : ∀ j, j < 16 → l j < 8) (hv : ∀ j, j < 16 → hL h la (row + j) = lN (l j)) : Ok (FX5_dropHalves (some la) (nI row) h) (fun _ g => Fr (fun b => b = la) h g ∧ (∀ i, i < 16 → hL g la (row + i) = lN (dh l i)) ∧ ∀ i, (i < row ∨ row + 16 ≤ i) → hL g la i = hL h la i) := by
  unfold FX5_dropHalves
  rw [nI_c0]
  exact dh_loop hN hN2 hl 100000 0 h (by omega) (by omega) a1 (fun i hi => by omega) (fun i _ hi => hv i hi)
