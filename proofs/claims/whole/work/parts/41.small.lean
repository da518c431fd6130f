/-! the small functions -/
theorem i32_lt (x y : Int32) : (x < y) = (x.toInt < y.toInt) := propext Int32.lt_iff_toInt_lt
theorem i64_lt (x y : Int64) : (x < y) = (x.toInt < y.toInt) := propext Int64.lt_iff_toInt_lt
theorem i32_eq (x y : Int32) : (x = y) = (x.toInt = y.toInt) := propext Int32.toInt_inj.symm
theorem i64_eq (x y : Int64) : (x = y) = (x.toInt = y.toInt) := propext Int64.toInt_inj.symm
theorem i64_of32 (x : Int32) : (Int32.toInt64 x).toInt = x.toInt := Int32.toInt_toInt64 x
theorem nI_tI {n : Nat} (h : n < 2 ^ 31) : (nI n).toInt = (n : Int) := nI_toInt h
theorem i32_0 : (0 : Int32).toInt = 0 := rfl
theorem i64_0 : (0 : Int64).toInt = 0 := rfl
/-- an int that is a number below a bound, or is none -/
theorem i32_cases (x : Int32) {n : Nat} (hn : n < 2 ^ 31) : (∃ j : Nat, j < n ∧ x = nI j) ∨ (x.toInt < 0 ∨ (n : Int) ≤ x.toInt) := by
  rcases pk_ix x hn with h | h | ⟨j, h1, h2⟩
  · right; left; rw [i32_lt] at h; exact h
  · right; right
    have := Int32.le_iff_toInt_le.mp h
    rw [nI_toInt hn] at this
    exact this
  · exact Or.inl ⟨j, h1, h2⟩
theorem f_within (x y : Int32) (h : Hp) : FX11_within x y h = some ((if 0 ≤ x.toInt ∧ x.toInt < y.toInt then 1 else 0), h) := by
  unfold FX11_within
  by_cases c1 : x < 0
  · have d1 := c1
    rw [i32_lt, i32_0] at d1
    rw [if_pos c1, if_neg (by omega)]; rfl
  · have d1 := c1
    rw [i32_lt, i32_0] at d1
    rw [if_neg c1]
    by_cases c2 : x < y
    · have d2 := c2
      rw [i32_lt] at d2
      rw [if_pos c2, if_pos (by omega)]; rfl
    · have d2 := c2
      rw [i32_lt] at d2
      rw [if_neg c2, if_neg (by omega)]; rfl
theorem f_in (a b c : Int64) (h : Hp) : FX12_in a b c h = some ((if b.toInt ≤ a.toInt ∧ a.toInt ≤ c.toInt then 1 else 0), h) := by
  unfold FX12_in
  by_cases c1 : a < b
  · have d1 := c1
    rw [i64_lt] at d1
    rw [if_pos c1, if_neg (by omega)]; rfl
  · have d1 := c1
    rw [i64_lt] at d1
    rw [if_neg c1]
    by_cases c2 : c < a
    · have d2 := c2
      rw [i64_lt] at d2
      rw [if_pos c2, if_neg (by omega)]; rfl
    · have d2 := c2
      rw [i64_lt] at d2
      rw [if_neg c2, if_pos (by omega)]; rfl
def wd (k : Nat) : Nat := if k = 1 ∨ k = 3 then 2 else 1
def en (k : Nat) : Nat := if k = 1 then 6 else 7
theorem f_isWide {k : Nat} (hk : k < 8) (h : Hp) : FX11_isWide (nI k) h = some ((if k = 1 ∨ k = 3 then 1 else 0), h) := by
  rcases (show k = 0 ∨ k = 1 ∨ k = 2 ∨ k = 3 ∨ k = 4 ∨ k = 5 ∨ k = 6 ∨ k = 7 by omega) with rfl | rfl | rfl | rfl | rfl | rfl | rfl | rfl <;> rfl
theorem f_endOf {k : Nat} (hk : k < 8) (h : Hp) : FX11_endOf (nI k) h = some (nI (en k), h) := by
  rcases (show k = 0 ∨ k = 1 ∨ k = 2 ∨ k = 3 ∨ k = 4 ∨ k = 5 ∨ k = 6 ∨ k = 7 by omega) with rfl | rfl | rfl | rfl | rfl | rfl | rfl | rfl <;> rfl
theorem f_width {k : Nat} (hk : k < 8) (h : Hp) : FX11_width (nI k) h = some (nI (wd k), h) := by
  rcases (show k = 0 ∨ k = 1 ∨ k = 2 ∨ k = 3 ∨ k = 4 ∨ k = 5 ∨ k = 6 ∨ k = 7 by omega) with rfl | rfl | rfl | rfl | rfl | rfl | rfl | rfl <;> rfl
theorem f_wordsOf {k : Nat} (hk : k < 8) (h : Hp) : FX12_wordsOf (nI k) h = some (nI (wd k), h) := by
  rcases (show k = 0 ∨ k = 1 ∨ k = 2 ∨ k = 3 ∨ k = 4 ∨ k = 5 ∨ k = 6 ∨ k = 7 by omega) with rfl | rfl | rfl | rfl | rfl | rfl | rfl | rfl <;> rfl
theorem f_isEnd {k : Nat} (hk : k < 8) (h : Hp) : FX11_isEnd (lN k) h = some ((if 6 ≤ k then 1 else 0), h) := by
  rcases (show k = 0 ∨ k = 1 ∨ k = 2 ∨ k = 3 ∨ k = 4 ∨ k = 5 ∨ k = 6 ∨ k = 7 by omega) with rfl | rfl | rfl | rfl | rfl | rfl | rfl | rfl <;> rfl
/-- a TYPE -/
def isTy (x : Int32) : Prop := 8 ≤ x.toInt ∧ x.toInt < 32 ∧ x - x / 8 * 8 ≠ 4
theorem f_isTypeC (x : Int32) (h : Hp) : FX11_isType x h = FX12_isType x h := by
  unfold FX11_isType FX12_isType
  rw [f_in, cl_ok, i64_of32]
  have e8 : (8 : Int32).toInt = 8 := rfl
  have e32 : (32 : Int32).toInt = 32 := rfl
  have l8 : (8 : Int64).toInt = 8 := rfl
  have l31 : (31 : Int64).toInt = 31 := rfl
  rw [l8, l31]
  by_cases c1 : x < 8
  · have d1 := c1
    rw [i32_lt, e8] at d1
    rw [if_pos c1, if_pos (by rw [if_neg (by omega)])]
  · have d1 := c1
    rw [i32_lt, e8] at d1
    rw [if_neg c1]
    by_cases c2 : x < 32
    · have d2 := c2
      rw [i32_lt, e32] at d2
      have c3 : 8 ≤ x.toInt ∧ x.toInt ≤ 31 := by omega
      rw [if_pos c2]
      simp only [c3, and_self, if_true]
      rfl
    · have d2 := c2
      rw [i32_lt, e32] at d2
      rw [if_neg c2, if_pos (by rw [if_neg (by omega)])]
