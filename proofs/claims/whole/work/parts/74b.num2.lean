/-! bits: narrow numbers, what is no number -/
theorem and_hi (x k w : Nat) : x &&& ((2 ^ w - 1) <<< k) = (x / 2 ^ k % 2 ^ w) * 2 ^ k := by
  rw [← Nat.shiftRight_eq_div_pow, ← Nat.and_two_pow_sub_one_eq_mod, ← Nat.shiftLeft_eq]
  apply Nat.eq_of_testBit_eq
  intro i
  rw [Nat.testBit_and, Nat.testBit_shiftLeft, Nat.testBit_shiftLeft, Nat.testBit_and, Nat.testBit_shiftRight]
  by_cases c : k ≤ i
  · rw [decide_eq_true (show i ≥ k from c), show k + (i - k) = i by omega, Bool.true_and, Bool.true_and]
  · rw [decide_eq_false (show ¬ i ≥ k from c), Bool.false_and, Bool.false_and, Bool.and_false]
theorem l_and (x m : Int64) (M : Nat) (hm : m.toBitVec.toNat = M) : (x &&& m).toBitVec.toNat = x.toBitVec.toNat &&& M := by
  rw [Int64.toBitVec_and, BitVec.toNat_and, hm]
theorem l_pos (y : Int64) (h : y.toBitVec.toNat < 2 ^ 63) : y.toInt = (y.toBitVec.toNat : Int) := by
  show y.toBitVec.toInt = _
  rw [BitVec.toInt_eq_toNat_of_lt (by omega)]
theorem l_eq (x y : Int64) : x = y ↔ x.toBitVec.toNat = y.toBitVec.toNat := by
  constructor
  · intro h; rw [h]
  · intro h
    exact Int64.toBitVec_inj.mp (BitVec.eq_of_toNat_eq h)
theorem l_lt (x : Int64) : x.toBitVec.toNat < 2 ^ 64 := x.toBitVec.isLt
theorem none_F (x : Int64) : ((x &&& 2139095040) = 2139095040 ∧ ¬ (x &&& 8388607) = 0) ↔ (2139095040 : Int64) < (x &&& 2147483647) := by
  have h := l_lt x
  have e1 := l_and x 2139095040 ((2 ^ 8 - 1) <<< 23) (by decide)
  have e2 := l_and x 8388607 (2 ^ 23 - 1) (by decide)
  have e3 := l_and x 2147483647 (2 ^ 31 - 1) (by decide)
  rw [and_hi] at e1
  rw [Nat.and_two_pow_sub_one_eq_mod] at e2 e3
  have z1 : (2139095040 : Int64).toBitVec.toNat = 2139095040 := by decide
  have z2 : (0 : Int64).toBitVec.toNat = 0 := by decide
  rw [l_eq, l_eq, i64_lt, l_pos _ (by rw [z1]; decide), l_pos _ (by rw [e3]; omega), e1, e2, e3, z1, z2]
  omega
theorem none_D (x : Int64) : ((x &&& 9218868437227405312) = 9218868437227405312 ∧ ¬ (x &&& 4503599627370495) = 0) ↔ (9218868437227405312 : Int64) < (x &&& 9223372036854775807) := by
  have h := l_lt x
  have e1 := l_and x 9218868437227405312 ((2 ^ 11 - 1) <<< 52) (by decide)
  have e2 := l_and x 4503599627370495 (2 ^ 52 - 1) (by decide)
  have e3 := l_and x 9223372036854775807 (2 ^ 63 - 1) (by decide)
  rw [and_hi] at e1
  rw [Nat.and_two_pow_sub_one_eq_mod] at e2 e3
  have z1 : (9218868437227405312 : Int64).toBitVec.toNat = 9218868437227405312 := by decide
  have z2 : (0 : Int64).toBitVec.toNat = 0 := by decide
  rw [l_eq, l_eq, i64_lt, l_pos _ (by rw [z1]; decide), l_pos _ (by rw [e3]; omega), e1, e2, e3, z1, z2]
  omega
theorem g_none27 (x m r : Int64) (h : Hp) : BX12_isNone_27 x m r h = some (b2i (decide ((x &&& m) = m ∧ ¬ (x &&& r) = 0)), h) := by
  unfold BX12_isNone_27
  by_cases c1 : (x &&& m) = m
  · rw [if_pos c1]
    by_cases c2 : (x &&& r) = 0
    · rw [if_pos c2, decide_eq_false (fun z => z.2 c2)]; rfl
    · rw [if_neg c2, decide_eq_true ⟨c1, c2⟩]; rfl
  · rw [if_neg c1, decide_eq_false (fun z => c1 z.1)]; rfl
theorem g_none (a : Nat) (x : Int64) (h : Hp) : FX12_isNone x (b2i (decide (2 < a))) h = some (b2i (decide (c_inf a < (x &&& c_msk a))), h) := by
  unfold FX12_isNone BX12_isNone_13 c_inf c_msk
  by_cases c : 2 < a
  · rw [decide_eq_true c, if_pos c, if_pos c]
    show BX12_isNone_27 x 9218868437227405312 4503599627370495 h = _
    rw [g_none27]
    congr 3
    exact decide_eq_decide.mpr (none_D x)
  · rw [decide_eq_false c, if_neg c, if_neg c]
    show BX12_isNone_27 x 2139095040 8388607 h = _
    rw [g_none27]
    congr 3
    exact decide_eq_decide.mpr (none_F x)
theorem g_sgn (a : Nat) (x : Int64) (h : Hp) : FX12_inOrder x (b2i (decide (2 < a))) h = some (c_sgn a x, h) := by
  unfold FX12_inOrder BX12_inOrder_14 c_sgn c_msk
  by_cases c : 2 < a
  · rw [decide_eq_true c, if_pos c]
    show (if x < 0 then some (0 - (x &&& 9223372036854775807), h) else some (x &&& 9223372036854775807, h)) = _
    by_cases c2 : x < 0
    · rw [if_pos c2, if_pos c2]
    · rw [if_neg c2, if_neg c2]
  · rw [decide_eq_false c, if_neg c]
    show (if x < 0 then some (0 - (x &&& 2147483647), h) else some (x &&& 2147483647, h)) = _
    by_cases c2 : x < 0
    · rw [if_pos c2, if_pos c2]
    · rw [if_neg c2, if_neg c2]
theorem g_ord (x y : Int64) (h : Hp) : BX12_compared_105 x y h = some (c_ord x y, h) := by
  unfold BX12_compared_105 c_ord
  by_cases c1 : x < y
  · have c2 : ¬ x = y := fun e => by rw [e, i64_lt] at c1; omega
    rw [if_pos c1, if_neg c2, if_pos c1]
  · rw [if_neg c1]
    by_cases c2 : y < x
    · have c3 : ¬ x = y := fun e => by rw [e, i64_lt] at c2; omega
      rw [if_pos c2, if_neg c3, if_neg c1]
    · rw [if_neg c2]
      have : x = y := by
        rw [i64_lt] at c1 c2
        rw [i64_eq]; omega
      rw [if_pos this]
theorem g_cmp {a : Nat} (ha : a < 5) (x y : Int64) (h : Hp) : FX12_compared x y (nI a) h = some (c_cmp a x y, h) := by
  unfold FX12_compared c_cmp
  rw [ir_0 (by omega), nl_2, if_lt (by decide) (by omega)]
  by_cases h0 : a = 0
  · rw [if_neg (by omega), if_pos h0]
    unfold BX12_compared_55 BX12_compared_79
    rw [ie_0 (by omega), if_pos h0, ie_0 (by omega), if_pos h0, g_ord]
  · rw [if_pos (by omega), if_neg h0]
    have e41 : ∀ g : Hp, BX12_compared_41 (nI a) g = some ((if a % 2 = 1 then -1 else 1), g) := by
      intro g
      unfold BX12_compared_41
      rw [nl_2, pk_rem (by omega) (by decide) (by decide), ie_1 (by omega)]
      by_cases z : a % 2 = 1
      · rw [if_pos z, if_pos z]
      · rw [if_neg z, if_neg z]
    have fin : ∀ w : Int32, w = b2i (decide (2 < a)) → (∀ g : Hp, BX12_compared_55 x y (nI a) g = some (c_ord (c_sgn a x) (c_sgn a y), g)) → ∀ (k : Int64 → Int64 → Int32 → Hp → Option (Int32 × Hp)), (∀ g, k x y w g = cl (FX12_isNone y w g) (fun v1 h2 => if v1 = 0 then BX12_compared_55 x y (nI a) h2 else BX12_compared_41 (nI a) h2)) → (cl (FX12_isNone x w h) (fun v1 h2 => if v1 = 0 then k x y w h2 else BX12_compared_41 (nI a) h2)) = some ((if c_inf a < (x &&& c_msk a) ∨ c_inf a < (y &&& c_msk a) then (if a % 2 = 1 then -1 else 1) else c_ord (c_sgn a x) (c_sgn a y)), h) := by
      intro w hw e55 k hk
      subst hw
      rw [g_none, cl_ok, b2i_if, hk, g_none, cl_ok, b2i_if, e55, e41]
      by_cases c1 : c_inf a < (x &&& c_msk a)
      · rw [decide_eq_true c1, if_pos rfl, if_pos (Or.inl c1)]
      · rw [decide_eq_false c1, if_neg (by decide)]
        by_cases c2 : c_inf a < (y &&& c_msk a)
        · rw [decide_eq_true c2, if_pos rfl, if_pos (Or.inr c2)]
        · have c12 : ¬ (c_inf a < (x &&& c_msk a) ∨ c_inf a < (y &&& c_msk a)) := fun z => z.elim c1 c2
          rw [decide_eq_false c2, if_neg (by decide), if_neg c12]
    by_cases c : 2 < a
    · have gs : ∀ (x : Int64) (h : Hp), FX12_inOrder x 1 h = some (c_sgn a x, h) := fun x h => by
        have := g_sgn a x h
        rw [decide_eq_true c] at this
        exact this
      have e55 : ∀ g : Hp, BX12_compared_55 x y (nI a) g = some (c_ord (c_sgn a x) (c_sgn a y), g) := by
        intro g
        unfold BX12_compared_55 BX12_compared_76 BX12_compared_79 BX12_compared_102
        rw [ie_0 (by omega), if_neg h0, nl_2, if_lt (by decide) (by omega), if_pos c, gs, cl_ok, ie_0 (by omega), if_neg h0, if_lt (by decide) (by omega), if_pos c, gs, cl_ok, g_ord]
      rw [if_pos c]
      have hl : (2 : Int32) < nI a := by
        rw [nl_2, i32_lt, nI_tI (by decide), nI_tI (by omega)]; omega
      unfold BX12_compared_17
      simp only [hl, if_true]
      exact fin 1 (by rw [decide_eq_true c]; rfl) e55 (fun x y w g => BX12_compared_35 x y (nI a) y w g) (fun g => rfl)
    · have gs : ∀ (x : Int64) (h : Hp), FX12_inOrder x 0 h = some (c_sgn a x, h) := fun x h => by
        have := g_sgn a x h
        rw [decide_eq_false c] at this
        exact this
      have e55 : ∀ g : Hp, BX12_compared_55 x y (nI a) g = some (c_ord (c_sgn a x) (c_sgn a y), g) := by
        intro g
        unfold BX12_compared_55 BX12_compared_76 BX12_compared_79 BX12_compared_102
        rw [ie_0 (by omega), if_neg h0, nl_2, if_lt (by decide) (by omega), if_neg c, gs, cl_ok, ie_0 (by omega), if_neg h0, if_lt (by decide) (by omega), if_neg c, gs, cl_ok, g_ord]
      rw [if_neg c]
      have hl : ¬ (2 : Int32) < nI a := by
        rw [nl_2, i32_lt, nI_tI (by decide), nI_tI (by omega)]; omega
      unfold BX12_compared_17
      simp only [hl, if_false]
      exact fin 0 (by rw [decide_eq_false c]; rfl) e55 (fun x y w g => BX12_compared_35 x y (nI a) y w g) (fun g => rfl)
theorem i_tn (x : Int32) : x.toInt = if x.toBitVec.toNat < 2147483648 then (x.toBitVec.toNat : Int) else (x.toBitVec.toNat : Int) - 4294967296 := by
  show x.toBitVec.toInt = _
  rw [BitVec.toInt_eq_toNat_cond]
  split <;> split <;> omega
theorem nar_8 (x : Int32) : (x <<< (24 &&& 31)) >>> (24 &&& 31) = x.toInt8.toInt32 := by
  apply Int32.toInt_inj.mp
  have h := x.toBitVec.isLt
  have e1 : (24 &&& 31 : Int32) = 24 := by decide
  rw [e1, pk_shr _ 24 24 (by decide), i_tn (x <<< 24), pk_shl x 24 24 (by decide), Int8.toInt_toInt32, Int32.toInt_toInt8, i_tn x, Int.shiftRight_eq_div_pow, Int.bmod_def]
  split <;> split <;> split <;> omega
theorem nar_16 (x : Int32) : (x <<< (16 &&& 31)) >>> (16 &&& 31) = x.toInt16.toInt32 := by
  apply Int32.toInt_inj.mp
  have h := x.toBitVec.isLt
  have e1 : (16 &&& 31 : Int32) = 16 := by decide
  rw [e1, pk_shr _ 16 16 (by decide), i_tn (x <<< 16), pk_shl x 16 16 (by decide), Int16.toInt_toInt32, Int32.toInt_toInt16, i_tn x, Int.shiftRight_eq_div_pow, Int.bmod_def]
  split <;> split <;> split <;> omega
theorem nar_c (x : Int32) : x &&& 65535 = (x.toUInt32 % 65536).toInt32 := by
  rw [pk_char, pk_and x 16 (by decide)]
theorem g_nar {b : Nat} (hb : 5 ≤ b) (hb8 : b < 8) (x : Int64) (h : Hp) : FX12_narrow x (nI (b - 5)) h = some (Int32.toInt64 (c_nar b x.toInt32), h) := by
  rcases (show b = 5 ∨ b = 6 ∨ b = 7 by omega) with rfl | rfl | rfl
  · show some (Int32.toInt64 (((Int64.toInt32 x) <<< (24 &&& 31)) >>> (24 &&& 31)), h) = _
    rw [nar_8]; rfl
  · show some (Int32.toInt64 (((Int64.toInt32 x) <<< (16 &&& 31)) >>> (16 &&& 31)), h) = _
    rw [nar_16]; rfl
  · show some (Int32.toInt64 ((Int64.toInt32 x) &&& 65535), h) = _
    rw [nar_c]; rfl
