/-! numbers: the class's -/
theorem n12 {a : Nat} (h : a < 12) : a = 0 ∨ a = 1 ∨ a = 2 ∨ a = 3 ∨ a = 4 ∨ a = 5 ∨ a = 6 ∨ a = 7 ∨ a = 8 ∨ a = 9 ∨ a = 10 ∨ a = 11 := by omega
theorem n5 {a : Nat} (h : a < 5) : a = 0 ∨ a = 1 ∨ a = 2 ∨ a = 3 ∨ a = 4 := by omega
theorem f_calcI {a : Nat} (ha : a < 12) {x y : Int32} (hy : (a = 3 ∨ a = 4) → ¬ y = 0) (h : Hp) : FX3_calculateInt (nI a) x y h = some (c_int a x y, h) := by
  rcases n12 ha with rfl | rfl | rfl | rfl | rfl | rfl | rfl | rfl | rfl | rfl | rfl | rfl
  · rfl
  · rfl
  · rfl
  · have z := hy (Or.inl rfl)
    show (if y = 0 then some (0, h) else if y = 0 then none else some (x / y, h)) = _
    rw [if_neg z, if_neg z]; rfl
  · have z := hy (Or.inr rfl)
    show (if y = 0 then some (0, h) else if y = 0 then none else some (x - x / y * y, h)) = _
    rw [if_neg z, if_neg z]; rfl
  all_goals rfl
theorem f_calcL {a : Nat} (ha : a < 12) {x y : Int64} (hy : (a = 3 ∨ a = 4) → ¬ y = 0) (h : Hp) : FX3_calculateLong (nI a) x y h = some (c_lng a x y, h) := by
  rcases n12 ha with rfl | rfl | rfl | rfl | rfl | rfl | rfl | rfl | rfl | rfl | rfl | rfl
  · rfl
  · rfl
  · rfl
  · have z := hy (Or.inl rfl)
    show (if y = 0 then some (0, h) else if y = 0 then none else some (x / y, h)) = _
    rw [if_neg z, if_neg z]; rfl
  · have z := hy (Or.inr rfl)
    show (if y = 0 then some (0, h) else if y = 0 then none else some (x - x / y * y, h)) = _
    rw [if_neg z, if_neg z]; rfl
  all_goals rfl
theorem f_nar {b : Nat} (hb : 5 ≤ b) (hb8 : b < 8) (x : Int32) (h : Hp) : FX3_narrow (nI b) x h = some (c_nar b x, h) := by
  rcases (show b = 5 ∨ b = 6 ∨ b = 7 by omega) with rfl | rfl | rfl <;> rfl
theorem f_cnv {a : Nat} (ha : a < 5) (x : Int64) (h : Hp) : FX3_convert (nI a) x h = some (c_cnv a x, h) := by
  rcases n5 ha with rfl | rfl | rfl | rfl | rfl <;> rfl
theorem f_ord (x y : Int64) (h : Hp) : FX3_order x y h = some (c_ord x y, h) := by
  unfold FX3_order c_ord
  by_cases c : x = y
  · rw [if_pos c, if_pos c]
  · rw [if_neg c, if_neg c]
    by_cases c2 : x < y
    · rw [if_pos c2, if_pos c2]
    · rw [if_neg c2, if_neg c2]
theorem f_cmp52 {a : Nat} (h0 : 0 < a) (ha : a < 5) (x y : Int64) (h : Hp) : BX3_compareBits_52 (nI a) x y (c_msk a) (c_inf a) h = some (c_cmp a x y, h) := by
  have ha0 : ¬ a = 0 := by omega
  have e82 : BX3_compareBits_82 (nI a) h = some ((if a % 2 = 1 then -1 else 1), h) := by
    rcases (show a = 1 ∨ a = 2 ∨ a = 3 ∨ a = 4 by omega) with rfl | rfl | rfl | rfl <;> rfl
  unfold BX3_compareBits_52 c_cmp
  rw [if_neg ha0]
  by_cases c1 : c_inf a < (x &&& c_msk a)
  · rw [if_pos c1, if_pos (Or.inl c1)]; exact e82
  · rw [if_neg c1]
    by_cases c2 : c_inf a < (y &&& c_msk a)
    · rw [if_pos c2, if_pos (Or.inr c2)]; exact e82
    · have c12 : ¬ (c_inf a < (x &&& c_msk a) ∨ c_inf a < (y &&& c_msk a)) := fun z => z.elim c1 c2
      rw [if_neg c2, if_neg c12]
      unfold BX3_compareBits_109 BX3_compareBits_123 c_sgn
      by_cases c3 : x < 0
      · rw [if_pos c3, if_pos c3]
        by_cases c4 : y < 0
        · rw [if_pos c4, if_pos c4, f_ord, cl_ok]
        · rw [if_neg c4, if_neg c4, f_ord, cl_ok]
      · rw [if_neg c3, if_neg c3]
        by_cases c4 : y < 0
        · rw [if_pos c4, if_pos c4, f_ord, cl_ok]
        · rw [if_neg c4, if_neg c4, f_ord, cl_ok]
theorem f_cmp {a : Nat} (ha : a < 5) (x y : Int64) (h : Hp) : FX3_compareBits (nI a) x y h = some (c_cmp a x y, h) := by
  by_cases h0 : a = 0
  · subst h0
    show cl (FX3_order x y h) (fun v2 h3 => some (v2, h3)) = _
    rw [f_ord, cl_ok]; rfl
  · have e := f_cmp52 (by omega) ha x y h
    unfold FX3_compareBits BX3_compareBits_20 BX3_compareBits_36
    rw [ie_0 (by omega), if_neg h0, nl_2, if_lt (by decide) (by omega)]
    by_cases c : 2 < a
    · have e1 : c_msk a = 9223372036854775807 := if_pos c
      have e2 : c_inf a = 9218868437227405312 := if_pos c
      rw [e1, e2] at e
      rw [if_pos c, if_neg (by decide), if_neg (by decide)]
      exact e
    · have e1 : c_msk a = 2147483647 := if_neg c
      have e2 : c_inf a = 2139095040 := if_neg c
      rw [e1, e2] at e
      rw [if_neg c, if_pos rfl, if_pos rfl]
      exact e
theorem f_pas {b : Nat} (hb : b < 6) (x : Int32) (h : Hp) : FX3_passes (nI b) x h = some (b2i (c_pas b x), h) := by
  rcases (show b = 0 ∨ b = 1 ∨ b = 2 ∨ b = 3 ∨ b = 4 ∨ b = 5 by omega) with rfl | rfl | rfl | rfl | rfl | rfl
  · show (if x = 0 then bz 1 (some (1, h)) else bz 0 (some (0, h))) = some (b2i (decide (x = 0)), h)
    by_cases c : x = 0
    · rw [if_pos c, decide_eq_true c]; rfl
    · rw [if_neg c, decide_eq_false c]; rfl
  · show (if x = 0 then bz 0 (some (0, h)) else bz 1 (some (1, h))) = some (b2i (!decide (x = 0)), h)
    by_cases c : x = 0
    · rw [if_pos c, decide_eq_true c]; rfl
    · rw [if_neg c, decide_eq_false c]; rfl
  · show (if x < 0 then bz 1 (some (1, h)) else bz 0 (some (0, h))) = some (b2i (decide (x < 0)), h)
    by_cases c : x < 0
    · rw [if_pos c, decide_eq_true c]; rfl
    · rw [if_neg c, decide_eq_false c]; rfl
  · show (if x < 0 then bz 0 (some (0, h)) else bz 1 (some (1, h))) = some (b2i (!decide (x < 0)), h)
    by_cases c : x < 0
    · rw [if_pos c, decide_eq_true c]; rfl
    · rw [if_neg c, decide_eq_false c]; rfl
  · show (if 0 < x then bz 1 (some (1, h)) else bz 0 (some (0, h))) = some (b2i (decide (0 < x)), h)
    by_cases c : 0 < x
    · rw [if_pos c, decide_eq_true c]; rfl
    · rw [if_neg c, decide_eq_false c]; rfl
  · show (if 0 < x then bz 0 (some (0, h)) else bz 1 (some (1, h))) = some (b2i (!decide (0 < x)), h)
    by_cases c : 0 < x
    · rw [if_pos c, decide_eq_true c]; rfl
    · rw [if_neg c, decide_eq_false c]; rfl
theorem f_kOC {b : Nat} (hb : b < 8) (h : Hp) : FX11_kindOfCell (nI b) h = some (nI (kcl b), h) := by
  rcases (show b = 0 ∨ b = 1 ∨ b = 2 ∨ b = 3 ∨ b = 4 ∨ b = 5 ∨ b = 6 ∨ b = 7 by omega) with rfl | rfl | rfl | rfl | rfl | rfl | rfl | rfl <;> rfl
theorem f_kCm {a : Nat} (ha : a < 5) (h : Hp) : FX11_kindCompared (nI a) h = some (nI (kcm a), h) := by
  rcases n5 ha with rfl | rfl | rfl | rfl | rfl <;> rfl
/-! numbers: the model's -/
theorem sx_r (x : Int32) : (Int32.toInt64 x).toInt32 = x := by simp
def sx (x : Int64) : Prop := Int32.toInt64 (Int64.toInt32 x) = x
theorem bm64 (x : Int) : Int.bmod (Int.bmod x (2 ^ 64)) (2 ^ 32) = Int.bmod x (2 ^ 32) := Int.bmod_bmod_of_dvd (by decide)
theorem c_div (x y : Int32) : (Int32.toInt64 x / Int32.toInt64 y).toInt32 = x / y := by
  apply Int32.toInt_inj.mp
  rw [Int64.toInt_toInt32, Int64.toInt_div, Int32.toInt_div, i64_of32, i64_of32]
  exact bm64 _
theorem c_m1 (x : Int32) : x - x / (-1) * (-1) = 0 := by
  apply Int32.toInt_inj.mp
  rw [Int32.toInt_sub, Int32.toInt_mul, Int32.toInt_div]
  have e : (-1 : Int32).toInt = -1 := rfl
  rw [e, Int.tdiv_neg, Int.tdiv_one]
  simp
theorem c_m1L (x : Int64) : x - x / (-1) * (-1) = 0 := by
  apply Int64.toInt_inj.mp
  rw [Int64.toInt_sub, Int64.toInt_mul, Int64.toInt_div]
  have e : (-1 : Int64).toInt = -1 := rfl
  rw [e, Int.tdiv_neg, Int.tdiv_one]
  simp
theorem g_reckL {a : Nat} (ha : a < 12) {x y : Int64} (hy : (a = 3 ∨ a = 4) → ¬ y = 0) (h : Hp) : FX12_reckoned x y (nI a) 1 h = some (c_lng a x y, h) := by
  rcases n12 ha with rfl | rfl | rfl | rfl | rfl | rfl | rfl | rfl | rfl | rfl | rfl | rfl
  · rfl
  · rfl
  · rfl
  · have z := hy (Or.inl rfl)
    show (if y = 0 then none else some (x / y, h)) = _
    rw [if_neg z]; rfl
  · have z := hy (Or.inr rfl)
    show (if y = -1 then some (0, h) else if y = 0 then none else some (x - x / y * y, h)) = _
    by_cases c : y = -1
    · subst c
      rw [if_pos rfl]
      show some (0, h) = some (x - x / (-1) * (-1), h)
      rw [c_m1L]
    · rw [if_neg c, if_neg z]; rfl
  all_goals rfl
theorem gq_0 {x y : Int64} (h : Hp) : ∃ v, FX12_reckoned x y (nI 0) 0 h = some (v, h) ∧ v.toInt32 = c_int 0 x.toInt32 y.toInt32 := by
  refine ⟨x + y, rfl, ?_⟩
  rw [Int64.toInt32_add]; rfl
theorem gq_1 {x y : Int64} (h : Hp) : ∃ v, FX12_reckoned x y (nI 1) 0 h = some (v, h) ∧ v.toInt32 = c_int 1 x.toInt32 y.toInt32 := by
  refine ⟨x - y, rfl, ?_⟩
  rw [Int64.toInt32_sub]; rfl
theorem gq_2 {x y : Int64} (h : Hp) : ∃ v, FX12_reckoned x y (nI 2) 0 h = some (v, h) ∧ v.toInt32 = c_int 2 x.toInt32 y.toInt32 := by
  refine ⟨x * y, rfl, ?_⟩
  rw [Int64.toInt32_mul]; rfl
theorem gq_e3 {x y : Int64} (z : ¬ y = 0) (h : Hp) : FX12_reckoned x y (nI 3) 0 h = some (x / y, h) := by
  show (if y = 0 then none else some (x / y, h)) = _
  rw [if_neg z]
theorem gq_v3 {x y : Int64} (hx : sx x) (hsy : sx y) : (x / y).toInt32 = c_int 3 x.toInt32 y.toInt32 := by
  unfold sx at hx hsy
  have e : c_int 3 x.toInt32 y.toInt32 = x.toInt32 / y.toInt32 := rfl
  have e2 := c_div x.toInt32 y.toInt32
  rw [hx, hsy] at e2
  rw [e]; exact e2
theorem gq_e4 {x y : Int64} (z : ¬ y = 0) (c : ¬ y = -1) (h : Hp) : FX12_reckoned x y (nI 4) 0 h = some (x - x / y * y, h) := by
  show (if y = -1 then some (0, h) else if y = 0 then none else some (x - x / y * y, h)) = _
  rw [if_neg c, if_neg z]
theorem gq_v4 {x y : Int64} (hx : sx x) (hsy : sx y) : (x - x / y * y).toInt32 = c_int 4 x.toInt32 y.toInt32 := by
  unfold sx at hx hsy
  have e2 := c_div x.toInt32 y.toInt32
  rw [hx, hsy] at e2
  have e : c_int 4 x.toInt32 y.toInt32 = x.toInt32 - x.toInt32 / y.toInt32 * y.toInt32 := rfl
  rw [Int64.toInt32_sub, Int64.toInt32_mul, e2, e]
theorem gq_m4 {x y : Int64} (c : y = -1) (h : Hp) : FX12_reckoned x y (nI 4) 0 h = some (0, h) := by
  show (if y = -1 then some (0, h) else if y = 0 then none else some (x - x / y * y, h)) = _
  rw [if_pos c]
theorem gq_z : (0 : Int64).toInt32 = 0 := by decide
theorem gq_n : (-1 : Int64).toInt32 = -1 := by decide
theorem gq_w4 {x y : Int64} (c : y = -1) : (0 : Int64).toInt32 = c_int 4 x.toInt32 y.toInt32 := by
  have e : c_int 4 x.toInt32 y.toInt32 = x.toInt32 - x.toInt32 / y.toInt32 * y.toInt32 := rfl
  rw [e, c, gq_n, c_m1, gq_z]
theorem gq_5 {x y : Int64} (h : Hp) : ∃ v, FX12_reckoned x y (nI 5) 0 h = some (v, h) ∧ v.toInt32 = c_int 5 x.toInt32 y.toInt32 := by
  refine ⟨x &&& y, rfl, ?_⟩
  rw [Int64.toInt32_and]; rfl
theorem gq_6 {x y : Int64} (h : Hp) : ∃ v, FX12_reckoned x y (nI 6) 0 h = some (v, h) ∧ v.toInt32 = c_int 6 x.toInt32 y.toInt32 := by
  refine ⟨x ||| y, rfl, ?_⟩
  rw [Int64.toInt32_or]; rfl
theorem gq_7 {x y : Int64} (h : Hp) : ∃ v, FX12_reckoned x y (nI 7) 0 h = some (v, h) ∧ v.toInt32 = c_int 7 x.toInt32 y.toInt32 := by
  refine ⟨x ^^^ y, rfl, ?_⟩
  rw [Int64.toInt32_xor]; rfl
theorem gq_8 {x y : Int64} (h : Hp) : ∃ v, FX12_reckoned x y (nI 8) 0 h = some (v, h) ∧ v.toInt32 = c_int 8 x.toInt32 y.toInt32 := by
  refine ⟨Int32.toInt64 ((Int64.toInt32 x) <<< ((Int64.toInt32 y) &&& 31)), rfl, ?_⟩
  rw [sx_r]; rfl
theorem gq_9 {x y : Int64} (h : Hp) : ∃ v, FX12_reckoned x y (nI 9) 0 h = some (v, h) ∧ v.toInt32 = c_int 9 x.toInt32 y.toInt32 := by
  refine ⟨Int32.toInt64 ((Int64.toInt32 x) >>> ((Int64.toInt32 y) &&& 31)), rfl, ?_⟩
  rw [sx_r]; rfl
theorem gq_10 {x y : Int64} (h : Hp) : ∃ v, FX12_reckoned x y (nI 10) 0 h = some (v, h) ∧ v.toInt32 = c_int 10 x.toInt32 y.toInt32 := by
  refine ⟨Int32.toInt64 (Int32.toUInt32 (Int64.toInt32 x) >>> (Int32.toUInt32 (Int64.toInt32 y) &&& Int32.toUInt32 31)).toInt32, rfl, ?_⟩
  rw [sx_r]; rfl
theorem gq_11 {x y : Int64} (h : Hp) : ∃ v, FX12_reckoned x y (nI 11) 0 h = some (v, h) ∧ v.toInt32 = c_int 11 x.toInt32 y.toInt32 := by
  refine ⟨0 - x, rfl, ?_⟩
  have e1 : c_int 11 x.toInt32 y.toInt32 = 0 - x.toInt32 := rfl
  rw [Int64.toInt32_sub, gq_z, e1]
theorem g_reckI {a : Nat} (ha : a < 12) {x y : Int64} (hx : sx x) (hsy : sx y) (hy : (a = 3 ∨ a = 4) → ¬ y = 0) (h : Hp) : ∃ v, FX12_reckoned x y (nI a) 0 h = some (v, h) ∧ v.toInt32 = c_int a x.toInt32 y.toInt32 := by
  rcases n12 ha with rfl | rfl | rfl | rfl | rfl | rfl | rfl | rfl | rfl | rfl | rfl | rfl
  · exact gq_0 h
  · exact gq_1 h
  · exact gq_2 h
  · exact ⟨_, gq_e3 (hy (Or.inl rfl)) h, gq_v3 hx hsy⟩
  · by_cases c : y = -1
    · exact ⟨_, gq_m4 c h, gq_w4 c⟩
    · exact ⟨_, gq_e4 (hy (Or.inr rfl)) c h, gq_v4 hx hsy⟩
  · exact gq_5 h
  · exact gq_6 h
  · exact gq_7 h
  · exact gq_8 h
  · exact gq_9 h
  · exact gq_10 h
  · exact gq_11 h
