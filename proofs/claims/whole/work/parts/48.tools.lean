/-! numbers as nI, and what is asked of them: for one long simp -/
theorem nl_2 : (2 : Int32) = nI 2 := rfl
theorem nl_3 : (3 : Int32) = nI 3 := rfl
theorem nl_4 : (4 : Int32) = nI 4 := rfl
theorem nl_5 : (5 : Int32) = nI 5 := rfl
theorem nl_6 : (6 : Int32) = nI 6 := rfl
theorem nl_7 : (7 : Int32) = nI 7 := rfl
theorem nl_8 : (8 : Int32) = nI 8 := rfl
theorem nl_9 : (9 : Int32) = nI 9 := rfl
theorem nl_10 : (10 : Int32) = nI 10 := rfl
theorem nl_11 : (11 : Int32) = nI 11 := rfl
theorem nl_12 : (12 : Int32) = nI 12 := rfl
theorem nl_13 : (13 : Int32) = nI 13 := rfl
theorem nl_14 : (14 : Int32) = nI 14 := rfl
theorem nl_15 : (15 : Int32) = nI 15 := rfl
theorem nl_16 : (16 : Int32) = nI 16 := rfl
theorem nl_17 : (17 : Int32) = nI 17 := rfl
theorem nl_18 : (18 : Int32) = nI 18 := rfl
theorem nl_19 : (19 : Int32) = nI 19 := rfl
theorem nl_20 : (20 : Int32) = nI 20 := rfl
theorem nl_21 : (21 : Int32) = nI 21 := rfl
theorem nl_22 : (22 : Int32) = nI 22 := rfl
theorem nl_23 : (23 : Int32) = nI 23 := rfl
theorem nl_24 : (24 : Int32) = nI 24 := rfl
theorem nl_25 : (25 : Int32) = nI 25 := rfl
theorem nl_26 : (26 : Int32) = nI 26 := rfl
theorem nl_27 : (27 : Int32) = nI 27 := rfl
theorem nl_28 : (28 : Int32) = nI 28 := rfl
theorem nl_29 : (29 : Int32) = nI 29 := rfl
theorem nl_30 : (30 : Int32) = nI 30 := rfl
theorem nl_31 : (31 : Int32) = nI 31 := rfl
theorem nl_32 : (32 : Int32) = nI 32 := rfl
theorem nl_33 : (33 : Int32) = nI 33 := rfl
theorem nl_34 : (34 : Int32) = nI 34 := rfl
theorem nl_35 : (35 : Int32) = nI 35 := rfl
theorem nl_36 : (36 : Int32) = nI 36 := rfl
theorem nl_37 : (37 : Int32) = nI 37 := rfl
theorem nl_38 : (38 : Int32) = nI 38 := rfl
theorem nl_39 : (39 : Int32) = nI 39 := rfl
theorem nl_40 : (40 : Int32) = nI 40 := rfl
theorem nl_41 : (41 : Int32) = nI 41 := rfl
theorem nl_42 : (42 : Int32) = nI 42 := rfl
theorem nl_43 : (43 : Int32) = nI 43 := rfl
theorem nl_44 : (44 : Int32) = nI 44 := rfl
theorem nl_45 : (45 : Int32) = nI 45 := rfl
theorem nl_46 : (46 : Int32) = nI 46 := rfl
theorem nl_47 : (47 : Int32) = nI 47 := rfl
theorem nl_48 : (48 : Int32) = nI 48 := rfl
theorem nl_49 : (49 : Int32) = nI 49 := rfl
theorem nl_50 : (50 : Int32) = nI 50 := rfl
theorem nl_51 : (51 : Int32) = nI 51 := rfl
theorem nl_52 : (52 : Int32) = nI 52 := rfl
theorem nl_53 : (53 : Int32) = nI 53 := rfl
theorem nl_54 : (54 : Int32) = nI 54 := rfl
theorem nl_55 : (55 : Int32) = nI 55 := rfl
theorem nl_56 : (56 : Int32) = nI 56 := rfl
theorem nl_57 : (57 : Int32) = nI 57 := rfl
theorem nl_58 : (58 : Int32) = nI 58 := rfl
theorem nl_59 : (59 : Int32) = nI 59 := rfl
theorem nl_60 : (60 : Int32) = nI 60 := rfl
theorem nl_61 : (61 : Int32) = nI 61 := rfl
theorem nl_62 : (62 : Int32) = nI 62 := rfl
theorem nl_63 : (63 : Int32) = nI 63 := rfl
theorem nl_64 : (64 : Int32) = nI 64 := rfl
theorem nl_100 : (100 : Int32) = nI 100 := rfl
theorem nl_480 : (480 : Int32) = nI 480 := rfl
theorem nl_1020 : (1020 : Int32) = nI 1020 := rfl
theorem nl_3000 : (3000 : Int32) = nI 3000 := rfl
section TL
variable {α : Type} {a : Nat} {x y : α}
theorem ie_0 (ha : a < 2 ^ 31) : (if nI a = 0 then x else y) = if a = 0 then x else y := if_eq (b := 0) ha (by decide)
theorem ie_1 (ha : a < 2 ^ 31) : (if nI a = 1 then x else y) = if a = 1 then x else y := if_eq (b := 1) ha (by decide)
theorem il_0 (ha : a < 2 ^ 31) : (if nI a < 0 then x else y) = y := if_neg (nI_pos ha)
theorem il_1 (ha : a < 2 ^ 31) : (if nI a < 1 then x else y) = if a < 1 then x else y := if_lt (b := 1) ha (by decide)
theorem ir_0 (ha : a < 2 ^ 31) : (if 0 < nI a then x else y) = if 0 < a then x else y := if_lt (a := 0) (by decide) ha
theorem ir_1 (ha : a < 2 ^ 31) : (if 1 < nI a then x else y) = if 1 < a then x else y := if_lt (a := 1) (by decide) ha
theorem nI_nm1 (ha : a < 2 ^ 31) : ¬ nI a = -1 := by
  intro e
  have e2 := congrArg Int32.toInt e
  rw [nI_tI ha] at e2
  have : (-1 : Int32).toInt = -1 := rfl
  omega
theorem ie_m (ha : a < 2 ^ 31) : (if nI a = -1 then x else y) = y := if_neg (nI_nm1 ha)
theorem il_m (ha : a < 2 ^ 31) : (if nI a < -1 then x else y) = y := if_neg (by
  rw [i32_lt, nI_tI ha]
  have : (-1 : Int32).toInt = -1 := rfl
  omega)
theorem lN_nm1 (ha : a < 2 ^ 31) : ¬ lN a = -1 := by
  intro e
  have e2 := congrArg Int64.toInt e
  rw [lN_toInt ha] at e2
  have : (-1 : Int64).toInt = -1 := rfl
  omega
theorem bz_b {b : Prop} [Decidable b] {c : Option α} : bz (if b then 1 else 0) c = c := by
  unfold bz
  by_cases h : b <;> simp [h]
theorem ib_0 {b : Prop} [Decidable b] : (if (if b then (1 : Int32) else 0) = 0 then x else y) = if b then y else x := by
  by_cases h : b <;> simp [h]
theorem nI_s1 (n : Nat) : nI n + 1 - 1 = nI n := by rw [nI_1, nI_pred]
theorem nI_p1 (h : 1 ≤ a) : nI a - 1 = nI (a - 1) := by rw [nI_c1, pk_sub h]
theorem nI_lt_of {x : Int32} {n : Nat} (hn : n < 2 ^ 31) (h0 : 0 ≤ x.toInt) (h1 : x.toInt < n) : ∃ j, j < n ∧ x = nI j := by
  rcases i32_cases x hn with h | h
  · exact h
  · omega
end TL
theorem i_10 : ((1 : Int32) = 0) = False := eq_false (by decide)
theorem i_01 : ((0 : Int32) = 1) = False := eq_false (by decide)
theorem i_0m : ((0 : Int32) = -1) = False := eq_false (by decide)
theorem i_1m : ((1 : Int32) = -1) = False := eq_false (by decide)
theorem i_m0 : ((-1 : Int32) = 0) = False := eq_false (by decide)
theorem i_ml0 : ((-1 : Int32) < 0) = True := eq_true (by decide)
theorem b2i_if {α : Type} {b : Bool} {x y : α} : (if b2i b = 0 then x else y) = if b = true then y else x := by cases b <;> rfl
theorem bz_i {α : Type} {b : Bool} {c : Option α} : bz (b2i b) c = c := by cases b <;> rfl
