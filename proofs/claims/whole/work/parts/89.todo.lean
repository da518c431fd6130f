def hp00 (b : Nat) : Hp := (fun _ => none, fun _ _ => 0, fun _ _ => 0, fun _ _ => none, b)
theorem law_true (L : Nat) (xs : Nat → Int32) (b : Nat) (hL : L ≤ 3072) : ∃ h1, FL_law L xs (hp00 b) = some (1, h1) := sorry
