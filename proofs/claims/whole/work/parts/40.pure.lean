/-! what the stores leave, and the combinators where all is well -/
theorem hT_wI (h : Hp) (a k : Nat) (v : Int32) : hT (wI h a k v) = hT h := rfl
theorem hT_wL (h : Hp) (a k : Nat) (v : Int64) : hT (wL h a k v) = hT h := rfl
theorem hT_wR (h : Hp) (a k : Nat) (v : Option Nat) : hT (wR h a k v) = hT h := rfl
theorem hT_wLr (h : Hp) (a : Nat) (r : Nat → Int64) : hT (wLr h a r) = hT h := rfl
theorem hz_wI (h : Hp) (a k : Nat) (v : Int32) : hz (wI h a k v) = hz h := rfl
theorem hz_wL (h : Hp) (a k : Nat) (v : Int64) : hz (wL h a k v) = hz h := rfl
theorem hz_wR (h : Hp) (a k : Nat) (v : Option Nat) : hz (wR h a k v) = hz h := rfl
theorem hz_wLr (h : Hp) (a : Nat) (r : Nat → Int64) : hz (wLr h a r) = hz h := rfl
theorem hI_wL (h : Hp) (a k : Nat) (v : Int64) : hI (wL h a k v) = hI h := rfl
theorem hI_wR (h : Hp) (a k : Nat) (v : Option Nat) : hI (wR h a k v) = hI h := rfl
theorem hI_wLr (h : Hp) (a : Nat) (r : Nat → Int64) : hI (wLr h a r) = hI h := rfl
theorem hL_wI (h : Hp) (a k : Nat) (v : Int32) : hL (wI h a k v) = hL h := rfl
theorem hL_wR (h : Hp) (a k : Nat) (v : Option Nat) : hL (wR h a k v) = hL h := rfl
theorem hL_wLr (h : Hp) (a : Nat) (r : Nat → Int64) (b : Nat) : hL (wLr h a r) b = if b = a then r else hL h b := rfl
theorem hR_wI (h : Hp) (a k : Nat) (v : Int32) : hR (wI h a k v) = hR h := rfl
theorem hR_wL (h : Hp) (a k : Nat) (v : Int64) : hR (wL h a k v) = hR h := rfl
theorem hR_wLr (h : Hp) (a : Nat) (r : Nat → Int64) : hR (wLr h a r) = hR h := rfl
section PU
variable {α : Type} {h : Hp} {a ci f n : Nat}
theorem gI_ok {c : Int32 → Option α} (t : hT h a = some (.inl ci)) : gI h (some a) ci f c = c (hI h a f) := by simp only [gI, t, if_true]
theorem gL_ok {c : Int64 → Option α} (t : hT h a = some (.inl ci)) : gL h (some a) ci f c = c (hL h a f) := by simp only [gL, t, if_true]
theorem gR_ok {c : Option Nat → Option α} (t : hT h a = some (.inl ci)) : gR h (some a) ci f c = c (hR h a f) := by simp only [gR, t, if_true]
theorem pI_ok {x : Int32} {c : Hp → Option α} (t : hT h a = some (.inl ci)) : pI h (some a) ci f x c = c (wI h a f x) := by simp only [pI, t, if_true]
theorem pL_ok {x : Int64} {c : Hp → Option α} (t : hT h a = some (.inl ci)) : pL h (some a) ci f x c = c (wL h a f x) := by simp only [pL, t, if_true]
theorem pR_ok {x : Option Nat} {c : Hp → Option α} (t : hT h a = some (.inl ci)) : pR h (some a) ci f x c = c (wR h a f x) := by simp only [pR, t, if_true]
theorem pZ0_ok {c : Hp → Option α} (t : hT h a = some (.inl ci)) : pZ h (some a) ci f 0 c = c (wI h a f 0) := by simp [pZ, t]
theorem pZ1_ok {c : Hp → Option α} (t : hT h a = some (.inl ci)) : pZ h (some a) ci f 1 c = c (wI h a f 1) := by simp [pZ, t]
theorem pZ_ok {x : Int32} {c : Hp → Option α} (t : hT h a = some (.inl ci)) (hx : x = 0 ∨ x = 1) : pZ h (some a) ci f x c = c (wI h a f x) := by simp only [pZ, t, hx, and_self, if_true]
theorem rcv_ok {c : Option α} (t : hT h a = some (.inl ci)) : rcv h (some a) ci c = c := by simp only [rcv, t, if_true]
theorem nz_ok {c e : Option α} : nz (some a) c e = e := rfl
theorem nz_no {c e : Option α} : nz none c e = c := rfl
theorem arl_ok {t : FieldType} {c : Nat → Nat → Option α} (e : hT h a = some (.inr (t, n))) : arl h (some a) t c = c a n := by simp only [arl, e, if_true]
theorem inb_ok {i : Int32} {c : Option α} (e : vp_in i n) : inb i n c = c := if_neg e
theorem inb_nI {j : Nat} {c : Option α} (hj : j < n) (hn : n < 2 ^ 31) : inb (nI j) n c = c := inb_ok (vp_in_nI hj hn)
theorem aI_ok {t : FieldType} {i : Int32} {c : Int32 → Option α} (e : hT h a = some (.inr (t, n))) (hi : vp_in i n) : aI h (some a) t i c = c (hI h a i.toNatClampNeg) := by rw [aI, arl_ok e, inb_ok hi]
theorem aL_ok {i : Int32} {c : Int64 → Option α} (e : hT h a = some (.inr (.long, n))) (hi : vp_in i n) : aL h (some a) i c = c (hL h a i.toNatClampNeg) := by rw [aL, arl_ok e, inb_ok hi]
theorem aR_ok {C : String} {i : Int32} {c : Option Nat → Option α} (e : hT h a = some (.inr (.object C, n))) (hi : vp_in i n) : aR h (some a) C i c = c (hR h a i.toNatClampNeg) := by rw [aR, arl_ok e, inb_ok hi]
theorem ln_ok {t : FieldType} {c : Int32 → Option α} (e : hT h a = some (.inr (t, n))) : ln h (some a) t c = c (Int32.ofNat n) := by rw [ln, arl_ok e]
theorem sI_ok {i x : Int32} {c : Hp → Option α} (e : hT h a = some (.inr (.int, n))) (hi : vp_in i n) : sI h (some a) i x c = c (wI h a i.toNatClampNeg x) := by rw [sI, arl_ok e, inb_ok hi]
theorem sL_ok {i : Int32} {x : Int64} {c : Hp → Option α} (e : hT h a = some (.inr (.long, n))) (hi : vp_in i n) : sL h (some a) i x c = c (wL h a i.toNatClampNeg x) := by rw [sL, arl_ok e, inb_ok hi]
theorem sZ_ok {i x : Int32} {c : Hp → Option α} (e : hT h a = some (.inr (.boolean, n))) (hi : vp_in i n) (hx : x = 0 ∨ x = 1) : sZ h (some a) i x c = c (wI h a i.toNatClampNeg x) := by rw [sZ, arl_ok e, inb_ok hi, if_pos hx]
theorem sR_ok {C : String} {i : Int32} {b : Nat} {c : Hp → Option α} (e : hT h a = some (.inr (.object C, n))) (hi : vp_in i n) (t : hT h b = some (.inl ci)) : sR h (some a) C ci i (some b) c = c (wR h a i.toNatClampNeg (some b)) := by
  rw [sR, arl_ok e, inb_ok hi]
  show (if hT h b = some (.inl ci) then _ else _) = _
  rw [if_pos t]
theorem cl_ok {β : Type} {v : β} {g : Hp} {c : β → Hp → Option α} : cl (some (v, g)) c = c v g := rfl
theorem bz_0 {c : Option α} : bz 0 c = c := rfl
theorem bz_1 {c : Option α} : bz 1 c = c := rfl
/-- the same with numbers of the naturals -/
theorem aI_n {t : FieldType} {j : Nat} {c : Int32 → Option α} (e : hT h a = some (.inr (t, n))) (hj : j < n) (hn : n < 2 ^ 31) : aI h (some a) t (nI j) c = c (hI h a j) := by rw [aI_ok e (vp_in_nI hj hn), nI_clamp (by omega)]
theorem aL_n {j : Nat} {c : Int64 → Option α} (e : hT h a = some (.inr (.long, n))) (hj : j < n) (hn : n < 2 ^ 31) : aL h (some a) (nI j) c = c (hL h a j) := by rw [aL_ok e (vp_in_nI hj hn), nI_clamp (by omega)]
theorem aR_n {C : String} {j : Nat} {c : Option Nat → Option α} (e : hT h a = some (.inr (.object C, n))) (hj : j < n) (hn : n < 2 ^ 31) : aR h (some a) C (nI j) c = c (hR h a j) := by rw [aR_ok e (vp_in_nI hj hn), nI_clamp (by omega)]
theorem sI_n {j : Nat} {x : Int32} {c : Hp → Option α} (e : hT h a = some (.inr (.int, n))) (hj : j < n) (hn : n < 2 ^ 31) : sI h (some a) (nI j) x c = c (wI h a j x) := by rw [sI_ok e (vp_in_nI hj hn), nI_clamp (by omega)]
theorem sL_n {j : Nat} {x : Int64} {c : Hp → Option α} (e : hT h a = some (.inr (.long, n))) (hj : j < n) (hn : n < 2 ^ 31) : sL h (some a) (nI j) x c = c (wL h a j x) := by rw [sL_ok e (vp_in_nI hj hn), nI_clamp (by omega)]
theorem sZ_n {j : Nat} {x : Int32} {c : Hp → Option α} (e : hT h a = some (.inr (.boolean, n))) (hj : j < n) (hn : n < 2 ^ 31) (hx : x = 0 ∨ x = 1) : sZ h (some a) (nI j) x c = c (wI h a j x) := by rw [sZ_ok e (vp_in_nI hj hn) hx, nI_clamp (by omega)]
theorem sR_n {C : String} {j b : Nat} {c : Hp → Option α} (e : hT h a = some (.inr (.object C, n))) (hj : j < n) (hn : n < 2 ^ 31) (t : hT h b = some (.inl ci)) : sR h (some a) C ci (nI j) (some b) c = c (wR h a j (some b)) := by rw [sR_ok e (vp_in_nI hj hn) t, nI_clamp (by omega)]
end PU
