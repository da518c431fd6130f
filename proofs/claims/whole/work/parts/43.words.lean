/-! Words: a stack of longs at w, its row at wa -/
def Wv (h : Hp) (w wa d : Nat) (s : Nat → Int64) : Prop := hT h w = some (.inl 9) ∧ hR h w 0 = some wa ∧ hT h wa = some (.inr (.long, 14)) ∧ w ≠ wa ∧ hI h w 1 = nI d ∧ d ≤ 14 ∧ ∀ i, i < d → hL h wa i = s i
theorem Wv.fr {h g : Hp} {w wa d : Nat} {s : Nat → Int64} {A : Nat → Prop} (v : Wv h w wa d s) (f : Fr A h g) (h1 : ¬ A w) (h2 : ¬ A wa) : Wv g w wa d s := by
  obtain ⟨a1, a2, a3, a4, a5, a6, a7⟩ := v
  exact ⟨by rw [f.1]; exact a1, by rw [f.2.1]; exact a2, by rw [f.1]; exact a3, a4, by rw [(f.2.2.2 w h1).1]; exact a5, a6, fun i hi => by rw [(f.2.2.2 wa h2).2]; exact a7 i hi⟩
theorem Wv.to {h : Hp} {w wa d : Nat} {s s' : Nat → Int64} (v : Wv h w wa d s) (e : ∀ i, i < d → s i = s' i) : Wv h w wa d s' := ⟨v.1, v.2.1, v.2.2.1, v.2.2.2.1, v.2.2.2.2.1, v.2.2.2.2.2.1, fun i hi => (v.2.2.2.2.2.2 i hi).trans (e i hi)⟩
def Aw (w wa : Nat) : Nat → Prop := fun b => b = w ∨ b = wa
theorem k_clear {h : Hp} {w wa d : Nat} {s : Nat → Int64} (v : Wv h w wa d s) : Ok (FX10_clear (some w) h) (fun _ g => Wv g w wa 0 s ∧ Fr (Aw w wa) h g) := by
  obtain ⟨a1, a2, a3, a4, a5, a6, a7⟩ := v
  unfold FX10_clear
  rw [pI_ok a1]
  exact ok_some ⟨⟨a1, a2, a3, a4, hI_wI_s, by omega, fun i hi => by omega⟩, Fr.wI (Or.inl rfl)⟩
theorem k_at {h : Hp} {w wa d : Nat} {s : Nat → Int64} (v : Wv h w wa d s) {i : Nat} (hi : i < d) : FX10_at (some w) (nI i) h = some (s i, h) := by
  obtain ⟨a1, a2, a3, a4, a5, a6, a7⟩ := v
  unfold FX10_at
  rw [if_neg (nI_pos (by omega)), gI_ok a1, a5, if_lt (by omega) (by omega), if_pos hi, gR_ok a1, a2, aL_n a3 (by omega) (by decide), a7 i hi]
theorem k_at_no {h : Hp} {w wa d : Nat} {s : Nat → Int64} (v : Wv h w wa d s) {x : Int32} (hx : x < 0) : FX10_at (some w) x h = some (-1, h) := by
  unfold FX10_at
  rw [if_pos hx]
theorem k_push {h : Hp} {w wa d : Nat} {s : Nat → Int64} (v : Wv h w wa d s) (x : Int64) (hd : d < 14) : Ok (FX10_push (some w) x h) (fun _ g => Wv g w wa (d + 1) (vp_updL s d x) ∧ Fr (Aw w wa) h g) := by
  obtain ⟨a1, a2, a3, a4, a5, a6, a7⟩ := v
  unfold FX10_push
  have e14 : Int32.ofNat 14 = nI 14 := rfl
  rw [gI_ok a1, gR_ok a1, a2, ln_ok a3, a5, e14, if_lt (by omega) (by omega), if_pos hd, gR_ok a1, a2, gI_ok a1, a5, sL_n a3 (by omega) (by decide)]
  rw [gI_ok (show hT (wL h wa d x) w = _ from a1), pI_ok (show hT (wL h wa d x) w = _ from a1)]
  rw [show hI (wL h wa d x) w 1 = nI d from a5, nI_1]
  refine ok_some ⟨⟨a1, a2, a3, a4, hI_wI_s, by omega, fun i hi => ?_⟩, (Fr.wL (Or.inr rfl)).trans (Fr.wI (Or.inl rfl))⟩
  rw [hL_wI, hL_wL_row]
  by_cases e : i = d
  · subst e; simp [vp_updL]
  · simp only [vp_updL, if_neg e]; exact a7 i (by omega)
theorem k_pop {h : Hp} {w wa d : Nat} {s : Nat → Int64} (v : Wv h w wa (d + 1) s) : Ok (FX10_pop (some w) h) (fun r g => r = s d ∧ Wv g w wa d s ∧ Fr (Aw w wa) h g) := by
  obtain ⟨a1, a2, a3, a4, a5, a6, a7⟩ := v
  unfold FX10_pop
  rw [gI_ok a1, a5, if_neg (nI_ne0 (by omega) (by omega)), gI_ok a1, a5, nI_pred, pI_ok a1]
  rw [gR_ok (show hT (wI h w 1 (nI d)) w = _ from a1), show hR (wI h w 1 (nI d)) w 0 = _ from a2, gI_ok (show hT (wI h w 1 (nI d)) w = _ from a1), hI_wI_s, aL_n (show hT (wI h w 1 (nI d)) wa = _ from a3) (by omega) (by decide)]
  exact ok_some ⟨a7 d (by omega), ⟨a1, a2, a3, a4, hI_wI_s, by omega, fun i hi => a7 i (by omega)⟩, Fr.wI (Or.inl rfl)⟩
theorem k_drop {h : Hp} {w wa d : Nat} {s : Nat → Int64} (v : Wv h w wa d s) {n : Nat} (hn : n ≤ d) : Ok (FX10_drop (some w) (nI n) h) (fun _ g => Wv g w wa (d - n) s ∧ Fr (Aw w wa) h g) := by
  obtain ⟨a1, a2, a3, a4, a5, a6, a7⟩ := v
  unfold FX10_drop
  rw [gI_ok a1, a5, pk_sub hn, pI_ok a1]
  have e : (if (0 : Int32) < nI (d - n) then nI (d - n) else 0) = nI (d - n) := by
    by_cases z : d - n = 0
    · rw [z]; rfl
    · rw [nI_c0, if_lt (by omega) (by omega), if_pos (by omega)]
  rw [e]
  exact ok_some ⟨⟨a1, a2, a3, a4, hI_wI_s, by omega, fun i hi => a7 i (by omega)⟩, Fr.wI (Or.inl rfl)⟩
