theorem cu_2 {w wa d u b : Nat} {s : Nat → Int64} (hu : 1 ≤ u) (hb : b + u ≤ d) (hd : d + u ≤ 14) : ∀ (n t : Nat) (h : Hp), t ≤ u → u - t < n → hT h w = some (.inl 9) → hR h w 0 = some wa → hT h wa = some (.inr (.long, 14)) → w ≠ wa → hI h w 1 = nI d →
    (∀ i, i < b → hL h wa i = s i) → (∀ i, i < t → hL h wa (b + i) = s (d - u + i)) → (∀ i, b ≤ i → i < d → hL h wa (i + u) = s i) →
    Ok (BX10_copyUnder_67 n (some w) (nI u) (nI b) (nI t) h) (fun _ g => Wv g w wa (d + u) (fun i => if i < b then s i else if i < b + u then s (d - u + (i - b)) else s (i - u)) ∧ Fr (Aw w wa) h g) := by
  intro n
  induction n with
  | zero => intro t h h1 h2; omega
  | succ n ih =>
    intro t h h1 h2 a1 a2 a3 a4 a5 c1 c2 c3
    unfold BX10_copyUnder_67
    rw [if_lt (by omega) (by omega)]
    by_cases c : t < u
    · rw [if_pos c, gR_ok a1, gR_ok a1, gI_ok a1, a2, a5, nI_add, nI_add, nI_1, aL_n a3 (by omega) (by decide), sL_n a3 (by omega) (by decide)]
      have hv : hL h wa (d + t) = s (d - u + t) := by
        have := c3 (d - u + t) (by omega) (by omega)
        rw [show d - u + t + u = d + t by omega] at this
        exact this
      rw [hv]
      refine (ih (t + 1) (wL h wa (b + t) (s (d - u + t))) (by omega) (by omega) a1 a2 a3 a4 a5 (fun i hi => ?_) (fun i hi => ?_) (fun i hi hj => ?_)).mono (fun r g q => ⟨q.1, (Fr.wL (Or.inr rfl)).trans q.2⟩)
      · rw [hL_wL_k (by omega)]; exact c1 i hi
      · by_cases e : i = t
        · subst e; exact hL_wL_s
        · rw [hL_wL_k (by omega)]; exact c2 i (by omega)
      · rw [hL_wL_k (by omega)]; exact c3 i hi hj
    · rw [if_neg c, gI_ok a1, pI_ok a1, a5, nI_add]
      have e : t = u := by omega
      subst e
      refine ok_some ⟨⟨a1, a2, a3, a4, hI_wI_s, hd, fun i hi => ?_⟩, Fr.wI (Or.inl rfl)⟩
      show hL h wa i = _
      dsimp only
      by_cases e1 : i < b
      · rw [if_pos e1]; exact c1 i e1
      · rw [if_neg e1]
        by_cases e2 : i < b + t
        · rw [if_pos e2]
          have := c2 (i - b) (by omega)
          rw [show b + (i - b) = i by omega] at this
          exact this
        · rw [if_neg e2]
          have := c3 (i - t) (by omega) (by omega)
          rw [show i - t + t = i by omega] at this
          exact this
theorem nI_m1 (j : Nat) : nI j + (-1) + 1 = nI j := by
  rw [Int32.add_assoc]
  rw [show (-1 : Int32) + 1 = 0 from rfl, Int32.add_zero]
theorem cu_1 {w wa d u b : Nat} {s : Nat → Int64} (hu : 1 ≤ u) (hb : b + u ≤ d) (hd : d + u ≤ 14) : ∀ (n j : Nat) (h : Hp), b ≤ j → j ≤ d → j - b < n → hT h w = some (.inl 9) → hR h w 0 = some wa → hT h wa = some (.inr (.long, 14)) → w ≠ wa → hI h w 1 = nI d →
    (∀ i, i < j → hL h wa i = s i) → (∀ i, j ≤ i → i < d → hL h wa (i + u) = s i) →
    Ok (BX10_copyUnder_36 n (some w) (nI u) (nI b) (nI j + (-1)) h) (fun _ g => Wv g w wa (d + u) (fun i => if i < b then s i else if i < b + u then s (d - u + (i - b)) else s (i - u)) ∧ Fr (Aw w wa) h g) := by
  intro n
  induction n with
  | zero => intro j h h1 h2 h3; omega
  | succ n ih =>
    intro j h h1 h2 h3 a1 a2 a3 a4 a5 c1 c2
    unfold BX10_copyUnder_36
    by_cases c : j = b
    · have hlt : nI j + (-1) < nI b := by
        subst c
        cases j with
        | zero => decide
        | succ j => rw [pk_m1]; exact nI_lt (by omega) (by omega)
      rw [if_pos hlt, nI_c0]
      exact cu_2 hu hb hd 100000 0 h (by omega) (by omega) a1 a2 a3 a4 a5 (fun i hi => c1 i (by omega)) (fun i hi => by omega) (fun i hi hj => c2 i (by omega) hj)
    · obtain ⟨m, rfl⟩ : ∃ m, j = m + 1 := ⟨j - 1, by omega⟩
      rw [pk_m1, if_neg (nI_nlt (by omega) (by omega)), gR_ok a1, gR_ok a1, a2, aL_n a3 (by omega) (by decide), nI_add, sL_n a3 (by omega) (by decide), c1 m (by omega)]
      refine (ih m (wL h wa (m + u) (s m)) (by omega) (by omega) (by omega) a1 a2 a3 a4 a5 (fun i hi => ?_) (fun i hi hj => ?_)).mono (fun r g q => ⟨q.1, (Fr.wL (Or.inr rfl)).trans q.2⟩)
      · rw [hL_wL_k (by omega)]; exact c1 i (by omega)
      · by_cases e : i = m
        · subst e; exact hL_wL_s
        · rw [hL_wL_k (by omega)]; exact c2 i (by omega) hj
/-- what stands behind a copy of u words under v more -/
def cpu (s : Nat → Int64) (d v u : Nat) : Nat → Int64 := fun i => if i < d - v - u then s i else if i < d - v then s (d - u + (i - (d - v - u))) else s (i - u)
theorem k_copyUnder {h : Hp} {w wa d : Nat} {s : Nat → Int64} (W0 : Wv h w wa d s) {v u : Nat} (hu : 1 ≤ u) (hv : v + u ≤ d) (hd : d + u ≤ 14) : Ok (FX10_copyUnder (some w) (nI v) (nI u) h) (fun _ g => Wv g w wa (d + u) (cpu s d v u) ∧ Fr (Aw w wa) h g) := by
  obtain ⟨a1, a2, a3, a4, a5, a6, a7⟩ := W0
  unfold FX10_copyUnder
  have e14 : Int32.ofNat 14 = nI 14 := rfl
  rw [gI_ok a1, a5, pk_sub (by omega), pk_sub (by omega), if_neg (nI_pos (by omega)), gI_ok a1, a5, gR_ok a1, a2, ln_ok a3, e14, nI_add, if_lt (by omega) (by omega), if_neg (by omega), gI_ok a1, a5]
  have e1 : nI d - 1 = nI d + (-1) := by rw [Int32.sub_eq_add_neg]
  rw [e1]
  refine (cu_1 (s := s) hu (b := d - v - u) (d := d) (by omega) hd 100000 d h (by omega) (by omega) (by omega) a1 a2 a3 a4 a5 a7 (fun i hi hj => by omega)).mono (fun r g q => ⟨q.1.to (fun i hi => ?_), q.2⟩)
  simp only [cpu]
  rw [show d - v - u + u = d - v by omega]
theorem k_popInt {h : Hp} {w wa d : Nat} {s : Nat → Int64} (v : Wv h w wa (d + 1) s) : Ok (FX10_popInt (some w) h) (fun r g => r = (s d).toInt32 ∧ Wv g w wa d s ∧ Fr (Aw w wa) h g) := by
  unfold FX10_popInt
  rw [rcv_ok v.1]
  refine ok_cl (k_pop v) (fun r g q => ?_)
  obtain ⟨rfl, q1, q2⟩ := q
  exact ok_some ⟨rfl, q1, q2⟩
theorem k_popBits {h : Hp} {w wa d k : Nat} {s : Nat → Int64} (hk : k < 8) (v : Wv h w wa (d + wd k) s) : Ok (FX10_popBits (some w) (nI k) h) (fun r g => r = s d ∧ Wv g w wa d s ∧ Fr (Aw w wa) h g) := by
  unfold FX10_popBits
  rw [f_isWide hk, cl_ok]
  by_cases c : k = 1 ∨ k = 3
  · have e : wd k = 2 := if_pos c
    rw [e] at v
    rw [if_pos c, if_neg (by decide), rcv_ok v.1]
    refine ok_cl (k_pop (d := d + 1) v) (fun r g q => ?_)
    obtain ⟨-, q1, q2⟩ := q
    unfold BX10_popBits_12
    rw [rcv_ok q1.1]
    refine ok_cl (k_pop q1) (fun r g' q => ?_)
    obtain ⟨rfl, q3, q4⟩ := q
    exact ok_some ⟨rfl, q3, q2.trans q4⟩
  · have e : wd k = 1 := if_neg c
    rw [e] at v
    rw [if_neg c, if_pos rfl]
    unfold BX10_popBits_12
    rw [rcv_ok v.1]
    refine ok_cl (k_pop v) (fun r g q => ?_)
    obtain ⟨rfl, q3, q4⟩ := q
    exact ok_some ⟨rfl, q3, q4⟩
theorem k_pushBits {h : Hp} {w wa d k : Nat} {s : Nat → Int64} (hk : k < 8) (v : Wv h w wa d s) (x : Int64) (hd : d + wd k ≤ 14) : Ok (FX10_pushBits (some w) (nI k) x h) (fun _ g => Wv g w wa (d + wd k) (if wd k = 2 then vp_updL (vp_updL s d x) (d + 1) 0 else vp_updL s d x) ∧ Fr (Aw w wa) h g) := by
  unfold FX10_pushBits
  have hw : 1 ≤ wd k := by unfold wd; split <;> omega
  rw [rcv_ok v.1]
  refine ok_cl (k_push v x (by omega)) (fun _ g q => ?_)
  obtain ⟨q1, q2⟩ := q
  rw [f_isWide hk, cl_ok]
  by_cases c : k = 1 ∨ k = 3
  · have e : wd k = 2 := if_pos c
    rw [e] at hd ⊢
    rw [if_pos c, if_neg (by decide), rcv_ok q1.1]
    refine ok_cl (k_push q1 0 (by omega)) (fun _ g' q => ?_)
    exact ok_some ⟨q.1, q2.trans q.2⟩
  · have e : wd k = 1 := if_neg c
    rw [e]
    rw [if_neg c, if_pos rfl]
    exact ok_some ⟨q1, q2⟩
/-- the moves 8 to 16: how many words are the upper part, how many lie under it -/
def mvU (op : Nat) : Nat := [1, 2, 1, 1, 1, 2, 2, 2, 1].getD (op - 8) 0
def mvV (op : Nat) : Nat := [0, 0, 0, 1, 2, 0, 1, 2, 1].getD (op - 8) 0
def mvD (op d : Nat) : Nat := if op ≤ 9 then d - mvU op else if op = 16 then d else d + mvU op
def mvS (op d : Nat) (s : Nat → Int64) : Nat → Int64 := if op ≤ 9 then s else if op = 16 then vp_updL (vp_updL s (d - 2) (s (d - 1))) (d - 1) (s (d - 2)) else cpu s d (mvV op) (mvU op)
theorem f_tU {α : Type} {op : Nat} (h1 : 8 ≤ op) (h2 : op ≤ 16) {c : Int32 → Option α} : tU (nI op - 8) c = c (nI (mvU op)) := by
  rw [show (8 : Int32) = nI 8 from rfl, pk_sub h1]
  unfold tU
  rw [inb_nI (by omega) (by decide), nI_clamp (by omega)]
  congr 1
  rcases (show op = 8 ∨ op = 9 ∨ op = 10 ∨ op = 11 ∨ op = 12 ∨ op = 13 ∨ op = 14 ∨ op = 15 ∨ op = 16 by omega) with rfl | rfl | rfl | rfl | rfl | rfl | rfl | rfl | rfl <;> rfl
theorem f_tV {α : Type} {op : Nat} (h1 : 8 ≤ op) (h2 : op ≤ 16) {c : Int32 → Option α} : tV (nI op - 8) c = c (nI (mvV op)) := by
  rw [show (8 : Int32) = nI 8 from rfl, pk_sub h1]
  unfold tV
  rw [inb_nI (by omega) (by decide), nI_clamp (by omega)]
  congr 1
  rcases (show op = 8 ∨ op = 9 ∨ op = 10 ∨ op = 11 ∨ op = 12 ∨ op = 13 ∨ op = 14 ∨ op = 15 ∨ op = 16 by omega) with rfl | rfl | rfl | rfl | rfl | rfl | rfl | rfl | rfl <;> rfl
theorem mv_b {op : Nat} (h1 : 8 ≤ op) (h2 : op ≤ 16) : 1 ≤ mvU op ∧ mvU op ≤ 2 ∧ mvV op ≤ 2 := by
  rcases (show op = 8 ∨ op = 9 ∨ op = 10 ∨ op = 11 ∨ op = 12 ∨ op = 13 ∨ op = 14 ∨ op = 15 ∨ op = 16 by omega) with rfl | rfl | rfl | rfl | rfl | rfl | rfl | rfl | rfl <;> decide
theorem k_move {h : Hp} {w wa d op : Nat} {s : Nat → Int64} (h1 : 8 ≤ op) (h2 : op ≤ 16) (v : Wv h w wa d s) (hv : mvU op + mvV op ≤ d) (hd : d ≤ 12) : Ok (FX10_move (some w) (nI op) h) (fun _ g => Wv g w wa (mvD op d) (mvS op d s) ∧ Fr (Aw w wa) h g) := by
  obtain ⟨b1, b2, b3⟩ := mv_b h1 h2
  unfold FX10_move
  rw [f_tU h1 h2, show (9 : Int32) = nI 9 from rfl, if_lt (by omega) (by omega)]
  by_cases c9 : 9 < op
  · rw [if_pos c9, show (16 : Int32) = nI 16 from rfl, if_eq (by omega) (by omega)]
    by_cases c16 : op = 16
    · subst c16
      have hd2 : 2 ≤ d := hv
      obtain ⟨e, rfl⟩ : ∃ e, d = e + 2 := ⟨d - 2, by omega⟩
      rw [if_pos rfl, rcv_ok v.1]
      refine ok_cl (k_pop (d := e + 1) v) (fun r1 g1 q => ?_)
      obtain ⟨rfl, q1, f1⟩ := q
      rw [rcv_ok q1.1]
      refine ok_cl (k_pop q1) (fun r2 g2 q => ?_)
      obtain ⟨rfl, q2, f2⟩ := q
      rw [rcv_ok q2.1]
      refine ok_cl (k_push q2 _ (by omega)) (fun _ g3 q => ?_)
      obtain ⟨q3, f3⟩ := q
      rw [rcv_ok q3.1]
      refine ok_cl (k_push q3 _ (by omega)) (fun _ g4 q => ?_)
      obtain ⟨q4, f4⟩ := q
      refine ok_some ⟨q4, ((f1.trans f2).trans f3).trans f4⟩
    · rw [if_neg c16, f_tV h1 h2, rcv_ok v.1]
      refine ok_cl (k_copyUnder v b1 (by omega) (by omega)) (fun _ g q => ok_some ?_)
      rw [show mvD op d = d + mvU op by unfold mvD; rw [if_neg (by omega), if_neg c16], show mvS op d s = cpu s d (mvV op) (mvU op) by unfold mvS; rw [if_neg (by omega), if_neg c16]]
      exact q
  · rw [if_neg c9, rcv_ok v.1]
    refine ok_cl (k_drop v (by omega)) (fun _ g q => ok_some ?_)
    rw [show mvD op d = d - mvU op by unfold mvD; rw [if_pos (by omega)], show mvS op d s = s by unfold mvS; rw [if_pos (by omega)]]
    exact q
