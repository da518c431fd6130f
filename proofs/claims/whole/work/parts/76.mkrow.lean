/-! rows of arrays -/
theorem mk_F_n {kr : Th → Th × Int64} {row c : Nat} (hk : ∀ T : Th, (kr T).1.1 = T.1 + c) : ∀ (r k : Nat) (T : Th), (mk_F kr row r k T).1 = T.1 + r * c := by
  intro r
  induction r with
  | zero => intro k T; simp [mk_F]
  | succ r ih =>
    intro k T
    rw [mk_F, ih]
    show (kr T).1.1 + r * c = _
    rw [hk, Nat.succ_mul]; omega
theorem mk_F_p {kr : Th → Th × Int64} {row : Nat} {n : Nat} (hk : ∀ T : Th, n ≤ T.1 → n ≤ (kr T).1.1 ∧ ∀ t, t < n → (kr T).1.2.1 t = T.2.1 t ∧ (kr T).1.2.2.1 t = T.2.2.1 t ∧ (kr T).1.2.2.2.1 t = T.2.2.2.1 t) : ∀ (r k : Nat) (T : Th), n ≤ T.1 → n ≤ (mk_F kr row r k T).1 ∧ ∀ t, t < n → (mk_F kr row r k T).2.1 t = T.2.1 t ∧ (mk_F kr row r k T).2.2.1 t = T.2.2.1 t ∧ (mk_F kr row r k T).2.2.2.1 t = T.2.2.2.1 t := by
  intro r
  induction r with
  | zero => intro k T hn; exact ⟨hn, fun t ht => ⟨rfl, rfl, rfl⟩⟩
  | succ r ih =>
    intro k T hn
    rw [mk_F]
    obtain ⟨a1, a2⟩ := hk T hn
    obtain ⟨b1, b2⟩ := ih (k + 1) (wrC (kr T).1 row k (kr T).2) a1
    refine ⟨b1, fun t ht => ?_⟩
    obtain ⟨c1, c2, c3⟩ := b2 t ht
    obtain ⟨d1, d2, d3⟩ := a2 t ht
    exact ⟨c1.trans d1, c2.trans d2, c3.trans d3⟩
theorem mk_R_n (zs : List Nat) : ∀ (y : Nat) (T : Th), 8 * zs.length ≤ y → (mk_R zs y T).1.1 = T.1 + cnt zs := by
  induction zs with
  | nil => intro y T _; rfl
  | cons z zs ih =>
    intro y T hy
    rw [List.length_cons] at hy
    rw [mk_R, cnt]
    dsimp only
    rw [mk_F_n (c := cnt zs)]
    · unfold addT; dsimp only; omega
    · intro T
      by_cases c : 16 ≤ y
      · rw [if_pos c]; exact ih (y - 8) T (by omega)
      · rw [if_neg c]
        have : zs = [] := by
          cases zs with
          | nil => rfl
          | cons a b => rw [List.length_cons] at hy; omega
        subst this; rfl
theorem mk_R_p (zs : List Nat) : ∀ (y : Nat) (T : Th) (n : Nat), n ≤ T.1 → n ≤ (mk_R zs y T).1.1 ∧ ∀ t, t < n → (mk_R zs y T).1.2.1 t = T.2.1 t ∧ (mk_R zs y T).1.2.2.1 t = T.2.2.1 t ∧ (mk_R zs y T).1.2.2.2.1 t = T.2.2.2.1 t := by
  induction zs with
  | nil => intro y T n hn; exact ⟨hn, fun t _ => ⟨rfl, rfl, rfl⟩⟩
  | cons z zs ih =>
    intro y T n hn
    rw [mk_R]
    dsimp only
    obtain ⟨b1, b2⟩ := mk_F_p (kr := if 16 ≤ y then mk_R zs (y - 8) else fun T => (T, 0)) (row := T.1) (n := n) (fun T' hT' => by
      by_cases c : 16 ≤ y
      · rw [if_pos c]; exact ih (y - 8) T' n hT'
      · rw [if_neg c]; exact ⟨hT', fun t _ => ⟨rfl, rfl, rfl⟩⟩) z 0 (addT T (nI y) z) (by unfold addT; dsimp only; omega)
    refine ⟨b1, fun t ht => ?_⟩
    obtain ⟨c1, c2, c3⟩ := b2 t ht
    rw [c1, c2, c3]
    unfold addT
    dsimp only
    rw [va_n _ _ (by omega), va_n _ _ (by omega), va_n _ _ (by omega)]
    exact ⟨rfl, rfl, rfl⟩
/-- the sizes from a level on -/
def zsF (L : Nat → Nat) (lv n : Nat) : List Nat := (List.range' lv (n - lv)).map L
theorem zsF_e {L : Nat → Nat} {n : Nat} : zsF L n n = [] := by unfold zsF; rw [Nat.sub_self]; rfl
theorem zsF_s {L : Nat → Nat} {lv n : Nat} (h : lv < n) : zsF L lv n = L lv :: zsF L (lv + 1) n := by
  unfold zsF
  rw [show n - lv = (n - (lv + 1)) + 1 by omega, List.range'_succ, List.map_cons]
theorem zsF_len {L : Nat → Nat} {lv n : Nat} : (zsF L lv n).length = n - lv := by unfold zsF; simp
section MKR
variable {o n : Nat} {L : Nat → Nat}
/-- a row is filled -/
theorem mr_42 {kr : Option Nat → Int32 → Option Nat → Int32 → Int32 → Hp → Option (Int32 × Hp)} {lv y row z x6 c : Nat} {krs : Th → Th × Int64} {U : Nat → Nat → Prop} (hn3 : n ≤ 3) (hlv : lv < n) (hz : L lv = z) (hz2 : z ≤ 100) (hx6 : x6 < 2)
    (hs : ∀ T, (krs T).1.1 = T.1 + c ∧ ∀ m, m ≤ T.1 → ∀ t, t < m → (krs T).1.2.1 t = T.2.1 t ∧ (krs T).1.2.2.1 t = T.2.2.1 t ∧ (krs T).1.2.2.2.1 t = T.2.2.2.1 t)
    (h0 : x6 = 0 → ∀ T, krs T = (T, 0))
    (h1 : x6 = 1 → ∀ (h : Hp) (T : Th) (U' : Nat → Nat → Prop), WT (hT h) (hR h) o → TV h o T U' → (∀ j, j < n → hI h (o + 21) j = nI (L j)) → T.1 + c ≤ 60 → 0 < z → Ok (kr (some (o + 15)) (nI y - 8) (some (o + 21)) (nI lv + 1) (nI n) h) (fun r g => Int32.toInt64 r = (krs T).2 ∧ TV g o (krs T).1 U' ∧ Fr (AT o) h g)) :
    ∀ (f r k : Nat) (h : Hp) (T : Th), k + r = z → r < f → WT (hT h) (hR h) o → (∀ j, j < n → hI h (o + 21) j = nI (L j)) → TV h o T (fun a b => U a b ∨ (a = row ∧ k ≤ b)) → (∀ b, ¬ U row b) → row < T.1 → T.2.2.1 row = z → T.1 + r * c ≤ 60 →
      Ok (BX8_makeRow_42 kr f (some (o + 15)) (nI y) (some (o + 21)) (nI lv) (nI n) (nI row) (nI x6) (nI k) h) (fun v g => v = nI row ∧ TV g o (mk_F krs row r k T) U ∧ Fr (AT o) h g) := by
  intro f
  induction f with
  | zero => intro r k h T h1 h2; omega
  | succ f ih =>
    intro r k h T a1 a2 wt lt v nu hr hsz hb
    have t21 := wt.2.2.2.1.2
    unfold BX8_makeRow_42
    rw [aI_n t21 (by omega) (by decide), lt lv hlv, hz, if_lt (by omega) (by omega)]
    by_cases ck : k < z
    · obtain ⟨r', rfl⟩ : ∃ r', r = r' + 1 := ⟨r - 1, by omega⟩
      rw [if_pos ck, ie_0 (by omega), mk_F]
      have wr : ∀ (x : Int64) (g : Hp) (T' : Th), WT (hT g) (hR g) o → (∀ j, j < n → hI g (o + 21) j = nI (L j)) → TV g o T' (fun a b => U a b ∨ (a = row ∧ k ≤ b)) → row < T'.1 → T'.2.2.1 row = z → T'.1 + r' * c ≤ 60 → Ok (BX8_makeRow_79 kr (BX8_makeRow_42 kr f) (some (o + 15)) (nI y) (some (o + 21)) (nI lv) (nI n) (nI row) (nI x6) (nI k) (some (o + 15)) (nI row) (nI k) x g) (fun v g' => v = nI row ∧ TV g' o (mk_F krs row r' (k + 1) (wrC T' row k x)) U ∧ Fr (AT o) g g') := by
        intro x g T' wg lg vg hr' hsz' hb'
        unfold BX8_makeRow_79
        rw [rcv_ok wg.2.1.1]
        refine ok_cl (f_write wg vg hr' (by omega) x) (fun _ g1 q => ?_)
        obtain ⟨q1, q2⟩ := q
        rw [nI_1]
        refine (ih r' (k + 1) g1 (wrC T' row k x) (by omega) (by omega) (wg.fr q2) (fun j hj => by rw [(q2.2.2.2 (o + 21) (by unfold AT; omega)).1]; exact lg j hj) (q1.mono (fun a b _ _ hu => ?_)) nu hr' hsz' hb').mono (fun w g2 p => ⟨p.1, p.2.1, q2.trans p.2.2⟩)
        obtain ⟨u1, u2⟩ := hu
        rcases u1 with u1 | u1
        · exact Or.inl u1
        · refine Or.inr ⟨u1.1, ?_⟩
          by_cases e : b = k
          · exact absurd ⟨u1.1, e⟩ u2
          · omega
      by_cases c6 : x6 = 0
      · rw [if_pos c6]
        have e := h0 c6 T
        rw [e]
        exact wr 0 h T wt lt v hr hsz (by rw [Nat.succ_mul] at hb; omega)
      · rw [if_neg c6]
        have c1 : x6 = 1 := by omega
        obtain ⟨s1, s2⟩ := hs T
        refine ok_cl (h1 c1 h T _ wt v lt (by rw [Nat.succ_mul] at hb; omega) (by omega)) (fun w g q => ?_)
        obtain ⟨q1, q2, q3⟩ := q
        rw [q1]
        refine (wr _ g (krs T).1 (wt.fr q3) (fun j hj => by rw [(q3.2.2.2 (o + 21) (by unfold AT; omega)).1]; exact lt j hj) q2 (by omega) (by rw [(s2 T.1 (Nat.le_refl _) row hr).2.1]; exact hsz) (by rw [Nat.succ_mul] at hb; omega)).mono (fun w g2 p => ⟨p.1, p.2.1, q3.trans p.2.2⟩)
    · rw [if_neg ck]
      have : r = 0 := by omega
      subst this
      rw [mk_F]
      refine ok_some ⟨rfl, v.mono (fun a b ha hb' hu => ?_), Fr.refl _ _⟩
      rcases hu with hu | ⟨rfl, hu⟩
      · exact hu
      · omega
theorem c_srt {y : Nat} (hy : y < 32) : (csI (nI y) = 4 ↔ 16 ≤ y ∨ y % 8 = 4) := by
  unfold csI
  rw [nl_16, nl_4]
  by_cases c : y < 16
  · rw [if_pos (by rw [i32_lt, nI_tI (by omega), nI_tI (by omega)]; omega), nl_8, pk_rem (by omega) (by decide) (by decide), nI_eq (by omega) (by omega)]
    omega
  · rw [if_neg (by rw [i32_lt, nI_tI (by omega), nI_tI (by omega)]; omega)]
    exact ⟨fun _ => Or.inl (by omega), fun _ => rfl⟩
theorem f_mk (hn3 : n ≤ 3) : ∀ (f lv y : Nat) (h : Hp) (T : Th) (U : Nat → Nat → Prop), n - lv < f → lv ≤ n → 8 * (n - lv) ≤ y → y < 32 → ¬ y % 8 = 4 → WT (hT h) (hR h) o → TV h o T U → (∀ a b, U a b → a < T.1) → (∀ j, j < n → hI h (o + 21) j = nI (L j)) → okz (zsF L lv n) = true → T.1 + cnt (zsF L lv n) ≤ 60 →
    Ok (FX8_makeRow f (some (o + 15)) (nI y) (some (o + 21)) (nI lv) (nI n) h) (fun r g => Int32.toInt64 r = (mk_R (zsF L lv n) y T).2 ∧ TV g o (mk_R (zsF L lv n) y T).1 U ∧ Fr (AT o) h g) := by
  intro f
  induction f with
  | zero => intro lv y h T U h1; omega
  | succ f ih =>
    intro lv y h T U a1 a2 a3 a4 a5 wt v hu lt hok hct
    have t21 := wt.2.2.2.1.2
    rw [FX8_makeRow]
    unfold EX8_makeRow
    rw [if_lt (by omega) (by omega)]
    by_cases c : lv < n
    · have e3 : Int32.ofNat 3 = nI 3 := rfl
      rw [if_pos c, ln_ok t21, e3, if_lt (by omega) (by decide), if_pos (by omega), aI_n t21 (by omega) (by decide), lt lv c, rcv_ok wt.2.1.1]
      rw [zsF_s c] at hok hct ⊢
      rw [okz, Bool.and_eq_true, decide_eq_true_eq, Bool.or_eq_true, decide_eq_true_eq] at hok
      rw [cnt] at hct
      refine ok_cl (f_add wt v (by omega) (nI y) hok.1) (fun r g q => ?_)
      obtain ⟨rfl, q2, q3⟩ := q
      rw [f_csort, cl_ok, mk_R]
      unfold BX8_makeRow_37
      have hrow : (addT T (nI y) (L lv)).2.2.1 T.1 = L lv := va_s _ _ _
      have hfr : ∀ j, j < n → hI g (o + 21) j = nI (L j) := fun j hj => by rw [(q3.2.2.2 (o + 21) (by unfold AT; omega)).1]; exact lt j hj
      have hk2 : TV g o (addT T (nI y) (L lv)) (fun a b => U a b ∨ (a = T.1 ∧ 0 ≤ b)) := q2.mono (fun a b _ _ z => z.elim Or.inl (fun z => Or.inr ⟨z, Nat.zero_le _⟩))
      have hnu : ∀ b, ¬ U T.1 b := fun b z => by have := hu _ _ z; omega
      have lfin : lN T.1 = Int32.toInt64 (nI T.1) := (nI_l8 (by omega)).symm
      by_cases c16 : 16 ≤ y
      · rw [if_pos ((c_srt a4).mpr (Or.inl c16)), if_pos c16, nI_c0]
        refine (mr_42 (o := o) (n := n) (L := L) (kr := FX8_makeRow f) (lv := lv) (y := y) (row := T.1) (z := L lv) (x6 := 1) (c := cnt (zsF L (lv + 1) n)) (krs := mk_R (zsF L (lv + 1) n) (y - 8)) (U := U) hn3 c rfl hok.1 (by omega) (fun T' => ⟨mk_R_n _ _ _ (by rw [zsF_len]; omega), fun m hm => (mk_R_p _ _ _ m hm).2⟩) (fun z => by omega) (fun _ h' T' U' w' v' l' c' z' => ?_) 100000 (L lv) 0 g (addT T (nI y) (L lv)) (by omega) (by have := hok.1; omega) (wt.fr q3) hfr hk2 hnu (by unfold addT; dsimp only; omega) hrow (by unfold addT; dsimp only; omega)).mono (fun r g2 p => ⟨by rw [p.1, lfin], p.2.1, q3.trans p.2.2⟩)
        rw [nl_8, pk_sub (by omega), nI_1]
        refine Ok.mono (ih (lv + 1) (y - 8) h' T' (fun a b => U' a b ∧ a < T'.1) (by omega) (by omega) (by omega) (by omega) (by omega) w' (v'.mono (fun a b ha _ z => ⟨z, ha⟩)) (fun a b z => z.2) l' ?_ c') (fun r g2 p => ⟨p.1, p.2.1.mono (fun a b _ _ z => z.1), p.2.2⟩)
        rcases hok.2 with z | z
        · omega
        · exact z
      · have hzs : n = lv + 1 := by omega
        rw [if_neg (fun z => by have := (c_srt a4).mp z; omega), if_neg c16, nI_c0]
        refine (mr_42 (o := o) (n := n) (L := L) (kr := FX8_makeRow f) (lv := lv) (y := y) (row := T.1) (z := L lv) (x6 := 0) (c := 0) (krs := fun T => (T, 0)) (U := U) hn3 c rfl hok.1 (by omega) (fun T' => ⟨rfl, fun m hm t _ => ⟨rfl, rfl, rfl⟩⟩) (fun _ T' => rfl) (fun z => by omega) 100000 (L lv) 0 g (addT T (nI y) (L lv)) (by omega) (by have := hok.1; omega) (wt.fr q3) hfr hk2 hnu (by unfold addT; dsimp only; omega) hrow (by unfold addT; dsimp only; omega)).mono (fun r g2 p => ⟨by rw [p.1, lfin], p.2.1, q3.trans p.2.2⟩)
    · have e : lv = n := by omega
      subst e
      rw [if_neg c, zsF_e, mk_R]
      exact ok_some ⟨rfl, v, Fr.refl _ _⟩
end MKR
