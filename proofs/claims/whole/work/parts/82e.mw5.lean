/-! the model: a new array -/
section MQ2
variable {h g : Hp} {q c m i d : Nat} {s l : Nat → Int64} {hn : Nat → Nat} {T : Th} {σ lk : Nat → Nat} {P : Pg}
theorem lt_l {v : Int32} : (Int32.toInt64 v < 0) ↔ v < 0 := by rw [i64_lt, i64_of32, i64_0, i32_lt, i32_0]
theorem lN_r {z : Nat} (h : z < 2 ^ 31) : Int64.toInt32 (lN z) = nI z := lN_32 h
abbrev K208 : Type := Option Nat → Int32 → Int32 → Int32 → Int64 → Int64 → Int64 → Int32 → Int32 → Hp → Option (Unit × Hp)
theorem na_251 {y b z1 z2 rows arr i row : Nat} {K : K208} {Q : Unit → Hp → Prop} (hb : b = 3) (hy : 16 ≤ y) (hy2 : y < 32) (hz2 : 0 < z1 → z2 ≤ 100) (hz1 : z1 ≤ 100) : ∀ (f r k : Nat) (T : Th) (h : Hp), k + r = z1 → r < f → LM (hT h) (hR h) q → MTh h q T → row < T.1 → T.2.2.1 row = z1 → T.1 + r ≤ 60 → (∀ g, MTh g q (mk_F (kr1 (y - 16) z2) row r k T) → Fm q FT (AT5 q) h g → Ok (K (some q) (nI c) (nI y) (nI b) (lN z2) (lN z1) (lN rows) (nI arr) (nI (i + 1)) g) Q) → z2 < 2 ^ 31 → Ok (BX12_newArray_251 f K (some q) (nI c) (nI y) (nI b) (lN z2) (lN z1) (lN rows) (nI arr) (nI i) (nI row) (nI k) h) Q := by
  intro f
  induction f with
  | zero => intro r k T h h1 h2; omega
  | succ f ih =>
    intro r k T h h1 h2 lm mth hr hsz hcn kk hz31
    obtain ⟨mt0, ⟨mr1, mt1⟩, ⟨mr2, mt2⟩, ⟨mr3, mt3⟩, ⟨mr4, mt4⟩, ⟨mr5, mt5⟩, ⟨mr6, mt6⟩, ⟨mr7, mt7⟩, ⟨mr8, mt8⟩, ⟨mr9, mt9⟩, ⟨mr10, mt10⟩, ⟨mr11, mt11⟩, ⟨mr12, mt12⟩, ⟨mr13, mt13⟩, ⟨mr14, mt14⟩, ⟨mr15, mt15⟩, ⟨mr16, mt16⟩, ⟨mr17, mt17⟩, ⟨mr18, mt18⟩, ⟨mr19, mt19⟩, ⟨mr20, mt20⟩, ⟨mr21, mt21⟩, ⟨mr22, mt22⟩, ⟨mr23, mt23⟩, ⟨mr24, mt24⟩, ⟨mr25, mt25⟩, ⟨mr26, mt26⟩, ⟨mr27, mt27⟩, ⟨mr28, mt28⟩, ⟨mr29, mt29⟩, ⟨mr30, mt30⟩, ⟨mr31, mt31⟩, ⟨mr32, mt32⟩, ⟨mr33, mt33⟩, ⟨mr34, mt34⟩, ⟨mr35, mt35⟩, ⟨mr36, mt36⟩, ⟨mr37, mt37⟩, ⟨mr38, mt38⟩, ⟨mr39, mt39⟩, ⟨mr40, mt40⟩, ⟨mr41, mt41⟩, ⟨mr42, mt42⟩, ⟨mr43, mt43⟩⟩ := id lm
    unfold BX12_newArray_251
    rw [nI_l8 (by omega), il_lt (by omega) (by omega), nl_2, if_lt (by decide) (by omega)]
    by_cases ck : k < z1
    · obtain ⟨r', rfl⟩ : ∃ r', r = r' + 1 := ⟨r - 1, by omega⟩
      obtain ⟨w1, w2, w3, w4, w5⟩ := mth.2 row hr
      rw [if_pos ck, if_pos (by omega), gR_ok mt0, mr37, gR_ok mt0, mr36, aI_n mt36 (by have := mth.1.2.2; omega) (by decide), w4, rcv_ok mt0, nl_16, pk_sub hy, lN_r hz31]
      refine ok_cl (m_new lm mth (by omega) (nI (y - 16)) (hz2 (by omega))) (fun v g x => ?_)
      obtain ⟨rfl, x2, x3⟩ := x
      have hs2 : (addT T (nI (y - 16)) z2).2.2.1 row = z1 := by
        show va_up T.2.2.1 T.1 z2 row = z1
        rw [va_n _ _ (by omega)]; exact hsz
      have hk2 : k < (addT T (nI (y - 16)) z2).2.2.1 row := by rw [hs2]; exact ck
      have hr2 : row < (addT T (nI (y - 16)) z2).1 := by show row < T.1 + 1; omega
      have ho : off (addT T (nI (y - 16)) z2) row = off T row := off_add (by omega)
      have hat := m_at x2 hr2 hk2
      have hwr := m_wr x2 hr2 hk2 (lN T.1)
      rw [ho] at hat hwr
      have n60 := mth.1.2.2
      rw [nI_add, sL_n (show hT g (q + 37) = _ by rw [x3.1]; exact mt37) hat (by decide), nI_l8 (by omega), nI_1]
      have f2 : Fm q FT (AT5 q) g (wL g (q + 37) (off T row + k) (lN T.1)) := Fm.wb (by unfold AT5; omega) (by omega)
      refine ih r' (k + 1) _ _ (by omega) (by omega) ((lm.fm x3).fm f2) hwr hr2 hs2 (by show T.1 + 1 + r' ≤ 60; omega) (fun g' m' f' => kk g' ?_ ((x3.trans f2).trans f')) hz31
      rw [mk_F]
      exact m'
    · have : r = 0 := by omega
      subst this
      rw [if_neg ck]
      unfold BX12_newArray_298
      rw [nI_1]
      exact kk h mth Fm.refl
theorem na_208 {y b z0 z1 z2 arr : Nat} {Q : Unit → Hp → Prop} (hb1 : 2 ≤ b) (hb : b ≤ 3) (hy : 8 * b ≤ y) (hy2 : y < 32) (hz1 : 0 < z0 → z1 ≤ 100) (hz2 : b = 3 → 0 < z0 → 0 < z1 → z2 ≤ 100) (hz0 : z0 ≤ 100) (hz31 : z2 < 2 ^ 31) : ∀ (f r i : Nat) (T : Th) (h : Hp), i + r = z0 → r < f → LM (hT h) (hR h) q → MTh h q T → arr < T.1 → T.2.2.1 arr = z0 → T.1 + r * (1 + if b = 3 then z1 else 0) ≤ 60 → (∀ g, MTh g q (mo (decide (b = 3)) (y - 8) z1 (y - 16) z2 arr r i T) → Fm q FT (AT5 q) h g → Ok (rcv g (some q) 11 <| cl (FX12_put (some q) (nI c) 4 (Int32.toInt64 (nI arr)) g) fun _ h3 => some ((), h3)) Q) → Ok (BX12_newArray_208 f (some q) (nI c) (nI y) (nI b) (lN z2) (lN z1) (lN z0) (nI arr) (nI i) h) Q := by
  intro f
  induction f with
  | zero => intro r i T h h1 h2; omega
  | succ f ih =>
    intro r i T h h1 h2 lm mth hr hsz hcn kk
    obtain ⟨mt0, ⟨mr1, mt1⟩, ⟨mr2, mt2⟩, ⟨mr3, mt3⟩, ⟨mr4, mt4⟩, ⟨mr5, mt5⟩, ⟨mr6, mt6⟩, ⟨mr7, mt7⟩, ⟨mr8, mt8⟩, ⟨mr9, mt9⟩, ⟨mr10, mt10⟩, ⟨mr11, mt11⟩, ⟨mr12, mt12⟩, ⟨mr13, mt13⟩, ⟨mr14, mt14⟩, ⟨mr15, mt15⟩, ⟨mr16, mt16⟩, ⟨mr17, mt17⟩, ⟨mr18, mt18⟩, ⟨mr19, mt19⟩, ⟨mr20, mt20⟩, ⟨mr21, mt21⟩, ⟨mr22, mt22⟩, ⟨mr23, mt23⟩, ⟨mr24, mt24⟩, ⟨mr25, mt25⟩, ⟨mr26, mt26⟩, ⟨mr27, mt27⟩, ⟨mr28, mt28⟩, ⟨mr29, mt29⟩, ⟨mr30, mt30⟩, ⟨mr31, mt31⟩, ⟨mr32, mt32⟩, ⟨mr33, mt33⟩, ⟨mr34, mt34⟩, ⟨mr35, mt35⟩, ⟨mr36, mt36⟩, ⟨mr37, mt37⟩, ⟨mr38, mt38⟩, ⟨mr39, mt39⟩, ⟨mr40, mt40⟩, ⟨mr41, mt41⟩, ⟨mr42, mt42⟩, ⟨mr43, mt43⟩⟩ := id lm
    unfold BX12_newArray_208
    rw [nI_l8 (by omega), il_lt (by omega) (by omega)]
    by_cases ci : i < z0
    · obtain ⟨r', rfl⟩ : ∃ r', r = r' + 1 := ⟨r - 1, by omega⟩
      have hz1' := hz1 (by omega)
      rw [Nat.succ_mul] at hcn
      have n60 := mth.1.2.2
      rw [if_pos ci, rcv_ok mt0, nl_8, pk_sub (by omega), lN_r (by omega)]
      refine ok_cl (m_new lm mth (by omega) (nI (y - 8)) hz1') (fun v g x => ?_)
      obtain ⟨rfl, x2, x3⟩ := x
      have hs2 : (addT T (nI (y - 8)) z1).2.2.1 arr = z0 := by
        show va_up T.2.2.1 T.1 z1 arr = z0
        rw [va_n _ _ (by omega)]; exact hsz
      have hk2 : i < (addT T (nI (y - 8)) z1).2.2.1 arr := by rw [hs2]; exact ci
      have hr2 : arr < (addT T (nI (y - 8)) z1).1 := by show arr < T.1 + 1; omega
      obtain ⟨w1, w2, w3, w4, w5⟩ := x2.2 arr hr2
      have hat := m_at x2 hr2 hk2
      have hwr := m_wr x2 hr2 hk2 (lN T.1)
      have lg := lm.fm x3
      have g0 : hT g q = some (.inl 11) := lg.1
      have r37 : hR g q 45 = some (q + 37) := by rw [x3.2.1]; exact mr37
      have r36 : hR g q 44 = some (q + 36) := by rw [x3.2.1]; exact mr36
      have t37 : hT g (q + 37) = some (.inr (.long, 6000)) := by rw [x3.1]; exact mt37
      have t36 : hT g (q + 36) = some (.inr (.int, 60)) := by rw [x3.1]; exact mt36
      rw [gR_ok g0, r37, gR_ok g0, r36, aI_n t36 (by omega) (by decide), w4, nI_add, sL_n t37 hat (by decide), nI_l8 (by omega)]
      have f2 : Fm q FT (AT5 q) g (wL g (q + 37) (off (addT T (nI (y - 8)) z1) arr + i) (lN T.1)) := Fm.wb (by unfold AT5; omega) (by omega)
      generalize wL g (q + 37) (off (addT T (nI (y - 8)) z1) arr + i) (lN T.1) = g1 at hwr f2 ⊢
      have l1 := lg.fm f2
      have ff := x3.trans f2
      rw [mo] at kk
      have hrow : (wrC (addT T (nI (y - 8)) z1) arr i (lN T.1)).2.2.1 T.1 = z1 := by
        show va_up T.2.2.1 T.1 z1 T.1 = z1
        rw [va_s]
      by_cases b3 : b = 3
      · rw [if_pos b3] at hcn
        have hd3 : decide (b = 3) = true := decide_eq_true b3
        rw [nI_c0]
        refine na_251 (c := c) (arr := arr) (i := i) (row := T.1) b3 (by omega) hy2 (fun z => hz2 b3 (by omega) z) hz1' 100000 z1 0 _ g1 (by omega) (by omega) l1 hwr (by show T.1 < T.1 + 1; omega) hrow (by show T.1 + 1 + z1 ≤ 60; omega) (fun g2 m2 fm2 => ?_) hz31
        refine ih r' (i + 1) _ g2 (by omega) (by omega) (l1.fm fm2) m2 ?_ ?_ ?_ (fun g3 m3 fm3 => kk g3 ?_ ((ff.trans fm2).trans fm3))
        · rw [mk_F_n (c := 1) (fun T => rfl)]
          show arr < T.1 + 1 + z1 * 1
          omega
        · have := (mk_F_p (kr := kr1 (y - 16) z2) (row := T.1) (n := T.1 + 1) (fun T' hT' => ⟨by show T.1 + 1 ≤ T'.1 + 1; omega, fun t ht => ⟨va_n _ _ (by omega), va_n _ _ (by omega), va_n _ _ (by omega)⟩⟩) z1 0 (wrC (addT T (nI (y - 8)) z1) arr i (lN T.1)) (by show T.1 + 1 ≤ T.1 + 1; omega)).2 arr (by omega)
          rw [this.2.1]; exact hs2
        · rw [mk_F_n (c := 1) (fun T => rfl), if_pos b3]
          show T.1 + 1 + z1 * 1 + r' * (1 + z1) ≤ 60
          omega
        · rw [hd3] at m3 ⊢
          rw [if_pos rfl]; exact m3
      · rw [if_neg b3] at hcn
        have hd3 : decide (b = 3) = false := decide_eq_false b3
        have e251 : BX12_newArray_251 100000 (BX12_newArray_208 f) (some q) (nI c) (nI y) (nI b) (lN z2) (lN z1) (lN z0) (nI arr) (nI i) (nI T.1) 0 g1 = BX12_newArray_208 f (some q) (nI c) (nI y) (nI b) (lN z2) (lN z1) (lN z0) (nI arr) (nI (i + 1)) g1 := by
          unfold BX12_newArray_251 BX12_newArray_298
          rw [nl_2, if_lt (by decide) (by omega), if_neg (show ¬ 2 < b by omega), nI_1]
          split <;> rfl
        rw [e251]
        refine ih r' (i + 1) _ g1 (by omega) (by omega) l1 hwr hr2 hs2 ?_ (fun g3 m3 fm3 => kk g3 ?_ (ff.trans fm3))
        · rw [if_neg b3]
          show T.1 + 1 + r' * (1 + 0) ≤ 60
          omega
        · rw [hd3] at m3 ⊢
          rw [if_neg (by decide)]; exact m3
    · have : r = 0 := by omega
      subst this
      rw [if_neg ci]
      exact kk h mth Fm.refl
/-- too great -/
def Grt (b z0 z1 z2 rw_ : Nat) : Prop := 100 < z0 ∨ (0 < rw_ ∧ 100 < z1) ∨ (2 < b ∧ 0 < rw_ ∧ 0 < z1 ∧ 100 < z2)
theorem na_80 {x0 : Option Nat} {x1 x2 : Int32} {b z0 z1 z2 r : Nat} (hb : b ≤ 3) (h0 : z0 < 2 ^ 31) (h1 : z1 < 2 ^ 31) (h2 : z2 < 2 ^ 31) (hr : r < 2 ^ 31) (g : Hp) : (Grt b z0 z1 z2 r → BX12_newArray_80 x0 x1 x2 (nI b) (lN z2) (lN z1) (lN z0) (lN r) g = BX12_newArray_188 x0 g) ∧ (¬ Grt b z0 z1 z2 r → BX12_newArray_80 x0 x1 x2 (nI b) (lN z2) (lN z1) (lN z0) (lN r) g = BX12_newArray_165 x0 x1 x2 (nI b) (lN z2) (lN z1) (lN z0) (lN r) 0 (lN (1 + r)) (lN (if 2 < b then r * z1 else 0)) g) := by
  have e100 : (100 : Int64) = lN 100 := rfl
  have e0 : (0 : Int64) = lN 0 := rfl
  have e1 : (1 : Int64) = lN 1 := rfl
  have k140a : BX12_newArray_140 x0 x1 x2 (nI b) (lN z2) (lN z1) (lN z0) (lN r) 1 g = BX12_newArray_188 x0 g := by
    unfold BX12_newArray_140 BX12_newArray_164 BX12_newArray_165
    simp only [i_10, if_false]
    split <;> rfl
  have k140b : BX12_newArray_140 x0 x1 x2 (nI b) (lN z2) (lN z1) (lN z0) (lN r) 0 g = BX12_newArray_165 x0 x1 x2 (nI b) (lN z2) (lN z1) (lN z0) (lN r) 0 (lN (1 + r)) (lN (if 2 < b then r * z1 else 0)) g := by
    unfold BX12_newArray_140 BX12_newArray_164
    rw [nl_2, if_lt (by decide) (by omega), if_pos rfl, e1, lN_add, lN_mul]
    by_cases c : 2 < b
    · rw [if_pos c, if_pos c]
    · rw [if_neg c, if_neg c]; rfl
  unfold BX12_newArray_80 BX12_newArray_107 BX12_newArray_135 BX12_newArray_139 Grt
  rw [e100, e0, il_lt (by decide) h0, il_lt (by decide) hr, il_lt (by decide) h1, nl_2, if_lt (by decide) (by omega), il_lt (by decide) h1, il_lt (by decide) h2, il_lt (by decide) hr, k140a, k140b]
  constructor
  · intro z
    by_cases c1 : 100 < z0
    · rw [if_pos c1]
    · rw [if_neg c1]
      by_cases c2 : 0 < r
      · rw [if_pos c2]
        by_cases c3 : 100 < z1
        · rw [if_pos c3]
        · rw [if_neg c3, if_pos (by omega), if_pos c2, if_pos (by omega), if_pos (by omega)]
      · omega
  · intro z
    rw [if_neg (by omega)]
    by_cases c2 : 0 < r
    · rw [if_pos c2, if_neg (by omega)]
      by_cases c3 : 2 < b
      · rw [if_pos c3, if_pos c2]
        by_cases c4 : 0 < z1
        · rw [if_pos c4, if_neg (by omega)]
        · rw [if_neg c4]
      · rw [if_neg c3]
    · rw [if_neg c2]
      by_cases c3 : 2 < b
      · rw [if_pos c3, if_neg c2]
      · rw [if_neg c3]
theorem mk_R_2 {z0 z1 y : Nat} {T : Th} (hy : 16 ≤ y) (hy2 : y < 32) : (mk_R [z0, z1] y T).1 = mo false (y - 8) z1 (y - 16) 0 T.1 z0 0 (addT T (nI y) z0) := by
  rw [mk_R, if_pos hy]
  dsimp only
  exact (mo_mk (kr := mk_R [z1] (y - 8)) (fun T => by rw [mk_R_1 (by omega), if_neg (by decide)]) (fun T => by rw [mk_R_1 (by omega)]; show T.1 ≤ T.1 + 1; omega) z0 0 _ (by show T.1 < T.1 + 1; omega)).symm
theorem mk_R_3 {z0 z1 z2 y : Nat} {T : Th} (hy : 24 ≤ y) (hy2 : y < 32) : (mk_R [z0, z1, z2] y T).1 = mo true (y - 8) z1 (y - 16) z2 T.1 z0 0 (addT T (nI y) z0) := by
  have e1 : mk_R [z2] (y - 8 - 8) = kr1 (y - 16) z2 := by
    funext T
    rw [mk_R_1 (by omega)]
    unfold kr1
    rw [show y - 8 - 8 = y - 16 by omega]
  have e2 : ∀ T, mk_R [z1, z2] (y - 8) T = ((if true = true then mk_F (kr1 (y - 16) z2) T.1 z1 0 (addT T (nI (y - 8)) z1) else addT T (nI (y - 8)) z1), lN T.1) := by
    intro T
    rw [mk_R, if_pos (by omega), e1, if_pos rfl]
  rw [mk_R, if_pos (by omega)]
  dsimp only
  refine (mo_mk (kr := mk_R [z1, z2] (y - 8)) e2 (fun T => ?_) z0 0 _ (by show T.1 < T.1 + 1; omega)).symm
  have := (mk_R_p [z1, z2] (y - 8) T T.1 (Nat.le_refl _)).1
  exact this
theorem m_takeI (lm : LM (hT h) (hR h) q) (v : MSk h q c d σ s) (hc : c < 6) (h1 : 1 ≤ d) (h2 : σ (d - 1) = 0) : Ok (FX12_takeInt (some q) (nI c) h) (fun r g => r = (s (d - 1)).toInt32 ∧ MSk g q c (d - 1) σ s ∧ Fm q F40 (A41 q) h g ∧ Fo2 q c h g) := by
  unfold FX12_takeInt
  rw [rcv_ok lm.1, nI_c0]
  refine ok_cl (m_take (k := 0) lm v hc (by decide) h1 h2) (fun r g x => ok_some ?_)
  obtain ⟨rfl, x2, x3, x4⟩ := x
  exact ⟨rfl, x2, x3, x4⟩
/-- the end of an operation that makes things -/
theorem mr_T (mx : MX h q c P (m, i, d, s, l, hn) σ lk T) {g1 : Hp} (f : Fm q F40 (A41 q) h g) (fo : Fo2 q c h g) (ft : Fm q FT (AT5 q) g g1) {D : Nat} (w : MSk g q c D σ s) {T' : Th} (mt : MTh g1 q T') (hD : D + 1 ≤ 14) (v : Int64) : Ok (rcv g1 (some q) 11 <| cl (FX12_put (some q) (nI c) 4 v g1) fun _ h3 => some ((), h3)) (fun _ g' => MRz q c h lk (m, i, d, s, l, hn) (Sx D 4 σ lk) (xw m D 4 s l (xo v hn (i + 1) T')) g') := by
  obtain ⟨p1, p2, p3, p4, p5, p6, ⟨p7, p8⟩, p9⟩ := mx
  have n5 : ∀ b, q + 38 ≤ b → ¬ AT5 q b := fun b hb z => by unfold AT5 at z; omega
  have l1 := (p1.fm f).fm ft
  have w1 : MSk g1 q c D σ s := w.fm ft (n5 _ (by omega)) (n5 _ (by omega))
  rw [rcv_ok l1.1]
  refine ok_cl (m_put (k := 4) l1 w1 p9 (by decide) v hD) (fun _ g2 x => ok_some ?_)
  obtain ⟨x1, x2, x3⟩ := x
  have fo2 := (fo.trans (o2_fm (c := c) ft (fun b h1 h2 => n5 b h1))).trans x3
  have F1 : Fm q FW (AW q) h g2 := ((f.mono f40w a41w).trans (ft.mono (fun k z => by unfold FT at z; unfold FW; omega) (fun b z => by unfold AT5 at z; unfold AW; omega))).trans (x2.mono f40w a41w)
  have e38 : ∀ b, b = q + 38 ∨ b = q + 39 → hI g2 b = hI h b := fun b hb => by rw [(x2.2.2.2.1 b (by omega) (n41 (by omega) (by omega))).1, (ft.2.2.2.1 b (by omega) (n5 b (by omega))).1, (f.2.2.2.1 b (by omega) (n41 (by omega) (by omega))).1]
  unfold Sx xw xo
  dsimp only
  rw [if_neg (by decide), if_neg (by decide), if_neg (by decide)]
  refine ⟨F1, fo2, ⟨by rw [e38 _ (Or.inl rfl)], by rw [e38 _ (Or.inr rfl)]⟩, mt.fm x2 ⟨fun z => z, fun z => z⟩ (fun b h1 h2 => n41 (by omega) (by omega)), ?_, x1, ((p5.fm f (n41 (by omega) (by omega))).fm ft (n5 _ (by omega))).fm x2 (n41 (by omega) (by omega)), ((p6.fm f (n41 (by omega) (by omega))).fm ft (n5 _ (by omega))).fm x2 (n41 (by omega) (by omega))⟩
  rw [(x2.2.2.2.2 64 (fun z => z)).1, (ft.2.2.2.2 64 (by unfold FT; omega)).1, (f.2.2.2.2 64 (fun z => z)).1]; exact p7
theorem na_tail (mx : MX h q c P (m, i, d, s, l, hn) σ lk T) (f : Fm q F40 (A41 q) h g) (fo : Fo2 q c h g) {D b y z0 z1 z2 : Nat} (w : MSk g q c D σ s) (hb1 : 1 ≤ b) (hb : b ≤ 3) (hy : 8 * b ≤ y) (hy2 : y < 32) (hD : D + 1 ≤ 14) (h0 : z0 < 2 ^ 31) (h1 : z1 < 2 ^ 31) (h2 : z2 < 2 ^ 31) (d1 : b ≤ 1 → z1 = 0) {zs : List Nat} (hzs : zs = if b = 1 then [z0] else if b = 2 then [z0, z1] else [z0, z1, z2]) : Ok (BX12_newArray_80 (some q) (nI c) (nI y) (nI b) (lN z2) (lN z1) (lN z0) (lN (if 1 < b then z0 else 0)) g) (fun _ g' => MRz q c h lk (m, i, d, s, l, hn) (Sx D 4 σ lk) (xw m D 4 s l (if room T.1 zs = true then xo (lN T.1) hn (i + 1) (mk_R zs y T).1 else xf 7 hn i T)) g') := by
  have n60 := mx.2.2.1.1.2.2
  have mg : MTh g q T := mx.2.2.1.fm f ⟨fun z => z, fun z => z⟩ (fun b h1 h2 => n41 (by omega) (by omega))
  have lg := mx.1.fm f
  have hr : (if 1 < b then z0 else 0) < 2 ^ 31 := by split <;> omega
  have na := na_80 (x0 := some q) (x1 := nI c) (x2 := nI y) hb h0 h1 h2 hr g
  have rm : room T.1 zs = true ↔ ¬ Grt b z0 z1 z2 (if 1 < b then z0 else 0) ∧ T.1 + (1 + (if 1 < b then z0 else 0) + (if 2 < b then z0 * z1 else 0)) ≤ 60 := by
    unfold room Grt
    rw [Bool.and_eq_true, decide_eq_true_eq, hzs]
    rcases (show b = 1 ∨ b = 2 ∨ b = 3 by omega) with rfl | rfl | rfl
    · simp only [okz, cnt, false_and, or_false, true_and, Bool.or_true, Bool.and_true, Bool.and_eq_true, Bool.or_eq_true, decide_eq_true_eq, if_true, if_false, show ¬ (1 : Nat) < 1 by omega, show ¬ (2 : Nat) < 1 by omega]
      omega
    · simp only [okz, cnt, false_and, or_false, true_and, Bool.or_true, Bool.and_true, Bool.and_eq_true, Bool.or_eq_true, decide_eq_true_eq, if_true, if_false, show (1 : Nat) < 2 by omega, show ¬ (2 : Nat) < 2 by omega, show ¬ (2 : Nat) = 1 by omega, Nat.mul_zero, Nat.add_zero, Nat.mul_one]
      omega
    · simp only [okz, cnt, false_and, or_false, true_and, Bool.or_true, Bool.and_true, Bool.and_eq_true, Bool.or_eq_true, decide_eq_true_eq, if_true, if_false, show (1 : Nat) < 3 by omega, show (2 : Nat) < 3 by omega, show ¬ (3 : Nat) = 1 by omega, show ¬ (3 : Nat) = 2 by omega, Nat.mul_zero, Nat.add_zero, Nat.mul_one, Nat.mul_add]
      omega
  have f7 : Ok (BX12_newArray_188 (some q) g) (fun _ g' => MRz q c h lk (m, i, d, s, l, hn) (Sx D 4 σ lk) (xw m D 4 s l (xf 7 hn i T)) g') := by
    unfold BX12_newArray_188
    exact mr_fail mx f fo 7 _ _ _
  by_cases cg : Grt b z0 z1 z2 (if 1 < b then z0 else 0)
  · rw [na.1 cg, if_neg (fun z => (rm.mp z).1 cg)]
    exact f7
  · have bz1 : (if 1 < b then z0 else 0) ≤ 100 := by unfold Grt at cg; split <;> omega
    have bnd : (if 2 < b then (if 1 < b then z0 else 0) * z1 else 0) = (if 2 < b then z0 * z1 else 0) := by
      by_cases c : 2 < b
      · rw [if_pos c, if_pos c, if_pos (by omega)]
      · rw [if_neg c, if_neg c]
    have bm : (if 2 < b then z0 * z1 else 0) ≤ 10000 := by
      by_cases c : 2 < b
      · rw [if_pos c]
        rw [if_pos (show 1 < b by omega)] at cg
        unfold Grt at cg
        by_cases c0 : z0 = 0
        · rw [c0, Nat.zero_mul]; omega
        · have := Nat.mul_le_mul (show z0 ≤ 100 by omega) (show z1 ≤ 100 by omega)
          omega
      · rw [if_neg c]; omega
    rw [na.2 cg, bnd]
    unfold BX12_newArray_165
    rw [if_pos rfl, gI_ok lg.1, mg.1.1, nI_l8 (by omega), lN_add, lN_add, show (60 : Int64) = lN 60 from rfl, il_lt (by decide) (by omega)]
    by_cases c60 : 60 < T.1 + (1 + (if 1 < b then z0 else 0) + (if 2 < b then z0 * z1 else 0))
    · rw [if_pos c60, if_neg (fun z => by have := (rm.mp z).2; omega)]
      exact f7
    · have hz0 : z0 ≤ 100 := by unfold Grt at cg; omega
      rw [if_neg c60, if_pos (rm.mpr ⟨cg, by omega⟩), rcv_ok lg.1, lN_r h0]
      refine ok_cl (m_new lg mg (by omega) (nI y) hz0) (fun v g1 x => ?_)
      obtain ⟨rfl, x2, x3⟩ := x
      have l1 := lg.fm x3
      have el : Int32.toInt64 (nI T.1) = lN T.1 := nI_l8 (by omega)
      rcases (show b = 1 ∨ 2 ≤ b by omega) with hb' | hb'
      · subst hb'
        rw [if_pos rfl] at hzs
        rw [hzs, mk_R_1 hy2]
        have e208 : BX12_newArray_208 100000 (some q) (nI c) (nI y) (nI 1) (lN z2) (lN z1) (lN (if 1 < 1 then z0 else 0)) (nI T.1) 0 g1 = (rcv g1 (some q) 11 <| cl (FX12_put (some q) (nI c) 4 (Int32.toInt64 (nI T.1)) g1) fun _ h3 => some ((), h3)) := by
          unfold BX12_newArray_208
          rw [if_neg (by rw [show (if (1 : Nat) < 1 then z0 else 0) = 0 from rfl]; decide)]
        rw [e208, el]
        exact mr_T mx f fo x3 w x2 hD _
      · have hl : (if 1 < b then z0 else 0) = z0 := if_pos (by omega)
        rw [hl] at cg c60 ⊢
        unfold Grt at cg
        have e3 : (1 + if b = 3 then z1 else 0) = 1 + (if 2 < b then z1 else 0) := by
          by_cases z : b = 3
          · rw [if_pos z, if_pos (by omega)]
          · rw [if_neg z, if_neg (by omega)]
        have hcn : T.1 + 1 + z0 * (1 + if b = 3 then z1 else 0) ≤ 60 := by
          rw [e3, Nat.mul_add, Nat.mul_one]
          by_cases z : 2 < b
          · rw [if_pos z] at c60 ⊢; omega
          · rw [if_neg z] at c60 ⊢; omega
        rw [nI_c0]
        refine na_208 (arr := T.1) hb' hb hy hy2 (fun z => by omega) (fun z1 z2 z3 => by omega) hz0 h2 100000 z0 0 (addT T (nI y) z0) g1 (by omega) (by omega) l1 x2 (by show T.1 < T.1 + 1; omega) (by show va_up T.2.2.1 T.1 z0 T.1 = z0; rw [va_s]) hcn (fun g2 m2 fm2 => ?_)
        have em : mo (decide (b = 3)) (y - 8) z1 (y - 16) z2 T.1 z0 0 (addT T (nI y) z0) = (mk_R zs y T).1 := by
          rcases (show b = 2 ∨ b = 3 by omega) with rfl | rfl
          · rw [hzs, if_neg (by decide), if_pos rfl, mk_R_2 (by omega) hy2]
            have hmo : ∀ (r i : Nat) (T' : Th), mo false (y - 8) z1 (y - 16) z2 T.1 r i T' = mo false (y - 8) z1 (y - 16) 0 T.1 r i T' := by
              intro r
              induction r with
              | zero => intro i T'; rfl
              | succ r ih => intro i T'; rw [mo, mo, if_neg (by decide), if_neg (by decide)]; exact ih _ _
            exact hmo _ _ _
          · rw [hzs, if_neg (by decide), if_neg (by decide), mk_R_3 (by omega) hy2]
            rfl
        rw [em] at m2
        rw [el]
        exact mr_T mx f fo (x3.trans fm2) w m2 hD _
end MQ2
