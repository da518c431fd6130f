/-! the model: who catches a failure -/
def F62 : Nat → Prop := fun k => k = 62 ∨ k = 56 ∨ k = 57 ∨ k = 58
def A39 (q : Nat) : Nat → Prop := fun b => b = q + 39 ∨ b = q + 40 ∨ b = q + 41
section IC
variable {q : Nat} {P : Pg} {tt : Nat → Tab}
theorem fo_39 {h : Hp} {c : Nat} {v : Int32} : Fo2 q c h (wI h (q + 39) c v) := fun x hx => ⟨⟨by rw [hI_wI_a (by omega)], hI_wI_k hx, by rw [hI_wI_a (by omega)]⟩, fun _ _ => rfl, fun _ _ => rfl, fun _ _ => by rw [hI_wI_a (by omega)]⟩
theorem fo_40 {h : Hp} {c : Nat} {v : Int32} : Fo2 q c h (wI h (q + 40) c v) := fun x hx => ⟨⟨by rw [hI_wI_a (by omega)], by rw [hI_wI_a (by omega)], hI_wI_k hx⟩, fun _ _ => rfl, fun _ _ => rfl, fun _ _ => by rw [hI_wI_a (by omega)]⟩
theorem fo_38 {h : Hp} {c : Nat} {v : Int32} : Fo2 q c h (wI h (q + 38) c v) := fun x hx => ⟨⟨hI_wI_k hx, by rw [hI_wI_a (by omega)], by rw [hI_wI_a (by omega)]⟩, fun _ _ => rfl, fun _ _ => rfl, fun _ _ => by rw [hI_wI_a (by omega)]⟩
theorem fo_fI {h : Hp} {c i : Nat} {v : Int32} : Fo2 q c h (wI h q i v) := o2_fm (A := fun _ => False) (Fm.fI (F := fun k => k = i) rfl) (fun _ _ _ z => z)
theorem f62w : ∀ k, F62 k → FWk k := fun k z => by unfold F62 at z; unfold FWk; omega
theorem a39w : ∀ b, A39 q b → AW q b := fun b z => by unfold A39 at z; unfold AW; omega
theorem ic_155 {h : Hp} {n m k gg : Nat} {C : Nat → Cl} {T : Th} {R : (Int32 × Int32 × Int32) × (Nat × Nat × Nat) × Int64} {x : Int32} (my : MY h q P tt ((n + 1, C), T, R)) (hRm : R.1 = (-1, -1, -1)) (e65 : hI h q 65 = x) (hmk : 6 * m + k < 48) (e12 : hI h (q + 12) (6 * m + k) = nI gg) (cm : Cmp (tt (C n).1) gg (1, (fun _ => 4), (tt (C n).1).2.2.1 (C n).2.1)) : Ok (BX12_isCaught_155 (some q) (nI n) (nI (6 * m + k)) h) (fun r g => r = 1 ∧ MW g q P tt ((n + 1, va_up C n ((C n).1, gg, 1, (fun _ => Int32.toInt64 x), (C n).2.2.2.2.1, (C n).2.2.2.2.2)), T, R.1, (R.2.1.1, R.2.1.2.1, R.2.1.2.2 + 1), R.2.2) ∧ Fm q FWk (AW q) h g) := by
  obtain ⟨lm, pm, mt, ⟨e47, n6⟩, mc, mk⟩ := my
  have n6 : n + 1 ≤ 6 := n6
  have e47 : hI h q 47 = nI (n + 1) := e47
  obtain ⟨mt0, ⟨mr1, mt1⟩, ⟨mr2, mt2⟩, ⟨mr3, mt3⟩, ⟨mr4, mt4⟩, ⟨mr5, mt5⟩, ⟨mr6, mt6⟩, ⟨mr7, mt7⟩, ⟨mr8, mt8⟩, ⟨mr9, mt9⟩, ⟨mr10, mt10⟩, ⟨mr11, mt11⟩, ⟨mr12, mt12⟩, ⟨mr13, mt13⟩, ⟨mr14, mt14⟩, ⟨mr15, mt15⟩, ⟨mr16, mt16⟩, ⟨mr17, mt17⟩, ⟨mr18, mt18⟩, ⟨mr19, mt19⟩, ⟨mr20, mt20⟩, ⟨mr21, mt21⟩, ⟨mr22, mt22⟩, ⟨mr23, mt23⟩, ⟨mr24, mt24⟩, ⟨mr25, mt25⟩, ⟨mr26, mt26⟩, ⟨mr27, mt27⟩, ⟨mr28, mt28⟩, ⟨mr29, mt29⟩, ⟨mr30, mt30⟩, ⟨mr31, mt31⟩, ⟨mr32, mt32⟩, ⟨mr33, mt33⟩, ⟨mr34, mt34⟩, ⟨mr35, mt35⟩, ⟨mr36, mt36⟩, ⟨mr37, mt37⟩, ⟨mr38, mt38⟩, ⟨mr39, mt39⟩, ⟨mr40, mt40⟩, ⟨mr41, mt41⟩, ⟨mr42, mt42⟩, ⟨mr43, mt43⟩⟩ := id lm
  unfold BX12_isCaught_155
  rw [gR_ok mt0, mr40, sI_n mt40 (by omega) (by decide)]
  have f1 : Fm q F40 (A39 q) h (wI h (q + 40) n 0) := Fm.wa (Or.inr (Or.inl rfl)) (by omega)
  have o1 : Fo2 q n h (wI h (q + 40) n 0) := fo_40
  have s1 : hI (wI h (q + 40) n 0) (q + 40) n = nI 0 := hI_wI_s
  generalize wI h (q + 40) n 0 = h1 at f1 o1 s1 ⊢
  have t1 : hT h1 q = some (.inl 11) := (lm.fm f1).1
  have l1 := lm.fm f1
  rw [gI_ok t1, (f1.2.2.2.2 65 (fun z => z)).1, e65, rcv_ok t1, nl_4]
  refine ok_cl (m_put (σ := fun _ => 0) (s := fun _ => 0) (d := 0) l1 ⟨⟨s1, by omega⟩, fun p hp => by cases hp⟩ (by omega) (by decide) _ (by decide)) (fun _ h2 z => ?_)
  obtain ⟨sk, f2, o2⟩ := z
  have f2 : Fm q F40 (A39 q) h1 h2 := f2.mono (fun _ z => z) (fun b z => Or.inr z)
  have f12 := f1.trans f2
  have o12 := o1.trans o2
  have l2 := l1.fm f2
  have e12' : hI h2 (q + 12) (6 * m + k) = nI gg := by rw [(f12.2.2.2.1 (q + 12) (by omega) (by unfold A39; omega)).1]; exact e12
  have t2 : hT h2 q = some (.inl 11) := l2.1
  have e62 : hI h2 q 62 = nI R.2.1.2.2 := by
    rw [(f12.2.2.2.2 62 (fun z => z)).1]
    exact mk.1.2.2
  have w12 : hR h2 q 12 = some (q + 12) ∧ hT h2 (q + 12) = some (.inr (.int, 48)) ∧ hR h2 q 49 = some (q + 39) ∧ hT h2 (q + 39) = some (.inr (.int, 6)) := by
    rw [f12.1, f12.2.1]; exact ⟨mr12, mt12, mr39, mt39⟩
  obtain ⟨w1, w2, w3, w4⟩ := w12
  rw [gR_ok t2, w3, gR_ok t2, w1, aI_n w2 hmk (by decide), e12', sI_n w4 (by omega) (by decide), gI_ok (show hT (wI h2 (q + 39) n (nI gg)) q = _ from t2), hI_wI_a (show q ≠ q + 39 by omega), e62, nI_1, pI_ok (show hT (wI h2 (q + 39) n (nI gg)) q = _ from t2), pI_ok (show hT (wI (wI h2 (q + 39) n (nI gg)) q 62 (nI (R.2.1.2.2 + 1))) q = _ from t2), pI_ok (show hT (wI (wI (wI h2 (q + 39) n (nI gg)) q 62 (nI (R.2.1.2.2 + 1))) q 56 (-1)) q = _ from t2), pI_ok (show hT (wI (wI (wI (wI h2 (q + 39) n (nI gg)) q 62 (nI (R.2.1.2.2 + 1))) q 56 (-1)) q 57 (-1)) q = _ from t2), bz_1]
  have f3 : Fm q F62 (A39 q) h2 (wI (wI (wI (wI (wI h2 (q + 39) n (nI gg)) q 62 (nI (R.2.1.2.2 + 1))) q 56 (-1)) q 57 (-1)) q 58 (-1)) := ((((Fm.wa (Or.inl rfl) (by omega)).trans (Fm.fI (Or.inl rfl))).trans (Fm.fI (Or.inr (Or.inl rfl)))).trans (Fm.fI (Or.inr (Or.inr (Or.inl rfl))))).trans (Fm.fI (Or.inr (Or.inr (Or.inr rfl))))
  have o3 : Fo2 q n h2 (wI (wI (wI (wI (wI h2 (q + 39) n (nI gg)) q 62 (nI (R.2.1.2.2 + 1))) q 56 (-1)) q 57 (-1)) q 58 (-1)) := (((fo_39.trans fo_fI).trans fo_fI).trans fo_fI).trans fo_fI
  have g39 : hI (wI (wI (wI (wI (wI h2 (q + 39) n (nI gg)) q 62 (nI (R.2.1.2.2 + 1))) q 56 (-1)) q 57 (-1)) q 58 (-1)) (q + 39) n = nI gg := by rw [hI_wI_a (by omega), hI_wI_a (by omega), hI_wI_a (by omega), hI_wI_a (by omega)]; exact hI_wI_s
  have g40 : hI (wI (wI (wI (wI (wI h2 (q + 39) n (nI gg)) q 62 (nI (R.2.1.2.2 + 1))) q 56 (-1)) q 57 (-1)) q 58 (-1)) (q + 40) = hI h2 (q + 40) := by rw [hI_wI_a (by omega), hI_wI_a (by omega), hI_wI_a (by omega), hI_wI_a (by omega), hI_wI_a (by omega)]
  have gL : hL (wI (wI (wI (wI (wI h2 (q + 39) n (nI gg)) q 62 (nI (R.2.1.2.2 + 1))) q 56 (-1)) q 57 (-1)) q 58 (-1)) = hL h2 := rfl
  have g62 : hI (wI (wI (wI (wI (wI h2 (q + 39) n (nI gg)) q 62 (nI (R.2.1.2.2 + 1))) q 56 (-1)) q 57 (-1)) q 58 (-1)) q 62 = nI (R.2.1.2.2 + 1) := by rw [hI_wI_k (by decide), hI_wI_k (by decide), hI_wI_k (by decide)]; exact hI_wI_s
  have g56 : hI (wI (wI (wI (wI (wI h2 (q + 39) n (nI gg)) q 62 (nI (R.2.1.2.2 + 1))) q 56 (-1)) q 57 (-1)) q 58 (-1)) q 56 = -1 := by rw [hI_wI_k (by decide), hI_wI_k (by decide)]; exact hI_wI_s
  have g57 : hI (wI (wI (wI (wI (wI h2 (q + 39) n (nI gg)) q 62 (nI (R.2.1.2.2 + 1))) q 56 (-1)) q 57 (-1)) q 58 (-1)) q 57 = -1 := by rw [hI_wI_k (by decide)]; exact hI_wI_s
  have g58 : hI (wI (wI (wI (wI (wI h2 (q + 39) n (nI gg)) q 62 (nI (R.2.1.2.2 + 1))) q 56 (-1)) q 57 (-1)) q 58 (-1)) q 58 = -1 := hI_wI_s
  generalize wI (wI (wI (wI (wI h2 (q + 39) n (nI gg)) q 62 (nI (R.2.1.2.2 + 1))) q 56 (-1)) q 57 (-1)) q 58 (-1) = g at f3 o3 g39 g40 gL g62 g56 g57 g58 ⊢
  have ff := (f12.mono (F' := F62) (fun _ z => z.elim) (fun _ z => z)).trans f3
  have oo := o12.trans o3
  obtain ⟨⟨b1, b2⟩, b3, b4⟩ := (mc n (by show n < n + 1; omega)).2
  refine ok_some ⟨rfl, ⟨lm.fm ff, pm.fm ff (fun b _ _ => by unfold A39; omega) ⟨by unfold F62; omega, by unfold F62; omega, by unfold F62; omega⟩, mt.fm ff ⟨by unfold F62; omega, by unfold F62; omega⟩ (fun b _ _ => by unfold A39; omega), ⟨by rw [(ff.2.2.2.2 47 (by unfold F62; omega)).1]; exact e47, n6⟩, fun c hc => ?_, ⟨⟨?_, ?_, g62⟩, ?_⟩, ?_⟩, ff.mono f62w a39w⟩
  · have hc : c < n + 1 := hc
    show MCa g q tt c (va_up C n _ c)
    by_cases z : c = n
    · subst z
      rw [va_s]
      obtain ⟨cm1, cm2, cm3⟩ := cm
      refine ⟨⟨by rw [(ff.2.2.2.1 (q + 38) (by omega) (by unfold A39; omega)).1]; exact b1, g39⟩, ⟨⟨by rw [g40]; exact sk.1.1, by show 1 ≤ 14; omega⟩, fun p hp _ => ?_⟩, fun j hj hl => ?_, b4.fm ff (by unfold A39; omega)⟩
      · have hp : p < 1 := hp
        have : p = 0 := by omega
        subst this
        rw [gL]
        exact sk.2 0 (by decide) (by decide)
      · rw [(ff.2.2.2.1 (q + 42) (by omega) (by unfold A39; omega)).2]
        have hl : (tt (C c).1).2.2.1 gg j < 5 := hl
        rcases cm3 j hj with y | y
        · omega
        · exact b3 j hj (by rw [y] at hl; exact hl)
    · rw [va_n _ _ z]
      exact ((mc c hc).1 (by show c + 1 < n + 1; omega)).fo oo z
  · rw [(ff.2.2.2.2 60 (by unfold F62; omega)).1]; exact mk.1.1
  · rw [(ff.2.2.2.2 61 (by unfold F62; omega)).1]; exact mk.1.2.1
  · rw [(ff.2.2.2.2 55 (by unfold F62; omega)).2]; exact mk.2
  · show MF g q (R.1, _)
    rw [hRm]; exact ⟨g56, g57, g58⟩
/-- the catchers of a call, one after another -/
theorem ic_102 {K : Option Nat → Int32 → Hp → Option (Int32 × Hp)} {Q : Int32 → Hp → Prop} {h : Hp} {n m i f : Nat} (lm : LM (hT h) (hR h) q) (pm : PM h q P) (pw : PW P) (hn : n < 6) (hm : m < p_nm P) (hi : i < 60) (e39 : hI h (q + 39) n = nI i) (kS : ∀ k, k < p_nh P m → p_cat P m i f = some (p_hg P m k) → pcov P m k i = true → Ok (BX12_isCaught_155 (some q) (nI n) (nI (6 * m + k)) h) Q) (kN : p_cat P m i f = none → Ok (BX12_isCaught_222 100000 K (some q) (nI f) (nI n) 0 h) Q) : ∀ (fu k : Nat), k ≤ p_nh P m → p_nh P m - k < fu → (∀ j, j < k → (pcov P m j i && (decide (p_hn P m j = -1) || decide (p_hn P m j = nI f))) = false) → Ok (BX12_isCaught_102 fu K (some q) (nI f) (nI n) (nI m) (nI (6 * m + k)) h) Q := by
  obtain ⟨mt0, ⟨mr1, mt1⟩, ⟨mr2, mt2⟩, ⟨mr3, mt3⟩, ⟨mr4, mt4⟩, ⟨mr5, mt5⟩, ⟨mr6, mt6⟩, ⟨mr7, mt7⟩, ⟨mr8, mt8⟩, ⟨mr9, mt9⟩, ⟨mr10, mt10⟩, ⟨mr11, mt11⟩, ⟨mr12, mt12⟩, ⟨mr13, mt13⟩, ⟨mr14, mt14⟩, ⟨mr15, mt15⟩, ⟨mr16, mt16⟩, ⟨mr17, mt17⟩, ⟨mr18, mt18⟩, ⟨mr19, mt19⟩, ⟨mr20, mt20⟩, ⟨mr21, mt21⟩, ⟨mr22, mt22⟩, ⟨mr23, mt23⟩, ⟨mr24, mt24⟩, ⟨mr25, mt25⟩, ⟨mr26, mt26⟩, ⟨mr27, mt27⟩, ⟨mr28, mt28⟩, ⟨mr29, mt29⟩, ⟨mr30, mt30⟩, ⟨mr31, mt31⟩, ⟨mr32, mt32⟩, ⟨mr33, mt33⟩, ⟨mr34, mt34⟩, ⟨mr35, mt35⟩, ⟨mr36, mt36⟩, ⟨mr37, mt37⟩, ⟨mr38, mt38⟩, ⟨mr39, mt39⟩, ⟨mr40, mt40⟩, ⟨mr41, mt41⟩, ⟨mr42, mt42⟩, ⟨mr43, mt43⟩⟩ := id lm
  have hm8 : m < 8 := by have := pw.1; omega
  have wm := pw.2.2.2.1 m hm
  have b6 := wm.2.2.2.2.1
  have vm := pm.2.1 m hm
  have e9 := vm.1.2.2.2.2
  intro fu
  induction fu with
  | zero => intro k h1 h2; omega
  | succ fu ih =>
    intro k h1 h2 hb
    unfold BX12_isCaught_102
    rw [gR_ok mt0, mr9, aI_n mt9 hm8 (by decide), e9, nl_6, pk_mul, nI_add, if_lt (by omega) (by omega)]
    by_cases ck : k < p_nh P m
    · rw [if_pos (by omega), gR_ok mt0, mr39, aI_n mt39 hn (by decide), e39, rcv_ok mt0, g_covers lm vm wm hm8 ck hi, cl_ok, b2i_if]
      obtain ⟨u1, u2, u3, u4⟩ := vm.2.2.2 k ck
      have next : (pcov P m k i && (decide (p_hn P m k = -1) || decide (p_hn P m k = nI f))) = false → Ok (BX12_isCaught_213 K (BX12_isCaught_102 fu K) (some q) (nI f) (nI n) (nI m) (nI (6 * m + k)) h) Q := by
        intro z
        unfold BX12_isCaught_213
        rw [nI_1]
        exact ih (k + 1) (by omega) (by omega) (fun j hj => by
          by_cases y : j = k
          · subst y; exact z
          · exact hb j (by omega))
      have got : (pcov P m k i && (decide (p_hn P m k = -1) || decide (p_hn P m k = nI f))) = true → p_cat P m i f = some (p_hg P m k) := by
        intro z
        have : (List.range (p_nh P m)).find? (fun k => pcov P m k i && (decide (p_hn P m k = -1) || decide (p_hn P m k = nI f))) = some k := by
          rw [List.find?_range_eq_some]
          exact ⟨z, List.mem_range.mpr ck, fun j hj => by rw [hb j hj]; rfl⟩
        unfold p_cat
        rw [this]; rfl
      cases hc : pcov P m k i with
      | false =>
        rw [if_neg (by decide)]
        exact next (by rw [hc]; rfl)
      | true =>
        rw [if_pos rfl, gR_ok mt0, mr13, aI_n mt13 (by omega) (by decide), u4]
        by_cases z1 : p_hn P m k = -1
        · rw [if_pos z1]
          exact kS k ck (got (by rw [hc, decide_eq_true z1]; rfl)) hc
        · rw [if_neg z1, gR_ok mt0, mr13, aI_n mt13 (by omega) (by decide), u4]
          by_cases z2 : p_hn P m k = nI f
          · rw [if_pos z2]
            exact kS k ck (got (by rw [hc, decide_eq_true z2, Bool.or_true]; rfl)) hc
          · rw [if_neg z2]
            exact next (by rw [hc, decide_eq_false z1, decide_eq_false z2]; rfl)
    · rw [if_neg (by omega)]
      have : (List.range (p_nh P m)).find? (fun k => pcov P m k i && (decide (p_hn P m k = -1) || decide (p_hn P m k = nI f))) = none := by
        rw [List.find?_eq_none]
        intro j hj
        rw [hb j (by have := List.mem_range.mp hj; omega)]
        decide
      exact kN (by unfold p_cat; rw [this]; rfl)
theorem hdT_id {T : Th} {f : Nat → Int32} : hdT T (fun t => if t < 0 then f t else T.2.2.2.1 t) = T := by
  have : (fun t => if t < 0 then f t else T.2.2.2.1 t) = T.2.2.2.1 := funext fun t => if_neg (by omega)
  rw [this]; rfl
def IcQ (q : Nat) (P : Pg) (tt : Nat → Tab) (h : Hp) (W : Wk) : Int32 → Hp → Prop := fun r g => r = (if 0 < W.1.1 then 1 else 0) ∧ MW g q P tt W ∧ Fm q FWk (AW q) h g
/-- the calls, from the uppermost down -/
theorem ic_75 (pw : PW P) (st : ST P tt) {f m i : Nat} {x : Int32} {C : Nat → Cl} {R : (Int32 × Int32 × Int32) × (Nat × Nat × Nat) × Int64} (hRm : R.1 = (-1, -1, -1)) : ∀ (n fu : Nat) (T : Th) (h : Hp), n < fu → (∀ c, c < n → (C c).1 < p_nm P ∧ ∃ e, (tt (C c).1).1 (C c).2.1 = some e) → MY h q P tt ((n, C), T, R) → hI h q 65 = x → (hI h q 56 = nI f ∧ hI h q 57 = nI i ∧ hI h q 58 = nI m) → Ok (BX12_isCaught_75 fu (some q) (nI f) h) (IcQ q P tt h (w_fn P ((n, C), T, R) f (Int32.toInt64 x) m i)) := by
  intro n
  induction n with
  | zero =>
    intro fu T h h1 hc my e65 e56
    obtain ⟨fu, rfl⟩ : ∃ k, fu = k + 1 := ⟨fu - 1, by omega⟩
    obtain ⟨lm, pm, mt, ⟨e47, n6⟩, mc, mk⟩ := my
    have e47 : hI h q 47 = nI 0 := e47
    have t0 := lm.1
    unfold BX12_isCaught_75
    rw [gI_ok t0, e47, ir_0 (by decide), if_neg (by decide), bz_0, wfn_0]
    exact ok_some ⟨rfl, ⟨lm, pm, mt, ⟨e47, n6⟩, fun c hc => (by cases hc), mk, e56⟩, Fm.refl⟩
  | succ n ih =>
    intro fu T h h1 hc my e65 e56
    obtain ⟨fu, rfl⟩ : ∃ k, fu = k + 1 := ⟨fu - 1, by omega⟩
    obtain ⟨lm, pm, mt, ⟨e47, n6⟩, mc, mk⟩ := id my
    have n6 : n + 1 ≤ 6 := n6
    have e47 : hI h q 47 = nI (n + 1) := e47
    obtain ⟨mt0, ⟨mr1, mt1⟩, ⟨mr2, mt2⟩, ⟨mr3, mt3⟩, ⟨mr4, mt4⟩, ⟨mr5, mt5⟩, ⟨mr6, mt6⟩, ⟨mr7, mt7⟩, ⟨mr8, mt8⟩, ⟨mr9, mt9⟩, ⟨mr10, mt10⟩, ⟨mr11, mt11⟩, ⟨mr12, mt12⟩, ⟨mr13, mt13⟩, ⟨mr14, mt14⟩, ⟨mr15, mt15⟩, ⟨mr16, mt16⟩, ⟨mr17, mt17⟩, ⟨mr18, mt18⟩, ⟨mr19, mt19⟩, ⟨mr20, mt20⟩, ⟨mr21, mt21⟩, ⟨mr22, mt22⟩, ⟨mr23, mt23⟩, ⟨mr24, mt24⟩, ⟨mr25, mt25⟩, ⟨mr26, mt26⟩, ⟨mr27, mt27⟩, ⟨mr28, mt28⟩, ⟨mr29, mt29⟩, ⟨mr30, mt30⟩, ⟨mr31, mt31⟩, ⟨mr32, mt32⟩, ⟨mr33, mt33⟩, ⟨mr34, mt34⟩, ⟨mr35, mt35⟩, ⟨mr36, mt36⟩, ⟨mr37, mt37⟩, ⟨mr38, mt38⟩, ⟨mr39, mt39⟩, ⟨mr40, mt40⟩, ⟨mr41, mt41⟩, ⟨mr42, mt42⟩, ⟨mr43, mt43⟩⟩ := id lm
    obtain ⟨cm, e, he⟩ := hc n (by omega)
    obtain ⟨⟨b1, b2⟩, b3, b4⟩ := (mc n (by show n < n + 1; omega)).2
    have b1 : hI h (q + 38) n = nI (C n).1 := b1
    have b2 : hI h (q + 39) n = nI (C n).2.1 := b2
    obtain ⟨s1, s2⟩ := st _ cm
    obtain ⟨hi, -, dn⟩ := s1.1 _ _ he
    have wm := pw.2.2.2.1 _ cm
    have hno := wm.2.2.2.1
    unfold BX12_isCaught_75
    rw [gI_ok mt0, e47, ir_0 (by omega), if_pos (by omega), gI_ok mt0, e47, nI_pred, gR_ok mt0, mr38, aI_n mt38 (by omega) (by decide), b1, nl_6, pk_mul]
    refine ic_102 lm pm pw (by omega) cm (by omega) b2 (fun k hk hcat hcov => ?_) (fun hcat => ?_) 100000 0 (by omega) (by have := wm.2.2.2.2.1; omega) (fun j hj => by omega)
    · have hmem : (p_hg P (C n).1 k, (1, (fun _ => 4), (tt (C n).1).2.2.1 (C n).2.1)) ∈ j_hs P (C n).1 (C n).2.1 ((tt (C n).1).2.2.1 (C n).2.1) := by
        unfold j_hs
        exact List.mem_map.mpr ⟨k, List.mem_filter.mpr ⟨List.mem_range.mpr hk, hcov⟩, rfl⟩
      have hcmp := dn.2 _ (List.mem_append_left _ hmem)
      rw [wfn_s hcat]
      have hm8 := pw.1
      have b6 := wm.2.2.2.2.1
      refine (ic_155 my hRm e65 (by omega) ((pm.2.1 _ cm).2.2.2 k hk).2.2.1 hcmp).mono (fun r g z => ?_)
      exact ⟨z.1, z.2.1, z.2.2⟩
    · rw [wfn_n hcat, nI_c0]
      refine ic_222 (k0 := 0) (T := T) (hn := (C n).2.2.2.2.2) (by omega) 100000 0 h (by omega) (by have : T.1 ≤ 60 := mt.1.2.2; omega) lm (by rw [hdT_id]; exact mt) b4 e47 (fun g m2 e2 f2 => ?_)
      have nF : ∀ k, k ≠ 47 → ¬ (fun k => k = 47) k := fun k z => z
      refine (ih fu (lgT T (C n).2.2.2.2.2) g (by omega) (fun c hcn => hc c (by omega)) ⟨lm.fm f2, pm.fm f2 (fun b _ _ => by omega) ⟨by decide, by decide, by decide⟩, m2, ⟨e2, by show n ≤ 6; omega⟩, fun c hcn => ?_, mk.fm f2 ⟨by decide, by decide, by decide, by decide⟩⟩ ?_ ?_).mono (fun r g' z => ⟨z.1, z.2.1, (f2.mono (fun k z => by unfold FWk; omega) (fun b z => by unfold AW; omega)).trans z.2.2⟩)
      · have hcn : c < n := hcn
        have y := mc c (by show c < n + 1; omega)
        exact ⟨fun _ => (y.1 (by show c + 1 < n + 1; omega)).fm f2 (fun b _ _ => by omega), y.2.fm f2 (fun b _ _ => by omega)⟩
      · rw [(f2.2.2.2.2 65 (by decide)).1]; exact e65
      · rw [(f2.2.2.2.2 56 (by decide)).1, (f2.2.2.2.2 57 (by decide)).1, (f2.2.2.2.2 58 (by decide)).1]; exact e56
theorem my_T {h g : Hp} {F A : Nat → Prop} {N : Nat × (Nat → Cl)} {T T' : Th} {R : (Int32 × Int32 × Int32) × (Nat × Nat × Nat) × Int64} (my : MY h q P tt (N, T, R)) (f : Fm q F A h g) (hF : ∀ k, F k → k = 40 ∨ k = 46 ∨ (56 ≤ k ∧ k ≤ 59) ∨ (63 ≤ k ∧ k ≤ 66)) (hA : ∀ b, A b → q + 33 ≤ b ∧ b ≤ q + 37) (mt : MTh g q T') : MY g q P tt (N, T', R) := by
  obtain ⟨v1, v2, v3, v4, v5, v6⟩ := my
  have nF : ∀ k, ¬ (k = 40 ∨ k = 46 ∨ (56 ≤ k ∧ k ≤ 59) ∨ (63 ≤ k ∧ k ≤ 66)) → ¬ F k := fun k a z => a (hF k z)
  have nA : ∀ b, ¬ (q + 33 ≤ b ∧ b ≤ q + 37) → ¬ A b := fun b a z => a (hA b z)
  exact ⟨v1.fm f, v2.fm f (fun b _ _ => nA _ (by omega)) ⟨nF 0 (by omega), nF 15 (by omega), nF 17 (by omega)⟩, mt, ⟨by rw [(f.2.2.2.2 47 (nF 47 (by omega))).1]; exact v4.1, v4.2⟩, fun c hc => ⟨fun z => ((v5 c hc).1 z).fm f (fun b _ _ => nA b (by omega)), (v5 c hc).2.fm f (fun b _ _ => nA b (by omega))⟩, v6.fm f ⟨nF 55 (by omega), nF 60 (by omega), nF 61 (by omega), nF 62 (by omega)⟩⟩
def F65 : Nat → Prop := fun k => k = 40 ∨ k = 46 ∨ k = 56 ∨ k = 57 ∨ k = 58 ∨ k = 65
theorem nI_m2 {t : Nat} (h : t < 2 ^ 31) : ¬ nI t = -2 := fun e => by
  have e := congrArg Int32.toInt e
  rw [nI_tI h, show (-2 : Int32).toInt = -2 from by decide] at e
  omega
theorem m_caught (pw : PW P) (st : ST P tt) {h : Hp} {k n f : Nat} {th : Option Nat} {C : Nat → Cl} {T : Th} {R : (Int32 × Int32 × Int32) × (Nat × Nat × Nat) × Int64} (wi : WI P tt k ((n + 1, C), T, R)) (hRm : R.1 = (-1, -1, -1)) (my : MY h q P tt ((n + 1, C), T, R)) (e64 : hI h q 64 = nI f) (e65 : hI h q 65 = o2m th) (hth : ∀ t, th = some t → t < T.1) : Ok (FX12_isCaught (some q) h) (IcQ q P tt h (w_raise P ((n + 1, C), T, R) f th (C n).1 (C n).2.1)) := by
  obtain ⟨lm, pm, mt, ⟨e47, n6⟩, mc, mk⟩ := id my
  have n6 : n + 1 ≤ 6 := n6
  have e47 : hI h q 47 = nI (n + 1) := e47
  have n60 : T.1 ≤ 60 := mt.1.2.2
  obtain ⟨mt0, ⟨mr1, mt1⟩, ⟨mr2, mt2⟩, ⟨mr3, mt3⟩, ⟨mr4, mt4⟩, ⟨mr5, mt5⟩, ⟨mr6, mt6⟩, ⟨mr7, mt7⟩, ⟨mr8, mt8⟩, ⟨mr9, mt9⟩, ⟨mr10, mt10⟩, ⟨mr11, mt11⟩, ⟨mr12, mt12⟩, ⟨mr13, mt13⟩, ⟨mr14, mt14⟩, ⟨mr15, mt15⟩, ⟨mr16, mt16⟩, ⟨mr17, mt17⟩, ⟨mr18, mt18⟩, ⟨mr19, mt19⟩, ⟨mr20, mt20⟩, ⟨mr21, mt21⟩, ⟨mr22, mt22⟩, ⟨mr23, mt23⟩, ⟨mr24, mt24⟩, ⟨mr25, mt25⟩, ⟨mr26, mt26⟩, ⟨mr27, mt27⟩, ⟨mr28, mt28⟩, ⟨mr29, mt29⟩, ⟨mr30, mt30⟩, ⟨mr31, mt31⟩, ⟨mr32, mt32⟩, ⟨mr33, mt33⟩, ⟨mr34, mt34⟩, ⟨mr35, mt35⟩, ⟨mr36, mt36⟩, ⟨mr37, mt37⟩, ⟨mr38, mt38⟩, ⟨mr39, mt39⟩, ⟨mr40, mt40⟩, ⟨mr41, mt41⟩, ⟨mr42, mt42⟩, ⟨mr43, mt43⟩⟩ := id lm
  obtain ⟨⟨b1, b2⟩, b3, b4⟩ := (mc n (by show n < n + 1; omega)).2
  have b1 : hI h (q + 38) n = nI (C n).1 := b1
  have b2 : hI h (q + 39) n = nI (C n).2.1 := b2
  have wj := wi.wj
  have hc : ∀ c, c < n + 1 → (C c).1 < p_nm P ∧ ∃ e, (tt (C c).1).1 (C c).2.1 = some e := fun c hc => ⟨(wj.2.2.1 c hc).1.1, (wj.2.2.1 c hc).2⟩
  unfold FX12_isCaught
  rw [gI_ok mt0, e64, pI_ok mt0]
  have k1 : ∀ {x : Hp}, x = wI h q 56 (nI f) → hT x q = some (.inl 11) ∧ hR x q 49 = some (q + 39) ∧ hT x (q + 39) = some (.inr (.int, 6)) ∧ hI x q 47 = nI (n + 1) ∧ hI x (q + 39) n = nI (C n).2.1 := fun e => by subst e; exact ⟨mt0, mr39, mt39, by rw [hI_wI_k (by decide)]; exact e47, by rw [hI_wI_a (by omega)]; exact b2⟩
  obtain ⟨a1, a2, a3, a4, a5⟩ := k1 rfl
  rw [gR_ok a1, a2, gI_ok a1, a4, nI_pred, aI_n a3 (by omega) (by decide), a5, pI_ok a1]
  have k2 : ∀ {x : Hp}, x = wI (wI h q 56 (nI f)) q 57 (nI (C n).2.1) → hT x q = some (.inl 11) ∧ hR x q 48 = some (q + 38) ∧ hT x (q + 38) = some (.inr (.int, 6)) ∧ hI x q 47 = nI (n + 1) ∧ hI x (q + 38) n = nI (C n).1 := fun e => by subst e; exact ⟨mt0, mr38, mt38, by rw [hI_wI_k (by decide)]; exact a4, by rw [hI_wI_a (by omega), hI_wI_a (by omega)]; exact b1⟩
  obtain ⟨c1, c2, c3, c4, c5⟩ := k2 rfl
  rw [gR_ok c1, c2, gI_ok c1, c4, nI_pred, aI_n c3 (by omega) (by decide), c5, pI_ok c1]
  have f3 : Fm q F65 (fun _ => False) h (wI (wI (wI h q 56 (nI f)) q 57 (nI (C n).2.1)) q 58 (nI (C n).1)) := ((Fm.fI (by unfold F65; omega)).trans (Fm.fI (by unfold F65; omega))).trans (Fm.fI (by unfold F65; omega))
  have f3' : Fm q F62 (fun _ => False) h (wI (wI (wI h q 56 (nI f)) q 57 (nI (C n).2.1)) q 58 (nI (C n).1)) := ((Fm.fI (by unfold F62; omega)).trans (Fm.fI (by unfold F62; omega))).trans (Fm.fI (by unfold F62; omega))
  have g56 : hI (wI (wI (wI h q 56 (nI f)) q 57 (nI (C n).2.1)) q 58 (nI (C n).1)) q 56 = nI f := by rw [hI_wI_k (by decide), hI_wI_k (by decide)]; exact hI_wI_s
  have g57 : hI (wI (wI (wI h q 56 (nI f)) q 57 (nI (C n).2.1)) q 58 (nI (C n).1)) q 57 = nI (C n).2.1 := by rw [hI_wI_k (by decide)]; exact hI_wI_s
  have g58 : hI (wI (wI (wI h q 56 (nI f)) q 57 (nI (C n).2.1)) q 58 (nI (C n).1)) q 58 = nI (C n).1 := hI_wI_s
  generalize wI (wI (wI h q 56 (nI f)) q 57 (nI (C n).2.1)) q 58 (nI (C n).1) = g at f3 f3' g56 g57 g58 ⊢
  have fF : ∀ k, F65 k → k = 40 ∨ k = 46 ∨ (56 ≤ k ∧ k ≤ 59) ∨ (63 ≤ k ∧ k ≤ 66) := fun k z => by unfold F65 at z; omega
  have fK : ∀ k, F65 k → FWk k := fun k z => by unfold F65 at z; unfold FWk; omega
  have mtg : MTh g q T := mt.fm f3' ⟨by unfold F62; omega, by unfold F62; omega⟩ (fun _ _ _ z => z)
  have myg : MY g q P tt ((n + 1, C), T, R) := my_T my f3 fF (fun _ z => z.elim) mtg
  have tg : hT g q = some (.inl 11) := myg.1.1
  have e65g : hI g q 65 = o2m th := by rw [(f3'.2.2.2.2 65 (by unfold F62; omega)).1]; exact e65
  have ffk : Fm q FWk (AW q) h g := f3.mono fK (fun _ z => z.elim)
  -- the thing is known: the calls
  have go : ∀ (g1 : Hp) (T' : Th) (x : Int32), MY g1 q P tt ((n + 1, C), T', R) → Fm q F65 (AT5 q) g g1 → (∀ k, k = 56 ∨ k = 57 ∨ k = 58 → hI g1 q k = hI g q k) → Ok (BX12_isCaught_72 (some q) (nI f) (some q) x g1) (IcQ q P tt h (w_fn P ((n + 1, C), T', R) f (Int32.toInt64 x) (C n).1 (C n).2.1)) := by
    intro g1 T' x my1 f1 ek
    unfold BX12_isCaught_72
    rw [pI_ok my1.1.1]
    have f2 : Fm q F65 (fun _ => False) g1 (wI g1 q 65 x) := Fm.fI (by unfold F65; omega)
    have f2' : Fm q (fun k => k = 65) (fun _ => False) g1 (wI g1 q 65 x) := Fm.fI rfl
    have my2 : MY (wI g1 q 65 x) q P tt ((n + 1, C), T', R) := my_T my1 f2 fF (fun _ z => z.elim) (my1.2.2.1.fm f2' ⟨by decide, by decide⟩ (fun _ _ _ z => z))
    refine (ic_75 pw st hRm (n + 1) 100000 T' (wI g1 q 65 x) (by omega) hc my2 hI_wI_s ⟨?_, ?_, ?_⟩).mono (fun r g' z => ⟨z.1, z.2.1, (ffk.trans ((f1.trans (f2.mono (fun _ z => z) (fun _ z => z.elim))).mono fK (fun b z => by unfold AT5 at z; unfold AW; omega))).trans z.2.2⟩)
    · rw [hI_wI_k (by decide), ek 56 (by omega)]; exact g56
    · rw [hI_wI_k (by decide), ek 57 (by omega)]; exact g57
    · rw [hI_wI_k (by decide), ek 58 (by omega)]; exact g58
  unfold w_raise
  rw [gI_ok tg, e65g]
  cases th with
  | some t =>
    have ht := hth t rfl
    show Ok (if nI t = -2 then _ else _) (IcQ q P tt h (w_fn P ((n + 1, C), T, R) f (lN t) (C n).1 (C n).2.1))
    rw [if_neg (nI_m2 (by omega)), ← nI_l8 (show t < 2 ^ 31 by omega)]
    exact (ic_75 pw st hRm (n + 1) 100000 T g (by omega) hc myg e65g ⟨g56, g57, g58⟩).mono (fun r g' z => ⟨z.1, z.2.1, ffk.trans z.2.2⟩)
  | none =>
    show Ok (if (-2 : Int32) = -2 then _ else _) _
    rw [if_pos rfl, gI_ok tg, mtg.1.1, nl_60, if_eq (by omega) (by decide)]
    unfold w_ft
    dsimp only
    by_cases c60 : T.1 = 60
    · rw [if_pos c60, if_pos c60]
      exact go g T (-1) myg Fm.refl (fun _ _ => rfl)
    · rw [if_neg c60, if_neg c60, rcv_ok tg, nI_c0, Int32.sub_eq_add_neg, Int32.add_comm]
      refine ok_cl (m_new myg.1 mtg (by omega) (-100 + nI f) (z := 0) (by omega)) (fun r g1 z => ?_)
      obtain ⟨z1, z2, z3⟩ := z
      rw [z1]
      have z3' : Fm q F65 (AT5 q) g g1 := z3.mono (fun k z => by unfold FT at z; unfold F65; omega) (fun _ z => z)
      have := go g1 (addT T (-100 + nI f) 0) (nI T.1) (my_T myg z3' fF (fun b z => z) z2) z3' (fun k hk => (z3.2.2.2.2 k (by unfold FT; omega)).1)
      rw [nI_l8 (show T.1 < 2 ^ 31 by omega)] at this
      exact this
end IC
