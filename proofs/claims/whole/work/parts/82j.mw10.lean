/-! the model: a call begins, a call ends -/
def FB : Nat → Prop := fun k => k = 47 ∨ k = 60
def A43 (q : Nat) : Nat → Prop := fun b => b = q + 38 ∨ b = q + 39 ∨ b = q + 40 ∨ b = q + 43
section BC
variable {q : Nat} {P : Pg} {tt : Nat → Tab}
theorem fo_43 {h : Hp} {c k : Nat} {v : Int32} (hk : k < 60) : Fo2 q c h (wI h (q + 43) (60 * c + k) v) := fun x hx => ⟨⟨by rw [hI_wI_a (by omega)], by rw [hI_wI_a (by omega)], by rw [hI_wI_a (by omega)]⟩, fun _ _ => rfl, fun _ _ => rfl, fun t ht => hI_wI_k (by omega)⟩
theorem bc_28 {n cm : Nat} (n6 : n < 6) : ∀ (f k : Nat) (h : Hp), k ≤ 60 → 60 - k < f → LM (hT h) (hR h) q → hI h q 47 = nI n → hI h q 60 = nI cm → (∀ t, t < k → hI h (q + 43) (60 * n + t) = nI 0) → Ok (BX12_beginCall_28 f (some q) (nI n) (nI k) h) (fun _ g => (∀ t, t < 60 → hI g (q + 43) (60 * n + t) = nI 0) ∧ hI g q 47 = nI (n + 1) ∧ hI g q 60 = nI (cm + 1) ∧ Fm q FB (A43 q) h g ∧ Fo2 q n h g ∧ ∀ b, b ≠ q → b ≠ q + 43 → hI g b = hI h b) := by
  intro f
  induction f with
  | zero => intro k h h1 h2; omega
  | succ f ih =>
    intro k h h1 h2 lm e47 e60 hz
    obtain ⟨mt0, ⟨mr1, mt1⟩, ⟨mr2, mt2⟩, ⟨mr3, mt3⟩, ⟨mr4, mt4⟩, ⟨mr5, mt5⟩, ⟨mr6, mt6⟩, ⟨mr7, mt7⟩, ⟨mr8, mt8⟩, ⟨mr9, mt9⟩, ⟨mr10, mt10⟩, ⟨mr11, mt11⟩, ⟨mr12, mt12⟩, ⟨mr13, mt13⟩, ⟨mr14, mt14⟩, ⟨mr15, mt15⟩, ⟨mr16, mt16⟩, ⟨mr17, mt17⟩, ⟨mr18, mt18⟩, ⟨mr19, mt19⟩, ⟨mr20, mt20⟩, ⟨mr21, mt21⟩, ⟨mr22, mt22⟩, ⟨mr23, mt23⟩, ⟨mr24, mt24⟩, ⟨mr25, mt25⟩, ⟨mr26, mt26⟩, ⟨mr27, mt27⟩, ⟨mr28, mt28⟩, ⟨mr29, mt29⟩, ⟨mr30, mt30⟩, ⟨mr31, mt31⟩, ⟨mr32, mt32⟩, ⟨mr33, mt33⟩, ⟨mr34, mt34⟩, ⟨mr35, mt35⟩, ⟨mr36, mt36⟩, ⟨mr37, mt37⟩, ⟨mr38, mt38⟩, ⟨mr39, mt39⟩, ⟨mr40, mt40⟩, ⟨mr41, mt41⟩, ⟨mr42, mt42⟩, ⟨mr43, mt43⟩⟩ := id lm
    unfold BX12_beginCall_28
    rw [nl_60, if_lt (by omega) (by decide)]
    by_cases ck : k < 60
    · rw [if_pos ck, gR_ok mt0, mr43, pk_mul, nI_add, sI_n mt43 (by omega) (by decide), nI_1]
      have f1 : Fm q FB (A43 q) h (wI h (q + 43) (60 * n + k) 0) := Fm.wa (by unfold A43; omega) (by omega)
      have o1 : Fo2 q n h (wI h (q + 43) (60 * n + k) 0) := fo_43 ck
      have z1 : ∀ t, t < k + 1 → hI (wI h (q + 43) (60 * n + k) 0) (q + 43) (60 * n + t) = nI 0 := fun t ht => by
        by_cases z : t = k
        · subst z; exact hI_wI_s
        · rw [hI_wI_k (by omega)]; exact hz t (by omega)
      have k1 : hI (wI h (q + 43) (60 * n + k) 0) q = hI h q := hI_wI_a (by omega)
      have e1 : ∀ b, b ≠ q → b ≠ q + 43 → hI (wI h (q + 43) (60 * n + k) 0) b = hI h b := fun b _ hb => hI_wI_a hb
      generalize wI h (q + 43) (60 * n + k) 0 = g at f1 o1 z1 k1 e1 ⊢
      refine (ih (k + 1) g (by omega) (by omega) (lm.fm f1) (by rw [k1]; exact e47) (by rw [k1]; exact e60) z1).mono (fun _ g2 z => ⟨z.1, z.2.1, z.2.2.1, f1.trans z.2.2.2.1, o1.trans z.2.2.2.2.1, fun b h1 h2 => (z.2.2.2.2.2 b h1 h2).trans (e1 b h1 h2)⟩)
    · rw [if_neg ck, gI_ok mt0, e47, nI_1, pI_ok mt0, gI_ok (show hT (wI h q 47 (nI (n + 1))) q = _ from mt0), hI_wI_k (by decide), e60, nI_1, pI_ok (show hT (wI h q 47 (nI (n + 1))) q = _ from mt0)]
      refine ok_some ⟨fun t ht => ?_, ?_, hI_wI_s, (Fm.fI (Or.inl rfl)).trans (Fm.fI (Or.inr rfl)), fo_fI.trans fo_fI, fun b hb _ => ?_⟩
      · rw [hI_wI_a (by omega), hI_wI_a (by omega)]; exact hz t (by omega)
      · rw [hI_wI_k (by decide)]; exact hI_wI_s
      · rw [hI_wI_a hb, hI_wI_a hb]
theorem m_bCall {h : Hp} {n cm a : Nat} (n6 : n < 6) (lm : LM (hT h) (hR h) q) (e47 : hI h q 47 = nI n) (e60 : hI h q 60 = nI cm) : Ok (FX12_beginCall (some q) (nI a) h) (fun _ g => (∀ t, t < 60 → hI g (q + 43) (60 * n + t) = nI 0) ∧ (hI g (q + 38) n = nI a ∧ hI g (q + 39) n = nI 0 ∧ hI g (q + 40) n = nI 0) ∧ hI g q 47 = nI (n + 1) ∧ hI g q 60 = nI (cm + 1) ∧ Fm q FB (A43 q) h g ∧ Fo2 q n h g) := by
  obtain ⟨mt0, ⟨mr1, mt1⟩, ⟨mr2, mt2⟩, ⟨mr3, mt3⟩, ⟨mr4, mt4⟩, ⟨mr5, mt5⟩, ⟨mr6, mt6⟩, ⟨mr7, mt7⟩, ⟨mr8, mt8⟩, ⟨mr9, mt9⟩, ⟨mr10, mt10⟩, ⟨mr11, mt11⟩, ⟨mr12, mt12⟩, ⟨mr13, mt13⟩, ⟨mr14, mt14⟩, ⟨mr15, mt15⟩, ⟨mr16, mt16⟩, ⟨mr17, mt17⟩, ⟨mr18, mt18⟩, ⟨mr19, mt19⟩, ⟨mr20, mt20⟩, ⟨mr21, mt21⟩, ⟨mr22, mt22⟩, ⟨mr23, mt23⟩, ⟨mr24, mt24⟩, ⟨mr25, mt25⟩, ⟨mr26, mt26⟩, ⟨mr27, mt27⟩, ⟨mr28, mt28⟩, ⟨mr29, mt29⟩, ⟨mr30, mt30⟩, ⟨mr31, mt31⟩, ⟨mr32, mt32⟩, ⟨mr33, mt33⟩, ⟨mr34, mt34⟩, ⟨mr35, mt35⟩, ⟨mr36, mt36⟩, ⟨mr37, mt37⟩, ⟨mr38, mt38⟩, ⟨mr39, mt39⟩, ⟨mr40, mt40⟩, ⟨mr41, mt41⟩, ⟨mr42, mt42⟩, ⟨mr43, mt43⟩⟩ := id lm
  unfold FX12_beginCall
  rw [gI_ok mt0, e47, gR_ok mt0, mr38, sI_n mt38 n6 (by decide), gR_ok (show hT (wI h (q + 38) n (nI a)) q = _ from mt0), show hR (wI h (q + 38) n (nI a)) q 49 = _ from mr39, sI_n (show hT (wI h (q + 38) n (nI a)) (q + 39) = _ from mt39) n6 (by decide), gR_ok (show hT (wI (wI h (q + 38) n (nI a)) (q + 39) n 0) q = _ from mt0), show hR (wI (wI h (q + 38) n (nI a)) (q + 39) n 0) q 50 = _ from mr40, sI_n (show hT (wI (wI h (q + 38) n (nI a)) (q + 39) n 0) (q + 40) = _ from mt40) n6 (by decide)]
  have f1 : Fm q FB (A43 q) h (wI (wI (wI h (q + 38) n (nI a)) (q + 39) n 0) (q + 40) n 0) := ((Fm.wa (by unfold A43; omega) (by omega)).trans (Fm.wa (by unfold A43; omega) (by omega))).trans (Fm.wa (by unfold A43; omega) (by omega))
  have o1 : Fo2 q n h (wI (wI (wI h (q + 38) n (nI a)) (q + 39) n 0) (q + 40) n 0) := (fo_38.trans fo_39).trans fo_40
  have e38 : hI (wI (wI (wI h (q + 38) n (nI a)) (q + 39) n 0) (q + 40) n 0) (q + 38) n = nI a := by rw [hI_wI_a (by omega), hI_wI_a (by omega)]; exact hI_wI_s
  have e39 : hI (wI (wI (wI h (q + 38) n (nI a)) (q + 39) n 0) (q + 40) n 0) (q + 39) n = nI 0 := by rw [hI_wI_a (by omega)]; exact hI_wI_s
  have e40 : hI (wI (wI (wI h (q + 38) n (nI a)) (q + 39) n 0) (q + 40) n 0) (q + 40) n = nI 0 := hI_wI_s
  have eq0 : hI (wI (wI (wI h (q + 38) n (nI a)) (q + 39) n 0) (q + 40) n 0) q = hI h q := by rw [hI_wI_a (by omega), hI_wI_a (by omega), hI_wI_a (by omega)]
  generalize wI (wI (wI h (q + 38) n (nI a)) (q + 39) n 0) (q + 40) n 0 = g at f1 o1 e38 e39 e40 eq0 ⊢
  rw [nI_c0]
  refine (bc_28 n6 100000 0 g (by omega) (by omega) (lm.fm f1) (by rw [eq0]; exact e47) (by rw [eq0]; exact e60) (fun t ht => by omega)).mono (fun _ g2 z => ?_)
  obtain ⟨z1, z2, z3, z4, z5, z6⟩ := z
  exact ⟨z1, ⟨by rw [z6 _ (by omega) (by omega)]; exact e38, by rw [z6 _ (by omega) (by omega)]; exact e39, by rw [z6 _ (by omega) (by omega)]; exact e40⟩, z2, z3, f1.trans z4, o1.trans z5⟩
/-- the shape that a call's end gives to who called -/
theorem ret_cmp (st : ST P tt) {k p : Nat} {C : Nat → Cl} {T : Th} {R : (Int32 × Int32 × Int32) × (Nat × Nat × Nat) × Int64} (wi : WI P tt k ((p + 1 + 1, C), T, R)) : Cmp (tt (C p).1) ((C p).2.1 + 1) (Sx (C p).2.2.1 (p_re P (C (p + 1)).1) ((tt (C p).1).2.1 (C p).2.1) ((tt (C p).1).2.2.1 (C p).2.1)) ∧ (Sx (C p).2.2.1 (p_re P (C (p + 1)).1) ((tt (C p).1).2.1 (C p).2.1) ((tt (C p).1).2.2.1 (C p).2.1)).1 ≤ 12 := by
  obtain ⟨th, ⟨n6, hR⟩, ci, tp, sp⟩ := id wi
  obtain ⟨ep, y1, y2, y3, y4⟩ := sp p (by show p + 1 < p + 1 + 1; omega)
  have y1 : (tt (C p).1).1 (C p).2.1 = some ep := y1
  have y2 : p_op P (C p).1 (C p).2.1 = 35 := y2
  have y3 : cN (p_A P (C p).1 (C p).2.1) = (C (p + 1)).1 := y3
  have y4 : takeL ((tt (C p).1).2.1 (C p).2.1) (argL P (C (p + 1)).1 (p_na P (C (p + 1)).1)) ep = some (C p).2.2.1 := y4
  have cp : CI P tt T k (C p) := ci p (by show p < p + 1 + 1; omega)
  obtain ⟨s1, s2⟩ := st _ cp.1
  obtain ⟨-, -, dn⟩ := s1.1 _ _ y1
  obtain ⟨hod', htg', e', htk', h57', h34', hput', hS12', hnx'⟩ := j_own_0 dn.1
  have cmp' := dn.2
  have sh' : t_sh (tt (C p).1) (C p).2.1 = (ep, (tt (C p).1).2.1 (C p).2.1, (tt (C p).1).2.2.1 (C p).2.1) := by unfold t_sh; rw [y1]; rfl
  rw [hput', sh'] at cmp'
  rw [sh'] at htk'
  have e35 : e' = (C p).2.2.1 := by
    rw [y2, y3] at htk'
    have htk' : takeL ((tt (C p).1).2.1 (C p).2.1) (argL P (C (p + 1)).1 (p_na P (C (p + 1)).1)) ep = some e' := htk'
    rw [y4] at htk'
    injection htk' with htk'
    exact htk'.symm
  subst e35
  have pair := cmp' _ (List.mem_append_right _ (jon_nx rfl (by rw [y2]; omega) _))
  rw [y2, y3, jput_v (by decide) (by decide)] at pair
  have pair : Cmp (tt (C p).1) ((C p).2.1 + 1) (Sx (C p).2.2.1 (p_re P (C (p + 1)).1) ((tt (C p).1).2.1 (C p).2.1) ((tt (C p).1).2.2.1 (C p).2.1)) := pair
  exact ⟨pair, (s1.1 _ _ pair.1).2.1⟩
/-- views at a shape, and at the shape that the table keeps -/
theorem msk_cmp {h : Hp} {c : Nat} {t : Tab} {nx : Nat} {S : Sh} {s : Nat → Int64} (cm : Cmp t nx S) (v : MSk h q c S.1 S.2.1 s) : MSk h q c S.1 (t.2.1 nx) s := ⟨v.1, fun p hp hs => v.2 p hp (by rw [← cm.2.1 p hp]; exact hs)⟩
theorem mlc_cmp {h : Hp} {c : Nat} {t : Tab} {nx : Nat} {S : Sh} {l : Nat → Int64} (cm : Cmp t nx S) (v : MLc h q c S.2.2 l) : MLc h q c (t.2.2.1 nx) l := fun j hj hl => by
  rcases cm.2.2 j hj with y | y
  · omega
  · exact v j hj (by rw [← y]; exact hl)
theorem sm_tl {hn : Nat → Nat} : ∀ (r n : Nat), (∀ t, n ≤ t → t < n + r → hn t = 0) → sm (n + r) hn = sm n hn := by
  intro r
  induction r with
  | zero => intro n _; rfl
  | succ r ih =>
    intro n h
    rw [← Nat.add_assoc, sm_succ, ih n (fun t h1 h2 => h t h1 (by omega)), h (n + r) (by omega) (by omega)]; rfl
/-- is anything held -/
theorem ce_12 {h : Hp} {c : Nat} {x3 : Int32} {T : Th} {hn : Nat → Nat} {Q : Unit → Hp → Prop} (lm : LM (hT h) (hR h) q) (mt : MTh h q T) (hd : MHd h q c hn) (hc : c < 6) (hsm : sm 60 hn < 2 ^ 31) (hz : ∀ t, T.1 ≤ t → t < 60 → hn t = 0) (k0 : sm 60 hn = 0 → Ok (if x3 < 5 then rcv h (some q) 11 <| cl (FX12_take (some q) (nI c) x3 h) fun v20 h21 => BX12_callOrEnd_81 (some q) (nI c) x3 v20 h21 else BX12_callOrEnd_81 (some q) (nI c) x3 0 h) Q) (k1 : 0 < sm 60 hn → Ok (rcv h (some q) 11 <| cl (FX12_fail (some q) 6 h) fun v26 h27 => some ((), h27)) Q) : ∀ (f k : Nat), k ≤ T.1 → T.1 - k < f → Ok (BX12_callOrEnd_12 f (some q) (nI c) x3 (b2i (decide (0 < sm k hn))) (nI k) h) Q := by
  have n60 : T.1 ≤ 60 := mt.1.2.2
  obtain ⟨mt0, ⟨mr1, mt1⟩, ⟨mr2, mt2⟩, ⟨mr3, mt3⟩, ⟨mr4, mt4⟩, ⟨mr5, mt5⟩, ⟨mr6, mt6⟩, ⟨mr7, mt7⟩, ⟨mr8, mt8⟩, ⟨mr9, mt9⟩, ⟨mr10, mt10⟩, ⟨mr11, mt11⟩, ⟨mr12, mt12⟩, ⟨mr13, mt13⟩, ⟨mr14, mt14⟩, ⟨mr15, mt15⟩, ⟨mr16, mt16⟩, ⟨mr17, mt17⟩, ⟨mr18, mt18⟩, ⟨mr19, mt19⟩, ⟨mr20, mt20⟩, ⟨mr21, mt21⟩, ⟨mr22, mt22⟩, ⟨mr23, mt23⟩, ⟨mr24, mt24⟩, ⟨mr25, mt25⟩, ⟨mr26, mt26⟩, ⟨mr27, mt27⟩, ⟨mr28, mt28⟩, ⟨mr29, mt29⟩, ⟨mr30, mt30⟩, ⟨mr31, mt31⟩, ⟨mr32, mt32⟩, ⟨mr33, mt33⟩, ⟨mr34, mt34⟩, ⟨mr35, mt35⟩, ⟨mr36, mt36⟩, ⟨mr37, mt37⟩, ⟨mr38, mt38⟩, ⟨mr39, mt39⟩, ⟨mr40, mt40⟩, ⟨mr41, mt41⟩, ⟨mr42, mt42⟩, ⟨mr43, mt43⟩⟩ := id lm
  intro f
  induction f with
  | zero => intro k h1 h2; omega
  | succ f ih =>
    intro k h1 h2
    unfold BX12_callOrEnd_12
    rw [gI_ok mt0, mt.1.1, if_lt (by omega) (by omega)]
    by_cases ck : k < T.1
    · have hs := sm_succ k hn
      have hk := sm_ge (f := hn) (show k < 60 by omega)
      have yes : 0 < sm (k + 1) hn → Ok (BX12_callOrEnd_41 (BX12_callOrEnd_12 f) (some q) (nI c) x3 (nI k) h) Q := by
        intro z
        have := ih (k + 1) (by omega) (by omega)
        rw [decide_eq_true z] at this
        unfold BX12_callOrEnd_41 BX12_callOrEnd_46
        rw [nI_1]
        exact this
      have no : ¬ 0 < sm (k + 1) hn → Ok (BX12_callOrEnd_46 (BX12_callOrEnd_12 f) (some q) (nI c) x3 (nI k) 0 h) Q := by
        intro z
        have := ih (k + 1) (by omega) (by omega)
        rw [decide_eq_false z] at this
        unfold BX12_callOrEnd_46
        rw [nI_1]
        exact this
      rw [if_pos ck, b2i_if]
      by_cases z : 0 < sm k hn
      · rw [decide_eq_true z, if_pos rfl]
        exact yes (by omega)
      · rw [decide_eq_false z, if_neg (by decide), gR_ok mt0, mr43, nl_60, pk_mul, nI_add, aI_n mt43 (by omega) (by decide), hd k (by omega), ir_0 (by omega)]
        by_cases y : 0 < hn k
        · rw [if_pos y]; exact yes (by omega)
        · rw [if_neg y]; exact no (by omega)
    · have ek : k = T.1 := by omega
      subst ek
      have e60 : sm 60 hn = sm T.1 hn := by
        have := sm_tl (hn := hn) (60 - T.1) T.1 (fun t h1 h2 => hz t h1 (by omega))
        rw [show T.1 + (60 - T.1) = 60 by omega] at this
        exact this
      rw [if_neg ck, b2i_if]
      by_cases z : 0 < sm T.1 hn
      · rw [decide_eq_true z, if_pos rfl]
        exact k1 (by omega)
      · rw [decide_eq_false z, if_neg (by decide)]
        exact k0 (by omega)
end BC
