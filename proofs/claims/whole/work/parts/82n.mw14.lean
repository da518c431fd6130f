/-! the model: one operation of the uppermost call -/
section MS
variable {q : Nat} {P : Pg} {tt : Nat → Tab}
theorem jtg_A {m i : Nat} (h : j_tg P m i = true) (hop : p_op P m i = 20 ∨ p_op P m i = 21 ∨ p_op P m i = 22) (hn : p_no P m ≤ 60) : ∃ a, a < 60 ∧ p_A P m i = nI a := by
  unfold j_tg at h
  rw [if_pos hop, Bool.and_eq_true, Bool.and_eq_true] at h
  obtain ⟨a, ha, ea, -⟩ := wi_ex (by omega) h.1.1
  exact ⟨a, by omega, ea⟩
theorem mb_begin (pw : PW P) (st : ST P tt) {h : Hp} {k n : Nat} {C : Nat → Cl} {T : Th} {R : (Int32 × Int32 × Int32) × (Nat × Nat × Nat) × Int64} (wi : WI P tt k ((n + 1, C), T, R)) (hk : k < 2 ^ 31) (mw : MW h q P tt ((n + 1, C), T, R)) (e64 : hI h q 64 = -1) (e65 : hI h q 65 = -2) : Ok (FX12_begin (some q) (nI n) h) (MgQ q P tt h n ((n + 1, C), T, R)) := by
  obtain ⟨f1, f2, f3, f4, f5, f6⟩ := top_f pw st wi
  obtain ⟨th, ⟨n6, hRR⟩, ci, tp, sp⟩ := id wi
  have n6 : n + 1 ≤ 6 := n6
  have th : TH T := th
  have c0 : CI P tt T k (C n) := ci n (by show n < n + 1; omega)
  have wm := pw.2.2.2.1 _ f1
  have hm8 : (C n).1 < 8 := by have := pw.1; omega
  have hno := wm.2.2.2.1
  obtain ⟨lm, pm, mt, ⟨e47, -⟩, mc, mk, mf⟩ := id mw
  have mt : MTh h q T := mt
  obtain ⟨⟨mc1, mc2⟩, mcs, mcl, mch⟩ : MCa h q tt n (C n) := mc n (by show n < n + 1; omega)
  obtain ⟨v6, v7, v8⟩ := (pm.2.1 _ f1).2.2.1 _ f2
  have hop36 := wm.2.2.2.2.2.2.2.1 _ f2
  obtain ⟨hod, htg, e, htk, h57, h34, hput, hS12, hnx⟩ := j_own_0 f5.1
  have cmp := f5.2
  rw [hput] at cmp
  rw [f6] at htk h57 cmp
  have htk : j_take P (p_op P (C n).1 (C n).2.1) (cN (p_A P (C n).1 (C n).2.1)) (cN (p_B P (C n).1 (C n).2.1)) (C n).2.2.1 ((tt (C n).1).2.1 (C n).2.1) = some e := htk
  have h57 : ¬ (p_op P (C n).1 (C n).2.1 = 5 ∧ ¬ (tt (C n).1).2.2.1 (C n).2.1 (cN (p_A P (C n).1 (C n).2.1)) = cN (p_B P (C n).1 (C n).2.1) ∨ p_op P (C n).1 (C n).2.1 = 7 ∧ ¬ (tt (C n).1).2.2.1 (C n).2.1 (cN (p_A P (C n).1 (C n).2.1)) = 0) := h57
  have cmp : ∀ x ∈ j_on P (C n).1 (C n).2.1 (j_put P (p_op P (C n).1 (C n).2.1) (cN (p_A P (C n).1 (C n).2.1)) (cN (p_B P (C n).1 (C n).2.1)) e ((tt (C n).1).2.1 (C n).2.1) ((tt (C n).1).2.2.1 (C n).2.1)), Cmp (tt (C n).1) x.1 x.2 := fun x hx => cmp x (List.mem_append_right _ hx)
  obtain ⟨mt0, ⟨mr1, mt1⟩, ⟨mr2, mt2⟩, ⟨mr3, mt3⟩, ⟨mr4, mt4⟩, ⟨mr5, mt5⟩, ⟨mr6, mt6⟩, ⟨mr7, mt7⟩, ⟨mr8, mt8⟩, ⟨mr9, mt9⟩, ⟨mr10, mt10⟩, ⟨mr11, mt11⟩, ⟨mr12, mt12⟩, ⟨mr13, mt13⟩, ⟨mr14, mt14⟩, ⟨mr15, mt15⟩, ⟨mr16, mt16⟩, ⟨mr17, mt17⟩, ⟨mr18, mt18⟩, ⟨mr19, mt19⟩, ⟨mr20, mt20⟩, ⟨mr21, mt21⟩, ⟨mr22, mt22⟩, ⟨mr23, mt23⟩, ⟨mr24, mt24⟩, ⟨mr25, mt25⟩, ⟨mr26, mt26⟩, ⟨mr27, mt27⟩, ⟨mr28, mt28⟩, ⟨mr29, mt29⟩, ⟨mr30, mt30⟩, ⟨mr31, mt31⟩, ⟨mr32, mt32⟩, ⟨mr33, mt33⟩, ⟨mr34, mt34⟩, ⟨mr35, mt35⟩, ⟨mr36, mt36⟩, ⟨mr37, mt37⟩, ⟨mr38, mt38⟩, ⟨mr39, mt39⟩, ⟨mr40, mt40⟩, ⟨mr41, mt41⟩, ⟨mr42, mt42⟩, ⟨mr43, mt43⟩⟩ := id lm
  unfold FX12_begin
  rw [gR_ok mt0, mr38, aI_n mt38 (by omega) (by decide), mc1, gR_ok mt0, mr39, aI_n mt39 (by omega) (by decide), mc2, gR_ok mt0, mr6, nl_60, pk_mul, nI_add, aI_n mt6 (by omega) (by decide), v6, gR_ok mt0, mr7, aI_n mt7 (by omega) (by decide), v7, gR_ok mt0, mr8, aI_n mt8 (by omega) (by decide), v8, g_in8 hop36, cl_ok, b2i_if]
  have mx : MX h q n P ((C n).1, (C n).2.1, (C n).2.2.1, (C n).2.2.2.1, (C n).2.2.2.2.1, (C n).2.2.2.2.2) ((tt (C n).1).2.1 (C n).2.1) ((tt (C n).1).2.2.1 (C n).2.1) T := ⟨lm, pm, mt, mcs, mcl, mch, ⟨e64, e65⟩, by omega⟩
  have wg : ∀ g, hT g = hT h → hR g = hR h → hT g q = some (.inl 11) ∧ hR g q 49 = some (q + 39) ∧ hT g (q + 39) = some (.inr (.int, 6)) := fun g e1 e2 => by rw [e1, e2]; exact ⟨mt0, mr39, mt39⟩
  by_cases c34 : 34 ≤ p_op P (C n).1 (C n).2.1
  · rw [decide_eq_false (by omega), if_neg (by decide), nl_8, if_lt (by omega) (by decide), if_neg (by omega), nl_20, if_lt (by omega) (by decide), if_neg (by omega), nl_24, if_lt (by omega) (by decide), if_neg (by omega), nl_34, if_lt (by omega) (by decide), if_neg (by omega), rcv_ok mt0]
    rcases (show p_op P (C n).1 (C n).2.1 = 34 ∨ p_op P (C n).1 (C n).2.1 = 35 by omega) with y | y
    · rw [y]
      exact ok_cl (m_leave pw st wi hk mw e64 e65 y) (fun _ g z => ok_some z)
    · rw [y]
      exact ok_cl (m_enter pw st wi mw e64 e65 y) (fun _ g z => ok_some z)
  · have hone : w_one P ((n + 1, C), T, R) n = w_plain P ((n + 1, C), T, R) n (C n) (x_op P (p_op P (C n).1 (C n).2.1) (p_A P (C n).1 (C n).2.1) (p_B P (C n).1 (C n).2.1) (C n) T) := by
      show (if p_op P (C n).1 (C n).2.1 = 34 then _ else if p_op P (C n).1 (C n).2.1 = 35 then _ else _) = _
      rw [if_neg (by omega), if_neg (by omega)]
    have ht30 : 30 < p_op P (C n).1 (C n).2.1 → Ty T.1 4 ((C n).2.2.2.1 ((C n).2.2.1 - 1)) := by
      intro z
      have e4 : j_tk P (p_op P (C n).1 (C n).2.1) (cN (p_A P (C n).1 (C n).2.1)) (cN (p_B P (C n).1 (C n).2.1)) = [4] := by
        rcases (show p_op P (C n).1 (C n).2.1 = 31 ∨ p_op P (C n).1 (C n).2.1 = 32 ∨ p_op P (C n).1 (C n).2.1 = 33 by omega) with y | y | y <;> rw [y] <;> rfl
      unfold j_take at htk
      rw [if_neg (by omega), e4] at htk
      obtain ⟨a1, a2, -⟩ := tk_hd htk
      have w4 : wd 4 = 1 := rfl
      have := f4 ((C n).2.2.1 - wd 4) (by omega)
      rw [a2] at this
      exact this
    have hxf := fun fl => xop_f (fl := fl) (P := P) (op := p_op P (C n).1 (C n).2.1) (A := p_A P (C n).1 (C n).2.1) (B := p_B P (C n).1 (C n).2.1) (m := (C n).1) (i := (C n).2.1) (d := (C n).2.2.1) (s := (C n).2.2.2.1) (l := (C n).2.2.2.2.1) (hn := (C n).2.2.2.2.2) th (by omega) ht30
    have hxT := fun fl => xop_fT (fl := fl) (P := P) (op := p_op P (C n).1 (C n).2.1) (A := p_A P (C n).1 (C n).2.1) (B := p_B P (C n).1 (C n).2.1) (x := C n) (T := T)
    have hxo := xop_ok (P := P) (m := (C n).1) (i := (C n).2.1) (d := (C n).2.2.1) (s := (C n).2.2.2.1) (l := (C n).2.2.2.2.1) (hn := (C n).2.2.2.2.2) (T := T) (e := e) (B := p_B P (C n).1 (C n).2.1) (σ := (tt (C n).1).2.1 (C n).2.1) (lk := (tt (C n).1).2.2.1 (C n).2.1) rfl rfl th (show p_op P (C n).1 (C n).2.1 < 34 by omega) hod htk h57 f3 f4 c0.2.2.1 c0.2.2.2.1
    have hxm := xop_m (P := P) (op := p_op P (C n).1 (C n).2.1) (A := p_A P (C n).1 (C n).2.1) (B := p_B P (C n).1 (C n).2.1) (x := C n) (T := T)
    have hxn := xop_nx (P := P) (op := p_op P (C n).1 (C n).2.1) (A := p_A P (C n).1 (C n).2.1) (B := p_B P (C n).1 (C n).2.1) (c := C n) (T := T)
    have hx0 := xop_no (P := P) (op := p_op P (C n).1 (C n).2.1) (A := p_A P (C n).1 (C n).2.1) (B := p_B P (C n).1 (C n).2.1) (c := C n) (T := T)
    have eC : ((C n).1, (C n).2.1, (C n).2.2.1, (C n).2.2.2.1, (C n).2.2.2.2.1, (C n).2.2.2.2.2) = C n := rfl
    have pMov := fun (y : 8 ≤ p_op P (C n).1 (C n).2.1) (y2 : p_op P (C n).1 (C n).2.1 ≤ 16) => mw_moves (A := p_A P (C n).1 (C n).2.1) (B := p_B P (C n).1 (C n).2.1) (e := e) mx y y2 htk f3
    have htk' : ¬ (8 ≤ p_op P (C n).1 (C n).2.1 ∧ p_op P (C n).1 (C n).2.1 ≤ 16) → takeL ((tt (C n).1).2.1 (C n).2.1) (j_tk P (p_op P (C n).1 (C n).2.1) (cN (p_A P (C n).1 (C n).2.1)) (cN (p_B P (C n).1 (C n).2.1))) (C n).2.2.1 = some e := by
      intro z
      unfold j_take at htk
      rw [if_neg z] at htk
      exact htk
    have pPl := fun (y : p_op P (C n).1 (C n).2.1 < 8) => m_plain mx pw y hod (htk' (by omega)) h57 f3
    have pNu := fun (y : 17 ≤ p_op P (C n).1 (C n).2.1) (y2 : p_op P (C n).1 (C n).2.1 ≤ 19) => m_number mx y y2 hod (htk' (by omega)) f3 f4
    have pLe := fun (y : 20 ≤ p_op P (C n).1 (C n).2.1) (y2 : p_op P (C n).1 (C n).2.1 ≤ 23) => m_leads mx pw y y2 hod (fun z => jtg_A htg (by omega) hno) (htk' (by omega)) f3 f4 th.1
    have hsm := c0.2.2.2.2
    have pTh := fun (y : 24 ≤ p_op P (C n).1 (C n).2.1) (y2 : p_op P (C n).1 (C n).2.1 ≤ 33) => m_thing mx th y y2 hod (htk' (by omega)) f3 f4 (by omega)
    rw [eC] at hxf hxo pMov pPl pNu pLe pTh
    generalize j_put P (p_op P (C n).1 (C n).2.1) (cN (p_A P (C n).1 (C n).2.1)) (cN (p_B P (C n).1 (C n).2.1)) e ((tt (C n).1).2.1 (C n).2.1) ((tt (C n).1).2.2.1 (C n).2.1) = S at hxo cmp pMov pPl pNu pLe pTh
    generalize x_op P (p_op P (C n).1 (C n).2.1) (p_A P (C n).1 (C n).2.1) (p_B P (C n).1 (C n).2.1) (C n) T = X at hxf hxT hxo hxm hxn hx0 hone pMov pPl pNu pLe pTh
    have finO : ∀ g, MRz q n h ((tt (C n).1).2.2.1 (C n).2.1) (C n) S X g → X.1 = none → MgQ q P tt h n ((n + 1, C), T, R) () (wI g (q + 39) n (nI X.2.1.2.1)) := by
      intro g mr hX
      obtain ⟨o1, o2, o3, o4, o5, o6, o7, o8⟩ := hxo hX
      obtain ⟨m1, m2, m3⟩ := mb_ok mw mr hX hxm o3 (cmp _ o8)
      refine ⟨m1, Or.inl ⟨m2, ?_, by rw [hone]; unfold w_plain; rw [hX]⟩⟩
      rw [hone]
      unfold w_plain
      rw [hX]
      exact m3
    have finN : ∀ g fl, MRz q n h ((tt (C n).1).2.2.1 (C n).2.1) (C n) S X g → X.1 = some fl → MgQ q P tt h n ((n + 1, C), T, R) () (wI g (q + 39) n (nI (C n).2.1)) := by
      intro g fl mr hX
      obtain ⟨z1, z2⟩ := hxf fl hX
      have z3 := hxT fl hX
      obtain ⟨m1, m2, m3, m4⟩ := mb_no mw mr hX z3
      refine ⟨m1, Or.inr ⟨fl.1, fl.2, z1, m2, m3, z2, m4, ?_⟩⟩
      rw [hone]
      unfold w_plain
      rw [hX, z3]
    have rd : ∀ g, MRz q n h ((tt (C n).1).2.2.1 (C n).2.1) (C n) S X g → (hT g q = some (.inl 11) ∧ hR g q 49 = some (q + 39) ∧ hT g (q + 39) = some (.inr (.int, 6))) ∧ hI g (q + 39) n = nI (C n).2.1 := fun g mr => ⟨wg g mr.1.1 mr.1.2.1, by rw [mr.2.2.1.2]; exact mc2⟩
    have incr : ∀ g, MRz q n h ((tt (C n).1).2.2.1 (C n).2.1) (C n) S X g → X.1 = none → X.2.1.2.1 = (C n).2.1 + 1 → Ok (gR g (some q) 11 49 fun v62 => aI g v62 .int (nI n) fun v66 => sI g v62 (nI n) (v66 + 1) fun h72 => some ((), h72)) (MgQ q P tt h n ((n + 1, C), T, R)) := by
      intro g mr hX hn
      obtain ⟨⟨r1, r2, r3⟩, r4⟩ := rd g mr
      rw [gR_ok r1, r2, aI_n r3 (by omega) (by decide), r4, nI_1, sI_n r3 (by omega) (by decide), ← hn]
      exact ok_some (finO g mr hX)
    have incr2 : ∀ g, MRz q n h ((tt (C n).1).2.2.1 (C n).2.1) (C n) S X g → (X.1 = none → X.2.1.2.1 = (C n).2.1 + 1) → Ok (gR g (some q) 11 49 fun v62 => aI g v62 .int (nI n) fun v66 => gI g (some q) 11 64 fun v96 => if v96 = -1 then sI g v62 (nI n) (v66 + 1) fun h72 => some ((), h72) else sI g v62 (nI n) (v66 + 0) fun h72 => some ((), h72)) (MgQ q P tt h n ((n + 1, C), T, R)) := by
      intro g mr hn
      obtain ⟨⟨r1, r2, r3⟩, r4⟩ := rd g mr
      rw [gR_ok r1, r2, aI_n r3 (by omega) (by decide), r4, gI_ok r1]
      cases hX : X.1 with
      | none =>
        have e64g : hI g q 64 = -1 := by
          have := mr.2.2.2.2
          rw [hX] at this
          exact this.1
        rw [e64g, if_pos rfl, nI_1, sI_n r3 (by omega) (by decide), ← hn hX]
        exact ok_some (finO g mr hX)
      | some fl =>
        obtain ⟨z1, z2⟩ := hxf fl hX
        have e64g : hI g q 64 = nI fl.1 := by
          have := mr.2.2.2.2
          rw [hX] at this
          exact this.1
        rw [e64g, ie_m (by omega), Int32.add_zero, sI_n r3 (by omega) (by decide)]
        exact ok_some (finN g fl mr hX)
    by_cases c816 : 8 ≤ p_op P (C n).1 (C n).2.1 ∧ p_op P (C n).1 (C n).2.1 ≤ 16
    · rw [decide_eq_true c816, if_pos rfl, rcv_ok mt0]
      exact ok_cl (pMov c816.1 c816.2) (fun _ g mr => incr g mr (hx0 (by omega)) (hxn (by omega) (hx0 (by omega))))
    · rw [decide_eq_false c816, if_neg (by decide), nl_8, if_lt (by omega) (by decide)]
      by_cases c8 : p_op P (C n).1 (C n).2.1 < 8
      · rw [if_pos c8, rcv_ok mt0]
        exact ok_cl (pPl c8) (fun _ g mr => incr g mr (hx0 (by omega)) (hxn (by omega) (hx0 (by omega))))
      · rw [if_neg c8, nl_20, if_lt (by omega) (by decide)]
        by_cases c20 : p_op P (C n).1 (C n).2.1 < 20
        · rw [if_pos c20, rcv_ok mt0]
          exact ok_cl (pNu (by omega) (by omega)) (fun _ g mr => incr2 g mr (hxn (by omega)))
        · rw [if_neg c20, nl_24, if_lt (by omega) (by decide)]
          by_cases c24 : p_op P (C n).1 (C n).2.1 < 24
          · rw [if_pos c24, gR_ok mt0, mr39, rcv_ok mt0]
            refine ok_cl (pLe (by omega) (by omega)) (fun r g z => ?_)
            obtain ⟨mr, hr⟩ := z
            obtain ⟨⟨r1, r2, r3⟩, r4⟩ := rd g mr
            have hX := hx0 (by omega)
            rcases hr with ⟨rfl, h66⟩ | ⟨rfl, hn⟩
            · rw [if_neg (by decide), gI_ok r1, h66, sI_n r3 (by omega) (by decide)]
              exact ok_some (finO g mr hX)
            · rw [if_pos rfl, gR_ok r1, r2, aI_n r3 (by omega) (by decide), r4, nI_1, sI_n r3 (by omega) (by decide), ← hn]
              exact ok_some (finO g mr hX)
          · rw [if_neg c24, nl_34, if_lt (by omega) (by decide), if_pos (by omega), rcv_ok mt0]
            exact ok_cl (pTh (by omega) (by omega)) (fun _ g mr => incr2 g mr (hxn (by omega)))
end MS
