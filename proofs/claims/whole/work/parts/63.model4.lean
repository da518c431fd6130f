/-! the model: moves and works -/
section MD
variable {h : Hp} {q : Nat} {P : Pg} {d : Nat} {σ l : Nat → Nat}
def MvR (q : Nat) (h : Hp) (d : Nat) (σ l : Nat → Nat) (op : Nat) : Int32 → Hp → Prop := fun r g => Fq q F29 (A27 q) h g ∧ (mok op d σ = true ∧ r = 1 ∧ Mv g q (mvD op d) (mvG op d σ) l ∨ mok op d σ = false ∧ r = 0)
theorem mm_cp (lm : LM (hT h) (hR h) q) (mv : Mv h q d σ l) (hd : d ≤ 12) {op : Nat} (h1 : 10 ≤ op) (h2 : op ≤ 15) : Ok (cl (FX12_copies (some q) (nI (mvU op)) (nI (mvV op)) h) (fun v h1 => bz v (some (v, h1)))) (MvR q h d σ l op) := by
  obtain ⟨b1, b2, b3⟩ := mv_b (show 8 ≤ op by omega) (show op ≤ 16 by omega)
  refine ok_cl (m_copies lm mv b1 b2 b3 hd) (fun r g x => ?_)
  obtain ⟨f, x | x⟩ := x
  · obtain ⟨x1, rfl, x3⟩ := x
    rw [bz_1]
    refine ok_some ⟨f, Or.inl ⟨decide_eq_true x1, rfl, ?_⟩⟩
    unfold mvD mvG
    rw [if_neg (by omega), if_neg (by omega), if_neg (by omega), if_neg (by omega)]
    exact x3
  · obtain ⟨x1, rfl, x3⟩ := x
    rw [bz_0]
    exact ok_some ⟨f, Or.inr ⟨decide_eq_false x1, rfl⟩⟩
theorem m_moves (lm : LM (hT h) (hR h) q) (mv : Mv h q d σ l) (hd : d ≤ 12) {op : Nat} (h1 : 8 ≤ op) (h2 : op ≤ 16) : Ok (FX12_moves (some q) (nI op) h) (MvR q h d σ l op) := by
  have t0 : hT h q = some (.inl 11) := lm.1
  have r30 : hR h q 30 = some (q + 27) := by obtain ⟨mt0, ⟨mr1, mt1⟩, ⟨mr2, mt2⟩, ⟨mr3, mt3⟩, ⟨mr4, mt4⟩, ⟨mr5, mt5⟩, ⟨mr6, mt6⟩, ⟨mr7, mt7⟩, ⟨mr8, mt8⟩, ⟨mr9, mt9⟩, ⟨mr10, mt10⟩, ⟨mr11, mt11⟩, ⟨mr12, mt12⟩, ⟨mr13, mt13⟩, ⟨mr14, mt14⟩, ⟨mr15, mt15⟩, ⟨mr16, mt16⟩, ⟨mr17, mt17⟩, ⟨mr18, mt18⟩, ⟨mr19, mt19⟩, ⟨mr20, mt20⟩, ⟨mr21, mt21⟩, ⟨mr22, mt22⟩, ⟨mr23, mt23⟩, ⟨mr24, mt24⟩, ⟨mr25, mt25⟩, ⟨mr26, mt26⟩, ⟨mr27, mt27⟩, ⟨mr28, mt28⟩, ⟨mr29, mt29⟩, ⟨mr30, mt30⟩, ⟨mr31, mt31⟩, ⟨mr32, mt32⟩, ⟨mr33, mt33⟩, ⟨mr34, mt34⟩, ⟨mr35, mt35⟩, ⟨mr36, mt36⟩, ⟨mr37, mt37⟩, ⟨mr38, mt38⟩, ⟨mr39, mt39⟩, ⟨mr40, mt40⟩, ⟨mr41, mt41⟩, ⟨mr42, mt42⟩, ⟨mr43, mt43⟩⟩ := id lm; exact mr27
  have t27 : hT h (q + 27) = some (.inr (.int, 64)) := by obtain ⟨mt0, ⟨mr1, mt1⟩, ⟨mr2, mt2⟩, ⟨mr3, mt3⟩, ⟨mr4, mt4⟩, ⟨mr5, mt5⟩, ⟨mr6, mt6⟩, ⟨mr7, mt7⟩, ⟨mr8, mt8⟩, ⟨mr9, mt9⟩, ⟨mr10, mt10⟩, ⟨mr11, mt11⟩, ⟨mr12, mt12⟩, ⟨mr13, mt13⟩, ⟨mr14, mt14⟩, ⟨mr15, mt15⟩, ⟨mr16, mt16⟩, ⟨mr17, mt17⟩, ⟨mr18, mt18⟩, ⟨mr19, mt19⟩, ⟨mr20, mt20⟩, ⟨mr21, mt21⟩, ⟨mr22, mt22⟩, ⟨mr23, mt23⟩, ⟨mr24, mt24⟩, ⟨mr25, mt25⟩, ⟨mr26, mt26⟩, ⟨mr27, mt27⟩, ⟨mr28, mt28⟩, ⟨mr29, mt29⟩, ⟨mr30, mt30⟩, ⟨mr31, mt31⟩, ⟨mr32, mt32⟩, ⟨mr33, mt33⟩, ⟨mr34, mt34⟩, ⟨mr35, mt35⟩, ⟨mr36, mt36⟩, ⟨mr37, mt37⟩, ⟨mr38, mt38⟩, ⟨mr39, mt39⟩, ⟨mr40, mt40⟩, ⟨mr41, mt41⟩, ⟨mr42, mt42⟩, ⟨mr43, mt43⟩⟩ := id lm; exact mt27
  obtain ⟨⟨v1, v2⟩, v3, v4⟩ := id mv
  have drop : ∀ n, 1 ≤ n → n ≤ 2 → nI op - 7 = nI n → mvU op = n → mvV op = 0 → op ≤ 9 → Ok (BX12_moves_48 (some q) (nI op) h) (MvR q h d σ l op) := by
    intro n n1 n2 e7 eU eV ho
    unfold BX12_moves_48
    rw [rcv_ok t0, e7, m_whole lm mv n1 (by omega), cl_ok, b2i_if]
    have em : mok op d σ = decide (n ≤ d ∧ σ (d - n) < 6) := by
      unfold mok
      rw [eU, eV]
      congr 1
      apply propext
      exact ⟨fun z => ⟨by omega, z.2.2⟩, fun z => ⟨by omega, z.2, z.2⟩⟩
    by_cases c : n ≤ d ∧ σ (d - n) < 6
    · rw [decide_eq_true c, if_pos rfl, gI_ok t0, v1, pk_sub c.1, pI_ok t0, bz_1]
      refine ok_some ⟨q29w, Or.inl ⟨by rw [em, decide_eq_true c], rfl, ?_⟩⟩
      unfold mvD mvG
      rw [if_pos ho, if_pos ho, eU]
      exact mv.dep (by omega)
    · rw [decide_eq_false c, if_neg (by decide), bz_0]
      exact ok_some ⟨Fq.refl, Or.inr ⟨by rw [em, decide_eq_false c], rfl⟩⟩
  unfold FX12_moves
  rcases (show op = 8 ∨ op = 9 ∨ op = 10 ∨ op = 11 ∨ op = 12 ∨ op = 13 ∨ op = 14 ∨ op = 15 ∨ op = 16 by omega) with rfl | rfl | rfl | rfl | rfl | rfl | rfl | rfl | rfl
  · rw [if_pos (by decide)]
    exact drop 1 (by omega) (by omega) rfl rfl rfl (by omega)
  · rw [if_neg (by decide), if_pos (by decide)]
    exact drop 2 (by omega) (by omega) rfl rfl rfl (by omega)
  · rw [if_neg (by decide), if_neg (by decide), if_pos (by decide), rcv_ok t0]
    exact mm_cp (op := 10) lm mv hd (by omega) (by omega)
  · rw [if_neg (by decide), if_neg (by decide), if_neg (by decide), if_pos (by decide), rcv_ok t0]
    exact mm_cp (op := 11) lm mv hd (by omega) (by omega)
  · rw [if_neg (by decide), if_neg (by decide), if_neg (by decide), if_neg (by decide), if_pos (by decide), rcv_ok t0]
    exact mm_cp (op := 12) lm mv hd (by omega) (by omega)
  · rw [if_neg (by decide), if_neg (by decide), if_neg (by decide), if_neg (by decide), if_neg (by decide), if_pos (by decide), rcv_ok t0]
    exact mm_cp (op := 13) lm mv hd (by omega) (by omega)
  · rw [if_neg (by decide), if_neg (by decide), if_neg (by decide), if_neg (by decide), if_neg (by decide), if_neg (by decide), if_pos (by decide), rcv_ok t0]
    exact mm_cp (op := 14) lm mv hd (by omega) (by omega)
  · rw [if_neg (by decide), if_neg (by decide), if_neg (by decide), if_neg (by decide), if_neg (by decide), if_neg (by decide), if_neg (by decide), if_pos (by decide), rcv_ok t0]
    exact mm_cp (op := 15) lm mv hd (by omega) (by omega)
  · rw [if_neg (by decide), if_neg (by decide), if_neg (by decide), if_neg (by decide), if_neg (by decide), if_neg (by decide), if_neg (by decide), if_neg (by decide), rcv_ok t0, nI_c1, m_whole lm mv (by omega) (by omega), cl_ok, b2i_if]
    by_cases c1 : 1 ≤ d ∧ σ (d - 1) < 6
    · rw [decide_eq_true c1, if_pos rfl, rcv_ok t0, nl_2, m_whole lm mv (by omega) (by omega), cl_ok, b2i_if]
      by_cases c2 : 2 ≤ d ∧ σ (d - 2) < 6
      · have a1 := v3 (d - 1) (by omega)
        have a2 := v3 (d - 2) (by omega)
        rw [decide_eq_true c2, if_pos rfl, gR_ok t0, r30, gI_ok t0, v1, pk_sub (by omega), aI_n t27 (by omega) (by decide), a1.1, gR_ok t0, r30, gI_ok t0, v1, gR_ok t0, r30, gI_ok t0, v1, pk_sub (by omega), pk_sub (by omega), aI_n t27 (by omega) (by decide), a2.1, sI_n t27 (by omega) (by decide)]
        have e1 : hI (wI h (q + 27) (d - 1) (nI (σ (d - 2)))) q 29 = nI d := by rw [hI_wI_a (by omega)]; exact v1
        rw [gR_ok (show hT (wI h (q + 27) (d - 1) (nI (σ (d - 2)))) q = _ from t0), show hR (wI h (q + 27) (d - 1) (nI (σ (d - 2)))) q 30 = _ from r30, gI_ok (show hT (wI h (q + 27) (d - 1) (nI (σ (d - 2)))) q = _ from t0), e1, pk_sub (by omega), sI_n (show hT (wI h (q + 27) (d - 1) (nI (σ (d - 2)))) (q + 27) = _ from t27) (by omega) (by decide), ← nI_c1, bz_1]
        refine ok_some ⟨q27w.trans q27w, Or.inl ⟨decide_eq_true ⟨c2.1, by show σ (d - 1 - 1) < 6; rw [show d - 1 - 1 = d - 2 by omega]; exact c2.2, c1.2⟩, rfl, ⟨⟨?_, by show d ≤ 16; omega⟩, fun p hp => ?_, fun j hj => ?_⟩⟩⟩
        · rw [hI_wI_a (by omega)]; exact e1
        · show _ = nI (va_up (va_up σ (d - 2) (σ (d - 1))) (d - 1) (σ (d - 2)) p) ∧ va_up (va_up σ (d - 2) (σ (d - 1))) (d - 1) (σ (d - 2)) p < 8
          have hp : p < d := hp
          by_cases x1 : p = d - 1
          · subst x1; rw [hI_wI_k (by omega), hI_wI_s, va_s]; exact ⟨rfl, a2.2⟩
          · by_cases x2 : p = d - 2
            · subst x2; rw [hI_wI_s, va_n _ _ x1, va_s]; exact ⟨rfl, a1.2⟩
            · rw [hI_wI_k x2, hI_wI_k x1, va_n _ _ x1, va_n _ _ x2]; exact v3 p hp
        · rw [hI_wI_a (by omega), hI_wI_a (by omega)]; exact v4 j hj
      · rw [decide_eq_false c2, if_neg (by decide), bz_0]
        exact ok_some ⟨Fq.refl, Or.inr ⟨decide_eq_false (fun z => c2 ⟨z.1, by have := z.2.1; rw [show d - mvU 16 - mvV 16 = d - 2 by show d - 1 - 1 = d - 2; omega] at this; exact this⟩), rfl⟩⟩
    · rw [decide_eq_false c1, if_neg (by decide), bz_0]
      exact ok_some ⟨Fq.refl, Or.inr ⟨decide_eq_false (fun z => c1 ⟨by have := z.1; have : mvU 16 = 1 := rfl; omega, z.2.2⟩), rfl⟩⟩
/-- what works leaves: takes ks, then puts pt (5: nothing) -/
def WkR (q : Nat) (h : Hp) (σ l : Nat → Nat) (ks : List Nat) (pt d : Nat) : Int32 → Hp → Prop := fun r g => Fq q F29 (A27 q) h g ∧ ((∃ d', takeL σ ks d = some d' ∧ r = 1 ∧ Mv g q (if pt = 5 then d' else d' + wd pt) (if pt = 5 then σ else spu σ d' pt) l) ∨ takeL σ ks d = none ∧ r = 0)
def RZ (q : Nat) (h : Hp) : Int32 → Hp → Prop := fun r g => r = 0 ∧ Fq q F29 (A27 q) h g
theorem w_nil (mv : Mv h q d σ l) : Ok (some ((1 : Int32), h)) (WkR q h σ l [] 5 d) := ok_some ⟨Fq.refl, Or.inl ⟨d, rfl, rfl, mv⟩⟩
theorem w_push (lm : LM (hT h) (hR h) q) (mv : Mv h q d σ l) (hd : d ≤ 14) {k : Nat} (hk : k < 5) : Ok (cl (FX12_push (some q) (nI k) h) (fun _ h2 => some ((1 : Int32), h2))) (WkR q h σ l [] k d) := ok_cl (m_push lm mv hk hd) (fun _ g x => ok_some ⟨x.2, Or.inl ⟨d, rfl, rfl, by rw [if_neg (by omega), if_neg (by omega)]; exact x.1⟩⟩)
theorem z_nil : Ok (some ((0 : Int32), h)) (RZ q h) := ok_some ⟨rfl, Fq.refl⟩
theorem z_push (lm : LM (hT h) (hR h) q) (mv : Mv h q d σ l) (hd : d ≤ 14) {k : Nat} (hk : k < 5) : Ok (cl (FX12_push (some q) (nI k) h) (fun _ h2 => some ((0 : Int32), h2))) (RZ q h) := ok_cl (m_push lm mv hk hd) (fun _ g x => ok_some ⟨rfl, x.2⟩)
theorem w_seq (lm : LM (hT h) (hR h) q) (mv : Mv h q d σ l) (w : wfS d σ) {k : Nat} (hk : k < 5) {ks : List Nat} {pt : Nat} {c : Int32 → Hp → Option (Int32 × Hp)} (h1 : ∀ g, wd k ≤ d → Mv g q (d - wd k) σ l → wfS (d - wd k) σ → LM (hT g) (hR g) q → Fq q F29 A0 h g → Ok (c 1 g) (WkR q g σ l ks pt (d - wd k))) (h0 : ∀ g d', d' ≤ d → Mv g q d' σ l → LM (hT g) (hR g) q → Fq q F29 A0 h g → Ok (c 0 g) (RZ q g)) : Ok (cl (FX12_pop (some q) (nI k) h) c) (WkR q h σ l (k :: ks) pt d) := by
  have f0 : ∀ g, Fq q F29 A0 h g → Fq q F29 (A27 q) h g := fun g f => f.mono (fun _ z => z) (fun _ z => z.elim)
  refine ok_cl (m_pop lm mv w hk) (fun r g x => ?_)
  obtain ⟨f, x | x⟩ := x
  · obtain ⟨z, rfl, x3⟩ := x
    refine (h1 g z.1 x3 (wf_take w hk z.1 z.2) (lm.fq f) f).mono (fun r g' y => ⟨(f0 g f).trans y.1, ?_⟩)
    rw [takeL, if_pos z]
    exact y.2
  · obtain ⟨z, rfl, d', hd', x3⟩ := x
    refine (h0 g d' hd' x3 (lm.fq f) f).mono (fun r g' y => ⟨(f0 g f).trans y.2, Or.inr ⟨?_, y.1⟩⟩)
    rw [takeL, if_neg z]
theorem w_bz {ks : List Nat} {pt : Nat} {c : Option (Int32 × Hp)} (hc : Ok c (WkR q h σ l ks pt d)) : Ok (cl c (fun v h1 => bz v (some (v, h1)))) (WkR q h σ l ks pt d) := by
  refine ok_cl hc (fun r g y => ok_bz ?_ (ok_some y))
  rcases y.2 with ⟨_, _, e, _⟩ | ⟨_, e⟩
  · exact Or.inr e
  · exact Or.inl e
end MD
