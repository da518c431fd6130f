/-! the model: a whole walk -/
def FWs : Nat → Prop := fun k => FWz k ∨ k = 34 ∨ k = 54
def MWQ (q : Nat) (P : Pg) (tt : Nat → Tab) (h : Hp) (R : Nat × Wk) : Int32 → Hp → Prop := fun res g => res = nI (w_ans R.2) ∧ MW g q P tt R.2 ∧ hI g q 59 = nI R.1 ∧ hI g q 63 = nI R.2.1.1 ∧ (hI g q 34 = nI 0 ∧ hI g q 54 = 1) ∧ Fm q FWs (AW q) h g
section MV
variable {q : Nat} {P : Pg} {tt : Nat → Tab}
theorem a_159 (pw : PW P) {m : Nat} (hm : m < p_nm P) {x2 : Int32} {gv : Nat → Int64} {Q : Int32 → Hp → Prop} : ∀ (f k : Nat) (h : Hp), k ≤ p_na P m → p_na P m - k < f → LM (hT h) (hR h) q → PM h q P → hI h q 34 = nI (p_na P m) → (∀ j, j < p_na P m → hL h (q + 29) j = gv j) → (∀ x, x < k → hL h (q + 42) (p_aw P m x) = asA (p_ka P m x) (gv x)) → (∀ g, (∀ x, x < p_na P m → hL g (q + 42) (p_aw P m x) = asA (p_ka P m x) (gv x)) → Fm q F40 (fun b => b = q + 42) h g → Ok (pI g (some q) 11 34 0 fun h48 => BX12_walk_250 100000 (some q) x2 h48) Q) → Ok (BX12_walk_159 f (some q) (nI m) x2 (nI (p_aw P m k)) (nI k) h) Q := by
  have wm := pw.2.2.2.1 m hm
  have hna := wm.2.1
  have hm8 : m < 8 := by have := pw.1; omega
  have hnw : p_aw P m (p_na P m) ≤ 8 := by rw [wm.2.2.2.2.2.1]; exact wm.2.2.1
  intro f
  induction f with
  | zero => intro k h h1 h2; omega
  | succ f ih =>
    intro k h h1 h2 lm pm e34 hg hl kk
    obtain ⟨mt0, ⟨mr1, mt1⟩, ⟨mr2, mt2⟩, ⟨mr3, mt3⟩, ⟨mr4, mt4⟩, ⟨mr5, mt5⟩, ⟨mr6, mt6⟩, ⟨mr7, mt7⟩, ⟨mr8, mt8⟩, ⟨mr9, mt9⟩, ⟨mr10, mt10⟩, ⟨mr11, mt11⟩, ⟨mr12, mt12⟩, ⟨mr13, mt13⟩, ⟨mr14, mt14⟩, ⟨mr15, mt15⟩, ⟨mr16, mt16⟩, ⟨mr17, mt17⟩, ⟨mr18, mt18⟩, ⟨mr19, mt19⟩, ⟨mr20, mt20⟩, ⟨mr21, mt21⟩, ⟨mr22, mt22⟩, ⟨mr23, mt23⟩, ⟨mr24, mt24⟩, ⟨mr25, mt25⟩, ⟨mr26, mt26⟩, ⟨mr27, mt27⟩, ⟨mr28, mt28⟩, ⟨mr29, mt29⟩, ⟨mr30, mt30⟩, ⟨mr31, mt31⟩, ⟨mr32, mt32⟩, ⟨mr33, mt33⟩, ⟨mr34, mt34⟩, ⟨mr35, mt35⟩, ⟨mr36, mt36⟩, ⟨mr37, mt37⟩, ⟨mr38, mt38⟩, ⟨mr39, mt39⟩, ⟨mr40, mt40⟩, ⟨mr41, mt41⟩, ⟨mr42, mt42⟩, ⟨mr43, mt43⟩⟩ := id lm
    unfold BX12_walk_159
    rw [gI_ok mt0, e34, if_lt (by omega) (by omega)]
    by_cases ck : k < p_na P m
    · have vm := pm.2.1 m hm
      have hka := vm.2.1 k ck
      have hk5 := wm.2.2.2.2.2.2.1 k ck
      have hw := wd_le (p_ka P m k)
      have e1 : p_aw P m (k + 1) = p_aw P m k + wd (p_ka P m k) := rfl
      have hle : p_aw P m (k + 1) ≤ p_aw P m (p_na P m) := aw_mn ck
      have fin : ∀ v, v = asA (p_ka P m k) (gv k) → Ok (BX12_walk_228 (BX12_walk_159 f) (some q) (nI m) x2 (nI (p_aw P m k)) (nI k) (nI (p_ka P m k)) (some (q + 42)) (nI (p_aw P m k)) v h) Q := by
        intro v hv
        unfold BX12_walk_228
        rw [sL_n mt42 (by omega) (by decide), f_wordsOf (by omega), cl_ok, nI_add, nI_1, ← e1]
        have f1 : Fm q F40 (fun b => b = q + 42) h (wL h (q + 42) (p_aw P m k) v) := Fm.wb rfl (by omega)
        have l1 : ∀ x, x < k + 1 → hL (wL h (q + 42) (p_aw P m k) v) (q + 42) (p_aw P m x) = asA (p_ka P m x) (gv x) := by
          intro x hx
          by_cases z : x = k
          · subst z; rw [hL_wL_s]; exact hv
          · have : p_aw P m x < p_aw P m k := aw_lt2 (by omega)
            rw [hL_wL_k (by omega)]; exact hl x (by omega)
        have g29 : hL (wL h (q + 42) (p_aw P m k) v) (q + 29) = hL h (q + 29) := hL_wL_a (by omega)
        generalize wL h (q + 42) (p_aw P m k) v = g at f1 l1 g29 ⊢
        exact ih (k + 1) g (by omega) (by omega) (lm.fm f1) (pm.fm f1 (fun b _ _ => by omega) ⟨fun z => z, fun z => z, fun z => z⟩) (by rw [(f1.2.2.2.2 34 (fun z => z)).1]; exact e34) (by rw [g29]; exact hg) l1 (fun g2 y1 y2 => kk g2 y1 (f1.trans y2))
      rw [if_pos ck, gR_ok mt0, mr4, nl_8, pk_mul, nI_add, aI_n mt4 (by omega) (by decide), hka, gR_ok mt0, mr42, nl_4, if_eq (by omega) (by decide)]
      by_cases c4 : p_ka P m k = 4
      · rw [if_pos c4]
        exact fin (-1) (by unfold asA; rw [if_pos c4])
      · rw [if_neg c4, f_wordsOf (by omega), cl_ok, nl_2, if_eq (by omega) (by decide)]
        by_cases c2 : wd (p_ka P m k) = 2
        · rw [if_pos c2, gR_ok mt0, mr29, aL_n mt29 (by omega) (by decide), hg k ck]
          exact fin _ (by unfold asA; rw [if_neg c4, if_pos c2])
        · rw [if_neg c2, gR_ok mt0, mr29, aL_n mt29 (by omega) (by decide), hg k ck]
          exact fin _ (by unfold asA; rw [if_neg c4, if_neg c2])
    · have ek : k = p_na P m := by omega
      subst ek
      rw [if_neg ck]
      exact kk h hl Fm.refl
/-- from the moment that a walk begins -/
theorem m_start (pw : PW P) (st : ST P tt) {h : Hp} {m steps : Nat} (hm : m < p_nm P) (hs : steps ≤ 3000) {gv : Nat → Int64} (L : Nat → Nat → Int64) (lm : LM (hT h) (hR h) q) (pm : PM h q P) (e34 : hI h q 34 = nI (p_na P m)) (hg : ∀ j, j < p_na P m → hL h (q + 29) j = gv j) : Ok (pZ h (some q) 11 54 1 fun h37 => pI h37 (some q) 11 40 0 fun h42 => pI h42 (some q) 11 46 0 fun h47 => pI h47 (some q) 11 47 0 fun h52 => pI h52 (some q) 11 60 0 fun h57 => pI h57 (some q) 11 56 (-1) fun h62 => pI h62 (some q) 11 57 (-1) fun h67 => pI h67 (some q) 11 58 (-1) fun h72 => pI h72 (some q) 11 59 0 fun h77 => pI h77 (some q) 11 61 0 fun h82 => pI h82 (some q) 11 62 0 fun h87 => pI h87 (some q) 11 63 0 fun h92 => pL h92 (some q) 11 55 0 fun h97 => rcv h97 (some q) 11 <| cl (FX12_beginCall (some q) (nI m) h97) fun v99 h100 => BX12_walk_159 100000 (some q) (nI m) (nI steps) 0 0 h100) (MWQ q P tt h (w_run P steps 0 (w_0 P m gv L))) := by
  have t0 : hT h q = some (.inl 11) := lm.1
  have wm := pw.2.2.2.1 m hm
  have hna := wm.2.1
  rw [pZ1_ok t0, pI_ok (show hT (wI h q 54 1) q = _ from t0), pI_ok (show hT (wI (wI h q 54 1) q 40 0) q = _ from t0), pI_ok (show hT (wI (wI (wI h q 54 1) q 40 0) q 46 0) q = _ from t0), pI_ok (show hT (wI (wI (wI (wI h q 54 1) q 40 0) q 46 0) q 47 0) q = _ from t0), pI_ok (show hT (wI (wI (wI (wI (wI h q 54 1) q 40 0) q 46 0) q 47 0) q 60 0) q = _ from t0), pI_ok (show hT (wI (wI (wI (wI (wI (wI h q 54 1) q 40 0) q 46 0) q 47 0) q 60 0) q 56 (-1)) q = _ from t0), pI_ok (show hT (wI (wI (wI (wI (wI (wI (wI h q 54 1) q 40 0) q 46 0) q 47 0) q 60 0) q 56 (-1)) q 57 (-1)) q = _ from t0), pI_ok (show hT (wI (wI (wI (wI (wI (wI (wI (wI h q 54 1) q 40 0) q 46 0) q 47 0) q 60 0) q 56 (-1)) q 57 (-1)) q 58 (-1)) q = _ from t0), pI_ok (show hT (wI (wI (wI (wI (wI (wI (wI (wI (wI h q 54 1) q 40 0) q 46 0) q 47 0) q 60 0) q 56 (-1)) q 57 (-1)) q 58 (-1)) q 59 0) q = _ from t0), pI_ok (show hT (wI (wI (wI (wI (wI (wI (wI (wI (wI (wI h q 54 1) q 40 0) q 46 0) q 47 0) q 60 0) q 56 (-1)) q 57 (-1)) q 58 (-1)) q 59 0) q 61 0) q = _ from t0), pI_ok (show hT (wI (wI (wI (wI (wI (wI (wI (wI (wI (wI (wI h q 54 1) q 40 0) q 46 0) q 47 0) q 60 0) q 56 (-1)) q 57 (-1)) q 58 (-1)) q 59 0) q 61 0) q 62 0) q = _ from t0), pL_ok (show hT (wI (wI (wI (wI (wI (wI (wI (wI (wI (wI (wI (wI h q 54 1) q 40 0) q 46 0) q 47 0) q 60 0) q 56 (-1)) q 57 (-1)) q 58 (-1)) q 59 0) q 61 0) q 62 0) q 63 0) q = _ from t0)]
  have ff : Fm q FWs (AW q) h (wL (wI (wI (wI (wI (wI (wI (wI (wI (wI (wI (wI (wI h q 54 1) q 40 0) q 46 0) q 47 0) q 60 0) q 56 (-1)) q 57 (-1)) q 58 (-1)) q 59 0) q 61 0) q 62 0) q 63 0) q 55 0) := (((((((((((((Fm.refl).trans (Fm.fI (by unfold FWs FWz FWk; omega))).trans (Fm.fI (by unfold FWs FWz FWk; omega))).trans (Fm.fI (by unfold FWs FWz FWk; omega))).trans (Fm.fI (by unfold FWs FWz FWk; omega))).trans (Fm.fI (by unfold FWs FWz FWk; omega))).trans (Fm.fI (by unfold FWs FWz FWk; omega))).trans (Fm.fI (by unfold FWs FWz FWk; omega))).trans (Fm.fI (by unfold FWs FWz FWk; omega))).trans (Fm.fI (by unfold FWs FWz FWk; omega))).trans (Fm.fI (by unfold FWs FWz FWk; omega))).trans (Fm.fI (by unfold FWs FWz FWk; omega))).trans (Fm.fI (by unfold FWs FWz FWk; omega))).trans (Fm.fL (by unfold FWs FWz FWk; omega))
  have e54 : hI (wL (wI (wI (wI (wI (wI (wI (wI (wI (wI (wI (wI (wI h q 54 1) q 40 0) q 46 0) q 47 0) q 60 0) q 56 (-1)) q 57 (-1)) q 58 (-1)) q 59 0) q 61 0) q 62 0) q 63 0) q 55 0) q 54 = 1 := by
    rw [hI_wL]
    repeat (first | exact hI_wI_s | rw [hI_wI_k (by decide)])
  have e40 : hI (wL (wI (wI (wI (wI (wI (wI (wI (wI (wI (wI (wI (wI h q 54 1) q 40 0) q 46 0) q 47 0) q 60 0) q 56 (-1)) q 57 (-1)) q 58 (-1)) q 59 0) q 61 0) q 62 0) q 63 0) q 55 0) q 40 = nI 0 := by
    rw [hI_wL]
    repeat (first | exact hI_wI_s | rw [hI_wI_k (by decide)])
  have e46 : hI (wL (wI (wI (wI (wI (wI (wI (wI (wI (wI (wI (wI (wI h q 54 1) q 40 0) q 46 0) q 47 0) q 60 0) q 56 (-1)) q 57 (-1)) q 58 (-1)) q 59 0) q 61 0) q 62 0) q 63 0) q 55 0) q 46 = nI 0 := by
    rw [hI_wL]
    repeat (first | exact hI_wI_s | rw [hI_wI_k (by decide)])
  have e47 : hI (wL (wI (wI (wI (wI (wI (wI (wI (wI (wI (wI (wI (wI h q 54 1) q 40 0) q 46 0) q 47 0) q 60 0) q 56 (-1)) q 57 (-1)) q 58 (-1)) q 59 0) q 61 0) q 62 0) q 63 0) q 55 0) q 47 = nI 0 := by
    rw [hI_wL]
    repeat (first | exact hI_wI_s | rw [hI_wI_k (by decide)])
  have e60 : hI (wL (wI (wI (wI (wI (wI (wI (wI (wI (wI (wI (wI (wI h q 54 1) q 40 0) q 46 0) q 47 0) q 60 0) q 56 (-1)) q 57 (-1)) q 58 (-1)) q 59 0) q 61 0) q 62 0) q 63 0) q 55 0) q 60 = nI 0 := by
    rw [hI_wL]
    repeat (first | exact hI_wI_s | rw [hI_wI_k (by decide)])
  have e56 : hI (wL (wI (wI (wI (wI (wI (wI (wI (wI (wI (wI (wI (wI h q 54 1) q 40 0) q 46 0) q 47 0) q 60 0) q 56 (-1)) q 57 (-1)) q 58 (-1)) q 59 0) q 61 0) q 62 0) q 63 0) q 55 0) q 56 = -1 := by
    rw [hI_wL]
    repeat (first | exact hI_wI_s | rw [hI_wI_k (by decide)])
  have e57 : hI (wL (wI (wI (wI (wI (wI (wI (wI (wI (wI (wI (wI (wI h q 54 1) q 40 0) q 46 0) q 47 0) q 60 0) q 56 (-1)) q 57 (-1)) q 58 (-1)) q 59 0) q 61 0) q 62 0) q 63 0) q 55 0) q 57 = -1 := by
    rw [hI_wL]
    repeat (first | exact hI_wI_s | rw [hI_wI_k (by decide)])
  have e58 : hI (wL (wI (wI (wI (wI (wI (wI (wI (wI (wI (wI (wI (wI h q 54 1) q 40 0) q 46 0) q 47 0) q 60 0) q 56 (-1)) q 57 (-1)) q 58 (-1)) q 59 0) q 61 0) q 62 0) q 63 0) q 55 0) q 58 = -1 := by
    rw [hI_wL]
    repeat (first | exact hI_wI_s | rw [hI_wI_k (by decide)])
  have e59 : hI (wL (wI (wI (wI (wI (wI (wI (wI (wI (wI (wI (wI (wI h q 54 1) q 40 0) q 46 0) q 47 0) q 60 0) q 56 (-1)) q 57 (-1)) q 58 (-1)) q 59 0) q 61 0) q 62 0) q 63 0) q 55 0) q 59 = nI 0 := by
    rw [hI_wL]
    repeat (first | exact hI_wI_s | rw [hI_wI_k (by decide)])
  have e61 : hI (wL (wI (wI (wI (wI (wI (wI (wI (wI (wI (wI (wI (wI h q 54 1) q 40 0) q 46 0) q 47 0) q 60 0) q 56 (-1)) q 57 (-1)) q 58 (-1)) q 59 0) q 61 0) q 62 0) q 63 0) q 55 0) q 61 = nI 0 := by
    rw [hI_wL]
    repeat (first | exact hI_wI_s | rw [hI_wI_k (by decide)])
  have e62 : hI (wL (wI (wI (wI (wI (wI (wI (wI (wI (wI (wI (wI (wI h q 54 1) q 40 0) q 46 0) q 47 0) q 60 0) q 56 (-1)) q 57 (-1)) q 58 (-1)) q 59 0) q 61 0) q 62 0) q 63 0) q 55 0) q 62 = nI 0 := by
    rw [hI_wL]
    repeat (first | exact hI_wI_s | rw [hI_wI_k (by decide)])
  have e63 : hI (wL (wI (wI (wI (wI (wI (wI (wI (wI (wI (wI (wI (wI h q 54 1) q 40 0) q 46 0) q 47 0) q 60 0) q 56 (-1)) q 57 (-1)) q 58 (-1)) q 59 0) q 61 0) q 62 0) q 63 0) q 55 0) q 63 = nI 0 := by
    rw [hI_wL]
    repeat (first | exact hI_wI_s | rw [hI_wI_k (by decide)])
  have e55 : hL (wL (wI (wI (wI (wI (wI (wI (wI (wI (wI (wI (wI (wI h q 54 1) q 40 0) q 46 0) q 47 0) q 60 0) q 56 (-1)) q 57 (-1)) q 58 (-1)) q 59 0) q 61 0) q 62 0) q 63 0) q 55 0) q 55 = 0 := hL_wL_s
  have e34b : hI (wL (wI (wI (wI (wI (wI (wI (wI (wI (wI (wI (wI (wI h q 54 1) q 40 0) q 46 0) q 47 0) q 60 0) q 56 (-1)) q 57 (-1)) q 58 (-1)) q 59 0) q 61 0) q 62 0) q 63 0) q 55 0) q 34 = hI h q 34 := by
    rw [hI_wL]
    repeat (first | rw [hI_wI_k (by decide)])
  have el : hL (wL (wI (wI (wI (wI (wI (wI (wI (wI (wI (wI (wI (wI h q 54 1) q 40 0) q 46 0) q 47 0) q 60 0) q 56 (-1)) q 57 (-1)) q 58 (-1)) q 59 0) q 61 0) q 62 0) q 63 0) q 55 0) (q + 29) = hL h (q + 29) := by rw [hL_wL_a (by omega)]; rfl
  have eb : ∀ b, b ≠ q → hI (wL (wI (wI (wI (wI (wI (wI (wI (wI (wI (wI (wI (wI h q 54 1) q 40 0) q 46 0) q 47 0) q 60 0) q 56 (-1)) q 57 (-1)) q 58 (-1)) q 59 0) q 61 0) q 62 0) q 63 0) q 55 0) b = hI h b := fun b hb => by
    rw [hI_wL]
    repeat rw [hI_wI_a hb]
  generalize wL (wI (wI (wI (wI (wI (wI (wI (wI (wI (wI (wI (wI h q 54 1) q 40 0) q 46 0) q 47 0) q 60 0) q 56 (-1)) q 57 (-1)) q 58 (-1)) q 59 0) q 61 0) q 62 0) q 63 0) q 55 0 = g at ff e54 e40 e46 e47 e60 e56 e57 e58 e59 e61 e62 e63 e55 e34b el eb ⊢
  have lg := lm.fm ff
  have pg : PM g q P := pm.fm ff (fun b h1 h2 => nwa b h1 h2) ⟨by unfold FWs FWz FWk; omega, by unfold FWs FWz FWk; omega, by unfold FWs FWz FWk; omega⟩
  rw [rcv_ok lg.1]
  refine ok_cl (m_bCall (a := m) (show 0 < 6 by decide) lg e47 e60) (fun _ g1 z => ?_)
  obtain ⟨z1, ⟨z2, z3, z4⟩, z5, z6, z7, z8⟩ := z
  have nB : ∀ b, b ≠ q + 38 → b ≠ q + 39 → b ≠ q + 40 → b ≠ q + 43 → ¬ A43 q b := fun b h0 h1 h2 h3 z => by unfold A43 at z; omega
  have nFB : ∀ k, k ≠ 47 → k ≠ 60 → ¬ FB k := fun k h0 h1 z => by unfold FB at z; omega
  have fq : ∀ k, k ≠ 47 → k ≠ 60 → hI g1 q k = hI g q k ∧ hL g1 q k = hL g q k := fun k h0 h1 => z7.2.2.2.2 k (nFB k h0 h1)
  have l1 := lg.fm z7
  have p1 : PM g1 q P := pg.fm z7 (fun b _ _ => nB _ (by omega) (by omega) (by omega) (by omega)) ⟨nFB 0 (by omega) (by omega), nFB 15 (by omega) (by omega), nFB 17 (by omega) (by omega)⟩
  show Ok (BX12_walk_159 100000 (some q) (nI m) (nI steps) (nI (p_aw P m 0)) (nI 0) g1) _
  refine a_159 pw hm (gv := gv) 100000 0 g1 (by omega) (by omega) l1 p1 (by rw [(fq 34 (by omega) (by omega)).1, e34b]; exact e34) (fun j hj => by rw [(z7.2.2.2.1 (q + 29) (by omega) (nB _ (by omega) (by omega) (by omega) (by omega))).2, el]; exact hg j hj) (fun x hx => by omega) (fun g2 y1 y2 => ?_)
  have t2 : hT g2 q = some (.inl 11) := (l1.fm y2).1
  rw [pI_ok t2]
  have f3 : Fm q (fun k => k = 34) (fun b => b = q + 42) g1 (wI g2 q 34 0) := (y2.mono (fun _ z => z.elim) (fun _ z => z)).trans (Fm.fI rfl)
  have g34 : hI (wI g2 q 34 0) q 34 = nI 0 := hI_wI_s
  have g42 : hL (wI g2 q 34 0) = hL g2 := rfl
  generalize wI g2 q 34 0 = g3 at f3 g34 g42 ⊢
  have fk : ∀ k, k ≠ 34 → k ≠ 47 → k ≠ 60 → hI g3 q k = hI g q k ∧ hL g3 q k = hL g q k := fun k h0 h1 h2 => ⟨((f3.2.2.2.2 k h0).1).trans (fq k h1 h2).1, ((f3.2.2.2.2 k h0).2).trans (fq k h1 h2).2⟩
  have f03 : Fm q FWs (AW q) h g3 := (ff.trans (z7.mono (fun k z => by unfold FB at z; unfold FWs FWz FWk; omega) (fun b z => by unfold A43 at z; unfold AW; omega))).trans (f3.mono (fun k z => Or.inr (Or.inl z)) (fun b z => by unfold AW; omega))
  have i3 : ∀ b, b ≠ q → b ≠ q + 42 → hI g3 b = hI g1 b := fun b h0 h1 => (f3.2.2.2.1 b h0 h1).1
  have mw : MW g3 q P tt (w_0 P m gv L) := by
    refine ⟨l1.fm f3, p1.fm f3 (fun b _ _ => by omega) ⟨by decide, by decide, by decide⟩, ⟨⟨?_, ?_, by show 0 ≤ 60; omega⟩, fun t ht => (by cases ht)⟩, ⟨?_, by show 1 ≤ 6; omega⟩, fun c hc => ?_, ⟨⟨?_, ?_, ?_⟩, ?_⟩, ?_, ?_, ?_⟩
    · rw [(fk 40 (by omega) (by omega) (by omega)).1]; exact e40
    · rw [(fk 46 (by omega) (by omega) (by omega)).1]; exact e46
    · rw [(f3.2.2.2.2 47 (by decide)).1]; exact z5
    · have hc : c < 1 := hc
      have : c = 0 := by omega
      subst this
      refine ⟨⟨by rw [i3 _ (by omega) (by omega)]; exact z2, by rw [i3 _ (by omega) (by omega)]; exact z3⟩, ⟨⟨by rw [i3 _ (by omega) (by omega)]; exact z4, by show 0 ≤ 14; omega⟩, fun p hp => (by cases hp)⟩, fun j hj hl => ?_, fun t ht => by rw [i3 _ (by omega) (by omega)]; exact z1 t ht⟩
      have hl : (tt m).2.2.1 0 j < 5 := hl
      show hL g3 (q + 42) (18 * 0 + j) = argG P m gv (p_na P m) (L 0) j
      rw [show 18 * 0 + j = j by omega, g42]
      rcases (st m hm).1.2.2.2 j hj with u | u
      · omega
      · have u : (tt m).2.2.1 0 j = j_arg P m (p_na P m) j := u
        rcases jarg_c (P := P) m (p_na P m) j with v | v | ⟨x, hx, rfl, v⟩
        · omega
        · omega
        · rw [y1 x hx, argG_v _ _ _ hx]
    · rw [(f3.2.2.2.2 60 (by decide)).1]; exact z6
    · rw [(fk 61 (by omega) (by omega) (by omega)).1]; exact e61
    · rw [(fk 62 (by omega) (by omega) (by omega)).1]; exact e62
    · rw [(fk 55 (by omega) (by omega) (by omega)).2]; exact e55
    · rw [(fk 56 (by omega) (by omega) (by omega)).1]; exact e56
    · rw [(fk 57 (by omega) (by omega) (by omega)).1]; exact e57
    · rw [(fk 58 (by omega) (by omega) (by omega)).1]; exact e58
  refine (mw_loop pw st hs 100000 steps 0 (w_0 P m gv L) g3 (by omega) (by omega) (wi_0 pw st hm gv L) rfl mw (by rw [(fk 59 (by omega) (by omega) (by omega)).1]; exact e59) (by rw [(fk 63 (by omega) (by omega) (by omega)).1]; exact e63)).mono (fun res g4 y => ?_)
  obtain ⟨x1, x2, x3, x4, x5⟩ := y
  refine ⟨x1, x2, x3, x4, ⟨?_, ?_⟩, f03.trans (x5.mono (fun _ z => Or.inl z) (fun _ z => z))⟩
  · rw [(x5.2.2.2.2 34 (by unfold FWz FWk; omega)).1]; exact g34
  · rw [(x5.2.2.2.2 54 (by unfold FWz FWk; omega)).1, (fk 54 (by omega) (by omega) (by omega)).1]; exact e54
/-- are all methods good -/
theorem w_28 {h : Hp} {m : Nat} {x2 : Int32} {gd : Nat → Bool} {Q : Int32 → Hp → Prop} {na gc : Nat} (lm : LM (hT h) (hR h) q) (hm : m < 8) (h8 : p_nm P ≤ 8) (e0 : hI h q 0 = nI (p_nm P)) (e14 : ∀ x, x < p_nm P → hI h (q + 14) x = b2i (gd x)) (e2 : hI h (q + 2) m = nI na) (e34 : hI h q 34 = nI gc) (hgc : gc < 2 ^ 31) (hna : na < 2 ^ 31) (kN : ¬ ((∀ x, x < p_nm P → gd x = true) ∧ gc = na) → Q (-3) h) (kY : (∀ x, x < p_nm P → gd x = true) → gc = na → Ok (pZ h (some q) 11 54 1 fun h37 => pI h37 (some q) 11 40 0 fun h42 => pI h42 (some q) 11 46 0 fun h47 => pI h47 (some q) 11 47 0 fun h52 => pI h52 (some q) 11 60 0 fun h57 => pI h57 (some q) 11 56 (-1) fun h62 => pI h62 (some q) 11 57 (-1) fun h67 => pI h67 (some q) 11 58 (-1) fun h72 => pI h72 (some q) 11 59 0 fun h77 => pI h77 (some q) 11 61 0 fun h82 => pI h82 (some q) 11 62 0 fun h87 => pI h87 (some q) 11 63 0 fun h92 => pL h92 (some q) 11 55 0 fun h97 => rcv h97 (some q) 11 <| cl (FX12_beginCall (some q) (nI m) h97) fun v99 h100 => BX12_walk_159 100000 (some q) (nI m) x2 0 0 h100) Q) : ∀ (f k : Nat) (fl : Bool), k ≤ p_nm P → p_nm P - k < f → (fl = true ↔ ∀ x, x < k → gd x = true) → Ok (BX12_walk_28 f (some q) (nI m) x2 (b2i fl) (nI k) h) Q := by
  obtain ⟨mt0, ⟨mr1, mt1⟩, ⟨mr2, mt2⟩, ⟨mr3, mt3⟩, ⟨mr4, mt4⟩, ⟨mr5, mt5⟩, ⟨mr6, mt6⟩, ⟨mr7, mt7⟩, ⟨mr8, mt8⟩, ⟨mr9, mt9⟩, ⟨mr10, mt10⟩, ⟨mr11, mt11⟩, ⟨mr12, mt12⟩, ⟨mr13, mt13⟩, ⟨mr14, mt14⟩, ⟨mr15, mt15⟩, ⟨mr16, mt16⟩, ⟨mr17, mt17⟩, ⟨mr18, mt18⟩, ⟨mr19, mt19⟩, ⟨mr20, mt20⟩, ⟨mr21, mt21⟩, ⟨mr22, mt22⟩, ⟨mr23, mt23⟩, ⟨mr24, mt24⟩, ⟨mr25, mt25⟩, ⟨mr26, mt26⟩, ⟨mr27, mt27⟩, ⟨mr28, mt28⟩, ⟨mr29, mt29⟩, ⟨mr30, mt30⟩, ⟨mr31, mt31⟩, ⟨mr32, mt32⟩, ⟨mr33, mt33⟩, ⟨mr34, mt34⟩, ⟨mr35, mt35⟩, ⟨mr36, mt36⟩, ⟨mr37, mt37⟩, ⟨mr38, mt38⟩, ⟨mr39, mt39⟩, ⟨mr40, mt40⟩, ⟨mr41, mt41⟩, ⟨mr42, mt42⟩, ⟨mr43, mt43⟩⟩ := id lm
  intro f
  induction f with
  | zero => intro k fl h1 h2; omega
  | succ f ih =>
    intro k fl h1 h2 hfl
    unfold BX12_walk_28
    rw [gI_ok mt0, e0, if_lt (by omega) (by omega), b2i_if, b2i_if]
    by_cases ck : k < p_nm P
    · rw [if_pos ck]
      have no : ¬ (∀ x, x < k + 1 → gd x = true) → Ok (BX12_walk_55 (BX12_walk_28 f) (some q) (nI m) x2 (nI k) h) Q := by
        intro z
        unfold BX12_walk_55 BX12_walk_56
        rw [nI_1]
        exact ih (k + 1) false (by omega) (by omega) ⟨fun y => (by cases y), fun y => absurd y z⟩
      cases fl with
      | false =>
        rw [if_neg (by decide)]
        exact no (fun z => by have := hfl.mpr (fun x hx => z x (by omega)); cases this)
      | true =>
        rw [if_pos rfl, gR_ok mt0, mr14, aI_n mt14 (by omega) (by decide), e14 k ck, b2i_if]
        cases hgd : gd k with
        | false =>
          rw [if_neg (by decide)]
          exact no (fun z => by have := z k (by omega); rw [hgd] at this; cases this)
        | true =>
          rw [if_pos rfl]
          unfold BX12_walk_56
          rw [nI_1]
          refine ih (k + 1) true (by omega) (by omega) ⟨fun _ x hx => ?_, fun _ => rfl⟩
          by_cases y : x = k
          · subst y; exact hgd
          · exact hfl.mp rfl x (by omega)
    · have ek : k = p_nm P := by omega
      subst ek
      rw [if_neg ck]
      cases fl with
      | false =>
        rw [if_neg (by decide)]
        exact ok_some (kN (fun z => by have := hfl.mpr z.1; cases this))
      | true =>
        rw [if_pos rfl, gI_ok mt0, e34, gR_ok mt0, mr2, aI_n mt2 hm (by decide), e2, if_eq hgc hna]
        by_cases y : gc = na
        · rw [if_pos y]
          exact kY (hfl.mp rfl) y
        · rw [if_neg y]
          exact ok_some (kN (fun z => y z.2))
end MV
