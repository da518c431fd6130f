/-! the model: calls, failures -/
def MCa (h : Hp) (q : Nat) (tt : Nat → Tab) (c : Nat) (x : Cl) : Prop := (hI h (q + 38) c = nI x.1 ∧ hI h (q + 39) c = nI x.2.1) ∧ MSk h q c x.2.2.1 ((tt x.1).2.1 x.2.1) x.2.2.2.1 ∧ MLc h q c ((tt x.1).2.2.1 x.2.1) x.2.2.2.2.1 ∧ MHd h q c x.2.2.2.2.2
def MCb (h : Hp) (q : Nat) (tt : Nat → Tab) (c : Nat) (x : Cl) : Prop := (hI h (q + 38) c = nI x.1 ∧ hI h (q + 39) c = nI x.2.1) ∧ MLc h q c ((tt x.1).2.2.1 x.2.1) x.2.2.2.2.1 ∧ MHd h q c x.2.2.2.2.2
def MK (h : Hp) (q : Nat) (R : (Int32 × Int32 × Int32) × (Nat × Nat × Nat) × Int64) : Prop := (hI h q 60 = nI R.2.1.1 ∧ hI h q 61 = nI R.2.1.2.1 ∧ hI h q 62 = nI R.2.1.2.2) ∧ hL h q 55 = R.2.2
def MF (h : Hp) (q : Nat) (R : (Int32 × Int32 × Int32) × (Nat × Nat × Nat) × Int64) : Prop := hI h q 56 = R.1.1 ∧ hI h q 57 = R.1.2.1 ∧ hI h q 58 = R.1.2.2
/-- the model's walk; in MY nothing is said of the uppermost stack, nor of what failed -/
def MW (h : Hp) (q : Nat) (P : Pg) (tt : Nat → Tab) (W : Wk) : Prop := LM (hT h) (hR h) q ∧ PM h q P ∧ MTh h q W.2.1 ∧ (hI h q 47 = nI W.1.1 ∧ W.1.1 ≤ 6) ∧ (∀ c, c < W.1.1 → MCa h q tt c (W.1.2 c)) ∧ MK h q W.2.2 ∧ MF h q W.2.2
def MY (h : Hp) (q : Nat) (P : Pg) (tt : Nat → Tab) (W : Wk) : Prop := LM (hT h) (hR h) q ∧ PM h q P ∧ MTh h q W.2.1 ∧ (hI h q 47 = nI W.1.1 ∧ W.1.1 ≤ 6) ∧ (∀ c, c < W.1.1 → (c + 1 < W.1.1 → MCa h q tt c (W.1.2 c)) ∧ MCb h q tt c (W.1.2 c)) ∧ MK h q W.2.2
def FWk : Nat → Prop := fun k => k = 40 ∨ k = 46 ∨ k = 47 ∨ (55 ≤ k ∧ k ≤ 58) ∨ (60 ≤ k ∧ k ≤ 62) ∨ (64 ≤ k ∧ k ≤ 66)
theorem fw_k : ∀ k, FW k → FWk k := fun k z => by unfold FW at z; unfold FWk; omega
theorem nwk : ¬ FWk 0 ∧ ¬ FWk 15 ∧ ¬ FWk 17 := ⟨by unfold FWk; omega, by unfold FWk; omega, by unfold FWk; omega⟩
theorem nwa {q : Nat} : ∀ b, b ≤ 21 → b ≠ 14 → ¬ AW q (q + b) := fun b h1 h2 => by unfold AW; omega
section MZ
variable {h g : Hp} {q : Nat} {P : Pg} {tt : Nat → Tab} {F A : Nat → Prop}
theorem MCa.b {c : Nat} {x : Cl} (v : MCa h q tt c x) : MCb h q tt c x := ⟨v.1, v.2.2.1, v.2.2.2⟩
theorem MCb.fo {c y : Nat} {x : Cl} (v : MCb h q tt c x) (f : Fo2 q y h g) (hc : c ≠ y) : MCb g q tt c x := by
  obtain ⟨⟨v1, v2⟩, v3, v4⟩ := v
  obtain ⟨⟨f1, f2, f3⟩, f4, f5, f6⟩ := f c hc
  exact ⟨⟨by rw [f1]; exact v1, by rw [f2]; exact v2⟩, fun j hj hl => by rw [f5 j (by omega)]; exact v3 j hj hl, fun t ht => by rw [f6 t ht]; exact v4 t ht⟩
theorem MCa.fo {c y : Nat} {x : Cl} (v : MCa h q tt c x) (f : Fo2 q y h g) (hc : c ≠ y) : MCa g q tt c x := by
  obtain ⟨b1, b3, b4⟩ := v.b.fo f hc
  obtain ⟨-, ⟨⟨v1, v2⟩, v3⟩, -⟩ := v
  obtain ⟨⟨f1, f2, f3⟩, f4, f5, f6⟩ := f c hc
  exact ⟨b1, ⟨⟨by rw [f3]; exact v1, v2⟩, fun p hp hs => by rw [f4 p (by omega)]; exact v3 p hp hs⟩, b3, b4⟩
theorem MCb.fm {c : Nat} {x : Cl} (v : MCb h q tt c x) (f : Fm q F A h g) (hA : ∀ b, q + 38 ≤ b → b ≤ q + 43 → ¬ A b) : MCb g q tt c x := v.fo (y := c + 1) (o2_fm f hA) (by omega)
theorem MCa.fm {c : Nat} {x : Cl} (v : MCa h q tt c x) (f : Fm q F A h g) (hA : ∀ b, q + 38 ≤ b → b ≤ q + 43 → ¬ A b) : MCa g q tt c x := v.fo (y := c + 1) (o2_fm f hA) (by omega)
theorem MK.fm {R : (Int32 × Int32 × Int32) × (Nat × Nat × Nat) × Int64} (v : MK h q R) (f : Fm q F A h g) (hF : ¬ F 55 ∧ ¬ F 60 ∧ ¬ F 61 ∧ ¬ F 62) : MK g q R := by
  unfold MK at v ⊢
  rw [(f.2.2.2.2 60 hF.2.1).1, (f.2.2.2.2 61 hF.2.2.1).1, (f.2.2.2.2 62 hF.2.2.2).1, (f.2.2.2.2 55 hF.1).2]
  exact v
theorem MF.fm {R : (Int32 × Int32 × Int32) × (Nat × Nat × Nat) × Int64} (v : MF h q R) (f : Fm q F A h g) (hF : ¬ F 56 ∧ ¬ F 57 ∧ ¬ F 58) : MF g q R := by
  unfold MF at v ⊢
  rw [(f.2.2.2.2 56 hF.1).1, (f.2.2.2.2 57 hF.2.1).1, (f.2.2.2.2 58 hF.2.2).1]
  exact v
theorem MW.my {W : Wk} (v : MW h q P tt W) : MY h q P tt W := ⟨v.1, v.2.1, v.2.2.1, v.2.2.2.1, fun c hc => ⟨fun _ => v.2.2.2.2.1 c hc, (v.2.2.2.2.1 c hc).b⟩, v.2.2.2.2.2.1⟩
/-- fields that a walk's picture does not tell -/
theorem MW.fm {W : Wk} (v : MW h q P tt W) (f : Fm q F A h g) (hF : ∀ k, F k → k = 59 ∨ k = 63 ∨ k = 64 ∨ k = 65 ∨ k = 66) (hA : ∀ b, ¬ A b) : MW g q P tt W := by
  obtain ⟨v1, v2, v3, v4, v5, v6, v7⟩ := v
  have nF : ∀ k, k ≠ 59 → k ≠ 63 → k ≠ 64 → k ≠ 65 → k ≠ 66 → ¬ F k := fun k a1 a2 a3 a4 a5 z => by have := hF k z; omega
  exact ⟨v1.fm f, v2.fm f (fun b _ _ => hA _) ⟨nF 0 (by decide) (by decide) (by decide) (by decide) (by decide), nF 15 (by decide) (by decide) (by decide) (by decide) (by decide), nF 17 (by decide) (by decide) (by decide) (by decide) (by decide)⟩, v3.fm f ⟨nF 40 (by decide) (by decide) (by decide) (by decide) (by decide), nF 46 (by decide) (by decide) (by decide) (by decide) (by decide)⟩ (fun b _ _ => hA b), ⟨by rw [(f.2.2.2.2 47 (nF 47 (by decide) (by decide) (by decide) (by decide) (by decide))).1]; exact v4.1, v4.2⟩, fun c hc => (v5 c hc).fm f (fun b _ _ => hA b), v6.fm f ⟨nF 55 (by decide) (by decide) (by decide) (by decide) (by decide), nF 60 (by decide) (by decide) (by decide) (by decide) (by decide), nF 61 (by decide) (by decide) (by decide) (by decide) (by decide), nF 62 (by decide) (by decide) (by decide) (by decide) (by decide)⟩, v7.fm f ⟨nF 56 (by decide) (by decide) (by decide) (by decide) (by decide), nF 57 (by decide) (by decide) (by decide) (by decide) (by decide), nF 58 (by decide) (by decide) (by decide) (by decide) (by decide)⟩⟩
/-- a call lets go what it holds -/
theorem ic_222 {n k0 : Nat} {T : Th} {hn : Nat → Nat} {K : Option Nat → Int32 → Hp → Option (Int32 × Hp)} {x1 : Int32} {Q : Int32 → Hp → Prop} (hn6 : n < 6) : ∀ (f k : Nat) (h : Hp), k ≤ T.1 → T.1 - k < f → LM (hT h) (hR h) q → MTh h q (hdT T (fun t => if t < k then T.2.2.2.1 t - nI (hn t) else T.2.2.2.1 t)) → MHd h q n hn → hI h q 47 = nI (n + 1) → (∀ g, MTh g q (lgT T hn) → hI g q 47 = nI n → Fm q (fun k => k = 47) (fun b => b = q + 35) h g → Ok (K (some q) x1 g) Q) → Ok (BX12_isCaught_222 f K (some q) x1 (nI n) (nI k) h) Q := by
  intro f
  induction f with
  | zero => intro k h h1 h2; omega
  | succ f ih =>
    intro k h h1 h2 lm mt hd e47 kk
    obtain ⟨mt0, ⟨mr1, mt1⟩, ⟨mr2, mt2⟩, ⟨mr3, mt3⟩, ⟨mr4, mt4⟩, ⟨mr5, mt5⟩, ⟨mr6, mt6⟩, ⟨mr7, mt7⟩, ⟨mr8, mt8⟩, ⟨mr9, mt9⟩, ⟨mr10, mt10⟩, ⟨mr11, mt11⟩, ⟨mr12, mt12⟩, ⟨mr13, mt13⟩, ⟨mr14, mt14⟩, ⟨mr15, mt15⟩, ⟨mr16, mt16⟩, ⟨mr17, mt17⟩, ⟨mr18, mt18⟩, ⟨mr19, mt19⟩, ⟨mr20, mt20⟩, ⟨mr21, mt21⟩, ⟨mr22, mt22⟩, ⟨mr23, mt23⟩, ⟨mr24, mt24⟩, ⟨mr25, mt25⟩, ⟨mr26, mt26⟩, ⟨mr27, mt27⟩, ⟨mr28, mt28⟩, ⟨mr29, mt29⟩, ⟨mr30, mt30⟩, ⟨mr31, mt31⟩, ⟨mr32, mt32⟩, ⟨mr33, mt33⟩, ⟨mr34, mt34⟩, ⟨mr35, mt35⟩, ⟨mr36, mt36⟩, ⟨mr37, mt37⟩, ⟨mr38, mt38⟩, ⟨mr39, mt39⟩, ⟨mr40, mt40⟩, ⟨mr41, mt41⟩, ⟨mr42, mt42⟩, ⟨mr43, mt43⟩⟩ := id lm
    have n60 : T.1 ≤ 60 := mt.1.2.2
    have e40 : hI h q 40 = nI T.1 := mt.1.1
    unfold BX12_isCaught_222
    rw [gI_ok mt0, e40, if_lt (by omega) (by omega)]
    by_cases ck : k < T.1
    · obtain ⟨w1, w2, w3, w4, w5⟩ := mt.2 k ck
      have w3 : hI h (q + 35) k = T.2.2.2.1 k := by
        rw [w3]
        show (if k < k then T.2.2.2.1 k - nI (hn k) else T.2.2.2.1 k) = _
        rw [if_neg (by omega)]
      rw [if_pos ck, gR_ok mt0, mr35, aI_n mt35 (by omega) (by decide), w3, gR_ok mt0, mr43, nl_60, pk_mul, nI_add, aI_n mt43 (by omega) (by decide), hd k (by omega), sI_n mt35 (by omega) (by decide), nI_1]
      have f1 : Fm q (fun k => k = 47) (fun b => b = q + 35) h (wI h (q + 35) k (T.2.2.2.1 k - nI (hn k))) := Fm.wa rfl (by omega)
      have e35 : ∀ x, hI (wI h (q + 35) k (T.2.2.2.1 k - nI (hn k))) (q + 35) x = if x = k then T.2.2.2.1 k - nI (hn k) else hI h (q + 35) x := fun x => by
        by_cases z : x = k
        · rw [if_pos z, z]; exact hI_wI_s
        · rw [if_neg z, hI_wI_k z]
      have e47' : hI (wI h (q + 35) k (T.2.2.2.1 k - nI (hn k))) q 47 = nI (n + 1) := by rw [hI_wI_a (by omega)]; exact e47
      generalize wI h (q + 35) k (T.2.2.2.1 k - nI (hn k)) = g1 at f1 e35 e47' ⊢
      have eI : ∀ b, b ≠ q → b ≠ q + 35 → hI g1 b = hI h b ∧ hL g1 b = hL h b := fun b h0 h1 => f1.2.2.2.1 b h0 h1
      refine ih (k + 1) g1 (by omega) (by omega) (lm.fm f1) ⟨⟨?_, ?_, n60⟩, fun t ht => ?_⟩ (hd.fm f1 (by omega)) e47' (fun g2 m2 e2 f2 => kk g2 m2 e2 (f1.trans f2))
      · rw [(f1.2.2.2.2 40 (by decide)).1]; exact mt.1.1
      · rw [(f1.2.2.2.2 46 (by decide)).1]; exact mt.1.2.1
      · obtain ⟨u1, u2, u3, u4, u5⟩ := mt.2 t ht
        rw [(eI (q + 33) (by omega) (by omega)).1, (eI (q + 34) (by omega) (by omega)).1, (eI (q + 36) (by omega) (by omega)).1, (eI (q + 37) (by omega) (by omega)).2]
        refine ⟨u1, u2, ?_, u4, u5⟩
        show hI g1 (q + 35) t = if t < k + 1 then T.2.2.2.1 t - nI (hn t) else T.2.2.2.1 t
        have u3 : hI h (q + 35) t = if t < k then T.2.2.2.1 t - nI (hn t) else T.2.2.2.1 t := u3
        rw [e35]
        by_cases z : t = k
        · subst z; rw [if_pos rfl, if_pos (by omega)]
        · rw [if_neg z, u3]
          by_cases y : t < k
          · rw [if_pos y, if_pos (by omega)]
          · rw [if_neg y, if_neg (by omega)]
    · rw [if_neg ck, gI_ok mt0, e47, pI_ok mt0, nI_pred]
      have f1 : Fm q (fun k => k = 47) (fun b => b = q + 35) h (wI h q 47 (nI n)) := Fm.fI rfl
      have f2 : Fm q (fun k => k = 47) (fun _ => False) h (wI h q 47 (nI n)) := Fm.fI rfl
      have m2 := mt.fm f2 ⟨by decide, by decide⟩ (fun _ _ _ z => z)
      refine kk _ ⟨m2.1, fun t ht => ?_⟩ hI_wI_s f1
      obtain ⟨u1, u2, u3, u4, u5⟩ := m2.2 t ht
      have ht : t < T.1 := ht
      refine ⟨u1, u2, ?_, u4, u5⟩
      rw [u3]
      show (if t < k then T.2.2.2.1 t - nI (hn t) else T.2.2.2.1 t) = T.2.2.2.1 t - nI (hn t)
      rw [if_pos (by omega)]
end MZ
