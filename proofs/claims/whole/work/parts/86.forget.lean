/-! a change drops all judgements, on both sides -/
def nob : Nat → Bool := fun _ => false
def fgt (G : Gs) (P : Pg) : Gs := (P, G.2.1, (nob, nob), G.2.2.2)
def pgN (P : Pg) (c m k v : Nat) : Pg := ((fun c' m' k' => if c' = c then (if m' = m ∧ k' = k then v else P.1 c' m' k') else P.1 c' m' k'), P.2)
def pgI (P : Pg) (c m k : Nat) (v : Int32) : Pg := (P.1, (fun c' m' k' => if c' = c then (if m' = m ∧ k' = k then v else P.2.1 c' m' k') else P.2.1 c' m' k'), P.2.2)
def pgC (P : Pg) (c : Nat) (v : Int64) : Pg := (P.1, P.2.1, va_up P.2.2 c v)
section GC
variable {h g : Hp} {o q : Nat} {G : Gs}
theorem gi_fgt (gi : GI G) {P : Pg} (pw : PW P) : GI (fgt G P) := ⟨pw, gi.2.1, fun m _ z => by cases z⟩
theorem ch_23 : ∀ (f k : Nat) (h : Hp), k ≤ 480 → 480 - k < f → LM (hT h) (hR h) q → (∀ x, x < k → hI h (q + 22) x = 0) → Ok (BX12_change_23 f (some q) (nI k) h) (fun _ g => (∀ x, x < 480 → hI g (q + 22) x = 0) ∧ Fm q F40 (fun b => b = q + 22) h g) := by
  intro f
  induction f with
  | zero => intro k h h1 h2; omega
  | succ f ih =>
    intro k h h1 h2 lm hz
    obtain ⟨mt0, ⟨mr1, mt1⟩, ⟨mr2, mt2⟩, ⟨mr3, mt3⟩, ⟨mr4, mt4⟩, ⟨mr5, mt5⟩, ⟨mr6, mt6⟩, ⟨mr7, mt7⟩, ⟨mr8, mt8⟩, ⟨mr9, mt9⟩, ⟨mr10, mt10⟩, ⟨mr11, mt11⟩, ⟨mr12, mt12⟩, ⟨mr13, mt13⟩, ⟨mr14, mt14⟩, ⟨mr15, mt15⟩, ⟨mr16, mt16⟩, ⟨mr17, mt17⟩, ⟨mr18, mt18⟩, ⟨mr19, mt19⟩, ⟨mr20, mt20⟩, ⟨mr21, mt21⟩, ⟨mr22, mt22⟩, ⟨mr23, mt23⟩, ⟨mr24, mt24⟩, ⟨mr25, mt25⟩, ⟨mr26, mt26⟩, ⟨mr27, mt27⟩, ⟨mr28, mt28⟩, ⟨mr29, mt29⟩, ⟨mr30, mt30⟩, ⟨mr31, mt31⟩, ⟨mr32, mt32⟩, ⟨mr33, mt33⟩, ⟨mr34, mt34⟩, ⟨mr35, mt35⟩, ⟨mr36, mt36⟩, ⟨mr37, mt37⟩, ⟨mr38, mt38⟩, ⟨mr39, mt39⟩, ⟨mr40, mt40⟩, ⟨mr41, mt41⟩, ⟨mr42, mt42⟩, ⟨mr43, mt43⟩⟩ := id lm
    unfold BX12_change_23
    rw [nl_480, if_lt (by omega) (by decide)]
    by_cases c : k < 480
    · rw [if_pos c, gR_ok mt0, mr22, sZ_n mt22 c (by decide) (Or.inl rfl), nI_1]
      have f1 : Fm q F40 (fun b => b = q + 22) h (wI h (q + 22) k 0) := Fm.wa rfl (by omega)
      refine (ih (k + 1) _ (by omega) (by omega) (lm.fm f1) (fun x hx => ?_)).mono (fun _ g z => ⟨z.1, f1.trans z.2⟩)
      by_cases y : x = k
      · subst y; exact hI_wI_s
      · rw [hI_wI_k y]; exact hz x (by omega)
    · rw [if_neg c]
      exact ok_some ⟨fun x hx => hz x (by omega), Fm.refl⟩
theorem ch_2 : ∀ (f k : Nat) (h : Hp), k ≤ 8 → 8 - k < f → LM (hT h) (hR h) q → (∀ x, x < k → hI h (q + 14) x = 0) → Ok (BX12_change_2 f (some q) (nI k) h) (fun _ g => (∀ x, x < 8 → hI g (q + 14) x = 0) ∧ (∀ x, x < 480 → hI g (q + 22) x = 0) ∧ Fm q F40 (fun b => b = q + 14 ∨ b = q + 22) h g) := by
  intro f
  induction f with
  | zero => intro k h h1 h2; omega
  | succ f ih =>
    intro k h h1 h2 lm hz
    obtain ⟨mt0, ⟨mr1, mt1⟩, ⟨mr2, mt2⟩, ⟨mr3, mt3⟩, ⟨mr4, mt4⟩, ⟨mr5, mt5⟩, ⟨mr6, mt6⟩, ⟨mr7, mt7⟩, ⟨mr8, mt8⟩, ⟨mr9, mt9⟩, ⟨mr10, mt10⟩, ⟨mr11, mt11⟩, ⟨mr12, mt12⟩, ⟨mr13, mt13⟩, ⟨mr14, mt14⟩, ⟨mr15, mt15⟩, ⟨mr16, mt16⟩, ⟨mr17, mt17⟩, ⟨mr18, mt18⟩, ⟨mr19, mt19⟩, ⟨mr20, mt20⟩, ⟨mr21, mt21⟩, ⟨mr22, mt22⟩, ⟨mr23, mt23⟩, ⟨mr24, mt24⟩, ⟨mr25, mt25⟩, ⟨mr26, mt26⟩, ⟨mr27, mt27⟩, ⟨mr28, mt28⟩, ⟨mr29, mt29⟩, ⟨mr30, mt30⟩, ⟨mr31, mt31⟩, ⟨mr32, mt32⟩, ⟨mr33, mt33⟩, ⟨mr34, mt34⟩, ⟨mr35, mt35⟩, ⟨mr36, mt36⟩, ⟨mr37, mt37⟩, ⟨mr38, mt38⟩, ⟨mr39, mt39⟩, ⟨mr40, mt40⟩, ⟨mr41, mt41⟩, ⟨mr42, mt42⟩, ⟨mr43, mt43⟩⟩ := id lm
    unfold BX12_change_2
    rw [nl_8, if_lt (by omega) (by decide)]
    by_cases c : k < 8
    · rw [if_pos c, gR_ok mt0, mr14, sZ_n mt14 c (by decide) (Or.inl rfl), nI_1]
      have f1 : Fm q F40 (fun b => b = q + 14 ∨ b = q + 22) h (wI h (q + 14) k 0) := Fm.wa (Or.inl rfl) (by omega)
      refine (ih (k + 1) _ (by omega) (by omega) (lm.fm f1) (fun x hx => ?_)).mono (fun _ g z => ⟨z.1, z.2.1, f1.trans z.2.2⟩)
      by_cases y : x = k
      · subst y; exact hI_wI_s
      · rw [hI_wI_k y]; exact hz x (by omega)
    · rw [if_neg c, nI_c0]
      refine (ch_23 100000 0 h (by omega) (by omega) lm (fun x hx => by omega)).mono (fun _ g z => ⟨fun x hx => ?_, z.1, z.2.mono (fun _ z => z) (fun _ z => Or.inr z)⟩)
      rw [(z.2.2.2.2.1 (q + 14) (by omega) (by omega)).1]; exact hz x (by omega)
/-- the model's views, where rows of the program alone are touched -/
theorem MG.pg {F A : Nat → Prop} {P : Pg} (v : MG h q G) (f : Fm q F A h g) (hF : ∀ k, F k → k = 0 ∨ k = 15 ∨ k = 17) (hA : ∀ b, A b → q ≤ b ∧ b ≤ q + 22) (e14 : ∀ m, m < p_nm P → hI g (q + 14) m = 0) (e22 : ∀ i, i < 480 → hI g (q + 22) i = 0) (pm : PM g q P) (hn : p_nm P ≤ 8) : MG g q (fgt G P) := by
  obtain ⟨⟨lm, -, -, -⟩, ⟨⟨g1, g2⟩, g3, g4⟩, mt, ⟨w1, w2⟩, w⟩ := v
  have k : ∀ k, ¬ (k = 0 ∨ k = 15 ∨ k = 17) → hI g q k = hI h q k ∧ hL g q k = hL h q k := fun k hk => f.2.2.2.2 k (fun z => hk (hF k z))
  have nA : ∀ b, 23 ≤ b → ¬ A (q + b) := fun b hb z => by have := hA _ z; omega
  refine ⟨⟨lm.fm f, pm, fun m hm => e14 m hm, fun m hm => ⟨fun z => (by cases z), fun _ i hi => e22 _ (by have hm : m < p_nm P := hm; omega)⟩⟩, ⟨⟨by rw [(k 34 (by omega)).1]; exact g1, fun j hj => by rw [(f.2.2.2.1 (q + 29) (by omega) (nA 29 (by omega))).2]; exact g2 j hj⟩, by rw [(k 32 (by omega)).1]; exact g3, by rw [(k 33 (by omega)).1]; exact g4⟩, mt.fm f ⟨fun z => by have := hF _ z; omega, fun z => by have := hF _ z; omega⟩ (fun b h1 h2 z => by have := hA _ z; omega), ⟨by rw [(k 54 (by omega)).1]; exact w1, by rw [(k 55 (by omega)).2]; exact w2⟩, fun z => by rw [(k 56 (by omega)).1, (k 57 (by omega)).1, (k 58 (by omega)).1, (k 59 (by omega)).1, (k 60 (by omega)).1, (k 61 (by omega)).1, (k 62 (by omega)).1, (k 63 (by omega)).1]; exact w z⟩
theorem d_change (gi : GI G) (mg : MG h q G) : Ok (FX12_change (some q) h) (fun _ g => MG g q (fgt G G.1) ∧ (∀ m, m < 8 → hI g (q + 14) m = 0) ∧ (∀ i, i < 480 → hI g (q + 22) i = 0) ∧ Fm q F40 (fun b => b = q + 14 ∨ b = q + 22) h g) := by
  have lm := mg.1.1
  have pm := mg.1.2.1
  unfold FX12_change
  rw [nI_c0]
  refine (ch_2 100000 0 h (by omega) (by omega) lm (fun x hx => by omega)).mono (fun _ g z => ?_)
  obtain ⟨z1, z2, z3⟩ := z
  have hn := gi.1.1
  exact ⟨mg.pg z3 (fun k z => z.elim) (fun b z => by omega) (fun m hm => z1 m (by omega)) z2 (pm.fm z3 (fun b h1 h2 => by omega) ⟨fun z => z, fun z => z, fun z => z⟩) hn, z1, z2, z3⟩
/-- the class's views, where the program alone is touched -/
theorem CGa.pg {A : Nat → Prop} {ma ta : Nat → Nat} {P P' : Pg} {tt : Nat → Tab} {jd gd : Nat → Bool} (v : CGa h o ma ta P tt jd gd) (f : Fr A h g) (hA : ∀ b, o + 5 ≤ b → b ≤ o + 13 → ¬ A b) (hS : ∀ m, m < p_nm P → ∀ b, ma m + 10 ≤ b → b ≤ ma m + 13 → ¬ A b) (hF : ∀ m, m < p_nm P → hI g (ma m) 14 = hI h (ma m) 14 ∧ hI g (ma m) 15 = hI h (ma m) 15) (pc : PC g o ma ta P') (en : p_nm P' = p_nm P) (et : p_nt P' = p_nt P) : CGa g o ma ta P' tt jd gd := by
  obtain ⟨-, ap, jt, ⟨sb, sc⟩, fl, z1, z2, z3⟩ := v
  unfold CGa Apt at *
  rw [en, et, f.2.2.1]
  refine ⟨pc, ap, by rw [f.1, f.2.1]; exact jt, ⟨svE (s := o + 6) sb f (fun b h1 h2 => hA b (by omega) (by omega)), svE (s := o + 10) sc f (fun b h1 h2 => hA b (by omega) (by omega))⟩, fun m hm => ?_, z1, z2, z3⟩
  obtain ⟨⟨f1, f2⟩, tv⟩ := fl m hm
  refine ⟨⟨by rw [(hF m hm).1]; exact f1, by rw [(hF m hm).2]; exact f2⟩, tv.fr f (hS m hm _ (by omega) (by omega)) (hS m hm _ (by omega) (by omega)) (hS m hm _ (by omega) (by omega)) (hS m hm _ (by omega) (by omega))⟩
theorem c_forget {ma ta : Nat → Nat} {P : Pg} {tt : Nat → Tab} {jd gd : Nat → Bool} (pw : PW P) (v : CGa h o ma ta P tt jd gd) : Ok (FX4_forgetJudgements (some (o + 1)) h) (fun _ g => CGa g o ma ta P tt nob nob ∧ Fr (fun b => ∃ m, m < p_nm P ∧ b = ma m) h g) := by
  have hnm := pw.1
  have lp : ∀ (f k : Nat) (h : Hp), k ≤ p_nm P → p_nm P - k < f → CGa h o ma ta P tt (fun m => if m < k then false else jd m) (fun m => if m < k then false else gd m) → Ok (BX4_forgetJudgements_2 f (some (o + 1)) (nI k) h) (fun _ g => CGa g o ma ta P tt nob nob ∧ Fr (fun b => ∃ m, m < p_nm P ∧ b = ma m) h g) := by
    intro f
    induction f with
    | zero => intro k h h1 h2; omega
    | succ f ih =>
      intro k h h1 h2 v
      obtain ⟨pc, ap, jt, ⟨sb, sc⟩, fl, z1, z2, z3⟩ := id v
      unfold BX4_forgetJudgements_2
      rw [gI_ok pc.1.1, pc.2.1.1, if_lt (by omega) (by omega)]
      by_cases c : k < p_nm P
      · obtain ⟨x1, x2, x3⟩ := pc.2.2.1 k c
        have o97 := ap.1 k c
        rw [if_pos c, gR_ok pc.1.1, pc.1.2.1.1, aR_n pc.1.2.2.1 (by omega) (by decide), x1, pZ0_ok x2.1, gR_ok (show hT (wI h (ma k) 14 0) (o + 1) = _ from pc.1.1), show hR (wI h (ma k) 14 0) (o + 1) 0 = _ from pc.1.2.1.1, aR_n (show hT (wI h (ma k) 14 0) (o + 2) = _ from pc.1.2.2.1) (by omega) (by decide), show hR (wI h (ma k) 14 0) (o + 2) k = _ from x1, pZ0_ok (show hT (wI h (ma k) 14 0) (ma k) = _ from x2.1), nI_1]
        have pc2 : PC (wI (wI h (ma k) 14 0) (ma k) 15 0) o ma ta P := (pc.flag ap c (by omega) 0).flag ap c (by omega) 0
        have f1 : Fr (fun b => b = ma k) h (wI (wI h (ma k) 14 0) (ma k) 15 0) := (Fr.wI (A := fun b => b = ma k) rfl).trans (Fr.wI (A := fun b => b = ma k) rfl)
        have e14 : hI (wI (wI h (ma k) 14 0) (ma k) 15 0) (ma k) 14 = 0 := by rw [hI_wI_k (by decide)]; exact hI_wI_s
        have e15 : hI (wI (wI h (ma k) 14 0) (ma k) 15 0) (ma k) 15 = 0 := hI_wI_s
        generalize wI (wI h (ma k) 14 0) (ma k) 15 0 = g at pc2 f1 e14 e15 ⊢
        refine (ih (k + 1) g (by omega) (by omega) ⟨pc2, ap, by rw [f1.1, f1.2.1]; exact jt, ⟨svE (s := o + 6) sb f1 (fun b h1 h2 => by omega), svE (s := o + 10) sc f1 (fun b h1 h2 => by omega)⟩, fun m hm => ?_, by rw [f1.2.2.1]; exact z1, fun m hm => by rw [f1.2.2.1]; exact z2 m hm, fun t ht => by rw [f1.2.2.1]; exact z3 t ht⟩).mono (fun _ g2 z => ⟨z.1, (f1.mono (fun b e => ⟨k, c, e⟩)).trans z.2⟩)
        obtain ⟨⟨u1, u2⟩, u3⟩ := fl m hm
        dsimp only
        by_cases y : m = k
        · subst y
          refine ⟨⟨by rw [e14, if_pos (by omega)]; rfl, by rw [e15, if_pos (by omega)]; rfl⟩, u3.fr f1 (by omega) (by omega) (by omega) (by omega)⟩
        · have ap3 := ap.2.2.1 m k hm c y
          have e := (f1.2.2.2 (ma m) (by omega)).1
          have eb : ∀ b : Nat → Bool, (if m < k + 1 then false else b m) = if m < k then false else b m := fun b => by
            by_cases w : m < k
            · rw [if_pos w, if_pos (by omega)]
            · rw [if_neg w, if_neg (by omega)]
          refine ⟨⟨by rw [e, eb]; exact u1, by rw [e, eb]; exact u2⟩, u3.fr f1 (by omega) (by omega) (by omega) (by omega)⟩
      · rw [if_neg c]
        refine ok_some ⟨⟨pc, ap, jt, ⟨sb, sc⟩, fun m hm => ?_, z1, z2, z3⟩, Fr.refl _ _⟩
        obtain ⟨⟨u1, u2⟩, u3⟩ := fl m hm
        dsimp only at u1 u2
        rw [if_pos (show m < k by omega)] at u1 u2
        exact ⟨⟨u1, u2⟩, u3⟩
  unfold FX4_forgetJudgements
  rw [nI_c0]
  refine lp 100000 0 h (by omega) (by omega) ?_
  have ej : (fun m => if m < 0 then false else jd m) = jd := funext fun m => if_neg (by omega)
  have eg : (fun m => if m < 0 then false else gd m) = gd := funext fun m => if_neg (by omega)
  rw [ej, eg]; exact v
end GC
