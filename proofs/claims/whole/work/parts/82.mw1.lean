/-! the model's walk: its rows, what an operation leaves as it was -/
def Fm (q : Nat) (F A : Nat → Prop) (h g : Hp) : Prop := hT g = hT h ∧ hR g = hR h ∧ hz g = hz h ∧ (∀ b, b ≠ q → ¬ A b → hI g b = hI h b ∧ hL g b = hL h b) ∧ ∀ k, ¬ F k → hI g q k = hI h q k ∧ hL g q k = hL h q k
section FM
variable {q : Nat} {F A F' A' : Nat → Prop} {h g k : Hp}
theorem Fm.refl : Fm q F A h h := ⟨rfl, rfl, rfl, fun _ _ _ => ⟨rfl, rfl⟩, fun _ _ => ⟨rfl, rfl⟩⟩
theorem Fm.trans (a : Fm q F A h g) (b : Fm q F A g k) : Fm q F A h k := ⟨b.1.trans a.1, b.2.1.trans a.2.1, b.2.2.1.trans a.2.2.1, fun x h1 h2 => ⟨(b.2.2.2.1 x h1 h2).1.trans (a.2.2.2.1 x h1 h2).1, (b.2.2.2.1 x h1 h2).2.trans (a.2.2.2.1 x h1 h2).2⟩, fun x h1 => ⟨(b.2.2.2.2 x h1).1.trans (a.2.2.2.2 x h1).1, (b.2.2.2.2 x h1).2.trans (a.2.2.2.2 x h1).2⟩⟩
theorem Fm.mono (a : Fm q F A h g) (hF : ∀ k, F k → F' k) (hA : ∀ b, A b → A' b) : Fm q F' A' h g := ⟨a.1, a.2.1, a.2.2.1, fun x h1 h2 => a.2.2.2.1 x h1 (fun z => h2 (hA x z)), fun x h1 => a.2.2.2.2 x (fun z => h1 (hF x z))⟩
theorem Fm.wa {a i : Nat} {v : Int32} (ha : A a) (hq : a ≠ q) : Fm q F A h (wI h a i v) := ⟨rfl, rfl, rfl, fun b _ hb => ⟨hI_wI_a (fun e => hb (by rw [e]; exact ha)), rfl⟩, fun k _ => ⟨by rw [hI_wI_a (Ne.symm hq)], rfl⟩⟩
theorem Fm.wb {a i : Nat} {v : Int64} (ha : A a) (hq : a ≠ q) : Fm q F A h (wL h a i v) := ⟨rfl, rfl, rfl, fun b _ hb => ⟨rfl, hL_wL_a (fun e => hb (by rw [e]; exact ha))⟩, fun k _ => ⟨rfl, by rw [hL_wL_a (Ne.symm hq)]⟩⟩
theorem Fm.fI {i : Nat} {v : Int32} (hi : F i) : Fm q F A h (wI h q i v) := ⟨rfl, rfl, rfl, fun b hb _ => ⟨hI_wI_a hb, rfl⟩, fun k hk => ⟨hI_wI_k (fun e => hk (by rw [e]; exact hi)), rfl⟩⟩
theorem Fm.fL {i : Nat} {v : Int64} (hi : F i) : Fm q F A h (wL h q i v) := ⟨rfl, rfl, rfl, fun b hb _ => ⟨rfl, hL_wL_a hb⟩, fun k hk => ⟨rfl, hL_wL_k (fun e => hk (by rw [e]; exact hi))⟩⟩
theorem LM.fm (v : LM (hT h) (hR h) q) (f : Fm q F A h g) : LM (hT g) (hR g) q := by rw [f.1, f.2.1]; exact v
theorem PM.fm {P : Pg} (v : PM h q P) (f : Fm q F A h g) (hA : ∀ b, b ≤ 21 → b ≠ 14 → ¬ A (q + b)) (hF : ¬ F 0 ∧ ¬ F 15 ∧ ¬ F 17) : PM g q P := by
  have e : ∀ b, 1 ≤ b → b ≤ 21 → b ≠ 14 → hI g (q + b) = hI h (q + b) := fun b h0 h1 h2 => (f.2.2.2.1 _ (by omega) (hA b h1 h2)).1
  have e15 : hL g (q + 15) = hL h (q + 15) := (f.2.2.2.1 _ (by omega) (hA 15 (by omega) (by omega))).2
  unfold PM PMm PMt at v ⊢
  rw [(f.2.2.2.2 0 hF.1).1, (f.2.2.2.2 15 hF.2.1).1, (f.2.2.2.2 17 hF.2.2).1, e15, e 1 (by omega) (by omega) (by omega), e 2 (by omega) (by omega) (by omega), e 3 (by omega) (by omega) (by omega), e 4 (by omega) (by omega) (by omega), e 5 (by omega) (by omega) (by omega), e 6 (by omega) (by omega) (by omega), e 7 (by omega) (by omega) (by omega), e 8 (by omega) (by omega) (by omega), e 9 (by omega) (by omega) (by omega), e 10 (by omega) (by omega) (by omega), e 11 (by omega) (by omega) (by omega), e 12 (by omega) (by omega) (by omega), e 13 (by omega) (by omega) (by omega), e 16 (by omega) (by omega) (by omega), e 17 (by omega) (by omega) (by omega), e 18 (by omega) (by omega) (by omega), e 19 (by omega) (by omega) (by omega), e 20 (by omega) (by omega) (by omega), e 21 (by omega) (by omega) (by omega)]
  exact v
end FM
/-- the model's things -/
def off (T : Th) (t : Nat) : Nat := sm t T.2.2.1
def MTh (h : Hp) (q : Nat) (T : Th) : Prop := (hI h q 40 = nI T.1 ∧ hI h q 46 = nI (off T T.1) ∧ T.1 ≤ 60) ∧ ∀ t, t < T.1 → hI h (q + 33) t = T.2.1 t ∧ (hI h (q + 34) t = nI (T.2.2.1 t) ∧ T.2.2.1 t ≤ 100) ∧ hI h (q + 35) t = T.2.2.2.1 t ∧ hI h (q + 36) t = nI (off T t) ∧ ∀ k, k < T.2.2.1 t → hL h (q + 37) (off T t + k) = T.2.2.2.2 t k
/-- a call's stack (where a value begins), its locals (that may be used), what it holds -/
def MSk (h : Hp) (q c d : Nat) (σ : Nat → Nat) (s : Nat → Int64) : Prop := (hI h (q + 40) c = nI d ∧ d ≤ 14) ∧ ∀ p, p < d → σ p < 6 → hL h (q + 41) (32 * c + p) = s p
def MLc (h : Hp) (q c : Nat) (lk : Nat → Nat) (l : Nat → Int64) : Prop := ∀ j, j < 16 → lk j < 5 → hL h (q + 42) (18 * c + j) = l j
def MHd (h : Hp) (q c : Nat) (hn : Nat → Nat) : Prop := ∀ t, t < 60 → hI h (q + 43) (60 * c + t) = nI (hn t)
/-- the rows of other calls -/
def Fo2 (q c : Nat) (h g : Hp) : Prop := ∀ x, x ≠ c → (hI g (q + 38) x = hI h (q + 38) x ∧ hI g (q + 39) x = hI h (q + 39) x ∧ hI g (q + 40) x = hI h (q + 40) x) ∧ (∀ p, p < 32 → hL g (q + 41) (32 * x + p) = hL h (q + 41) (32 * x + p)) ∧ (∀ j, j < 18 → hL g (q + 42) (18 * x + j) = hL h (q + 42) (18 * x + j)) ∧ ∀ t, t < 60 → hI g (q + 43) (60 * x + t) = hI h (q + 43) (60 * x + t)
theorem Fo2.refl {q c : Nat} {h : Hp} : Fo2 q c h h := fun _ _ => ⟨⟨rfl, rfl, rfl⟩, fun _ _ => rfl, fun _ _ => rfl, fun _ _ => rfl⟩
theorem Fo2.trans {q c : Nat} {h g k : Hp} (a : Fo2 q c h g) (b : Fo2 q c g k) : Fo2 q c h k := fun x hx => ⟨⟨(b x hx).1.1.trans (a x hx).1.1, (b x hx).1.2.1.trans (a x hx).1.2.1, (b x hx).1.2.2.trans (a x hx).1.2.2⟩, fun p hp => ((b x hx).2.1 p hp).trans ((a x hx).2.1 p hp), fun j hj => ((b x hx).2.2.1 j hj).trans ((a x hx).2.2.1 j hj), fun t ht => ((b x hx).2.2.2 t ht).trans ((a x hx).2.2.2 t ht)⟩
def F40 : Nat → Prop := fun _ => False
def A41 (q : Nat) : Nat → Prop := fun b => b = q + 40 ∨ b = q + 41
/-- what an operation of a call touches -/
def FW : Nat → Prop := fun k => k = 40 ∨ k = 46 ∨ k = 64 ∨ k = 65 ∨ k = 66
def AW (q : Nat) : Nat → Prop := fun b => q + 33 ≤ b ∧ b ≤ q + 43
theorem o2_fm {q c : Nat} {F A : Nat → Prop} {h g : Hp} (f : Fm q F A h g) (hA : ∀ b, q + 38 ≤ b → b ≤ q + 43 → ¬ A b) : Fo2 q c h g := fun x _ => by
  rw [(f.2.2.2.1 (q + 38) (by omega) (hA _ (by omega) (by omega))).1, (f.2.2.2.1 (q + 39) (by omega) (hA _ (by omega) (by omega))).1, (f.2.2.2.1 (q + 40) (by omega) (hA _ (by omega) (by omega))).1, (f.2.2.2.1 (q + 41) (by omega) (hA _ (by omega) (by omega))).2, (f.2.2.2.1 (q + 42) (by omega) (hA _ (by omega) (by omega))).2, (f.2.2.2.1 (q + 43) (by omega) (hA _ (by omega) (by omega))).1]
  exact ⟨⟨rfl, rfl, rfl⟩, fun _ _ => rfl, fun _ _ => rfl, fun _ _ => rfl⟩
section MO
variable {h g : Hp} {q c d : Nat} {σ lk : Nat → Nat} {s l : Nat → Int64} {hn : Nat → Nat} {T : Th} {F A : Nat → Prop}
theorem MTh.fm (v : MTh h q T) (f : Fm q F A h g) (hF : ¬ F 40 ∧ ¬ F 46) (hA : ∀ b, q + 33 ≤ b → b ≤ q + 37 → ¬ A b) : MTh g q T := by
  unfold MTh at v ⊢
  rw [(f.2.2.2.2 40 hF.1).1, (f.2.2.2.2 46 hF.2).1, (f.2.2.2.1 (q + 33) (by omega) (hA _ (by omega) (by omega))).1, (f.2.2.2.1 (q + 34) (by omega) (hA _ (by omega) (by omega))).1, (f.2.2.2.1 (q + 35) (by omega) (hA _ (by omega) (by omega))).1, (f.2.2.2.1 (q + 36) (by omega) (hA _ (by omega) (by omega))).1, (f.2.2.2.1 (q + 37) (by omega) (hA _ (by omega) (by omega))).2]
  exact v
theorem MSk.fm (v : MSk h q c d σ s) (f : Fm q F A h g) (h1 : ¬ A (q + 40)) (h2 : ¬ A (q + 41)) : MSk g q c d σ s := by
  unfold MSk at v ⊢
  rw [(f.2.2.2.1 (q + 40) (by omega) h1).1, (f.2.2.2.1 (q + 41) (by omega) h2).2]
  exact v
theorem MLc.fm (v : MLc h q c lk l) (f : Fm q F A h g) (h1 : ¬ A (q + 42)) : MLc g q c lk l := by
  unfold MLc at v ⊢
  rw [(f.2.2.2.1 (q + 42) (by omega) h1).2]
  exact v
theorem MHd.fm (v : MHd h q c hn) (f : Fm q F A h g) (h1 : ¬ A (q + 43)) : MHd g q c hn := by
  unfold MHd at v ⊢
  rw [(f.2.2.2.1 (q + 43) (by omega) h1).1]
  exact v
theorem n41 {q : Nat} {b : Nat} (h : b ≠ q + 40) (h2 : b ≠ q + 41) : ¬ A41 q b := fun z => z.elim h h2
theorem m_take (lm : LM (hT h) (hR h) q) (v : MSk h q c d σ s) (hc : c < 6) {k : Nat} (hk : k < 5) (h1 : wd k ≤ d) (h2 : σ (d - wd k) = k) : Ok (FX12_take (some q) (nI c) (nI k) h) (fun r g => r = s (d - wd k) ∧ MSk g q c (d - wd k) σ s ∧ Fm q F40 (A41 q) h g ∧ Fo2 q c h g) := by
  obtain ⟨mt0, ⟨mr1, mt1⟩, ⟨mr2, mt2⟩, ⟨mr3, mt3⟩, ⟨mr4, mt4⟩, ⟨mr5, mt5⟩, ⟨mr6, mt6⟩, ⟨mr7, mt7⟩, ⟨mr8, mt8⟩, ⟨mr9, mt9⟩, ⟨mr10, mt10⟩, ⟨mr11, mt11⟩, ⟨mr12, mt12⟩, ⟨mr13, mt13⟩, ⟨mr14, mt14⟩, ⟨mr15, mt15⟩, ⟨mr16, mt16⟩, ⟨mr17, mt17⟩, ⟨mr18, mt18⟩, ⟨mr19, mt19⟩, ⟨mr20, mt20⟩, ⟨mr21, mt21⟩, ⟨mr22, mt22⟩, ⟨mr23, mt23⟩, ⟨mr24, mt24⟩, ⟨mr25, mt25⟩, ⟨mr26, mt26⟩, ⟨mr27, mt27⟩, ⟨mr28, mt28⟩, ⟨mr29, mt29⟩, ⟨mr30, mt30⟩, ⟨mr31, mt31⟩, ⟨mr32, mt32⟩, ⟨mr33, mt33⟩, ⟨mr34, mt34⟩, ⟨mr35, mt35⟩, ⟨mr36, mt36⟩, ⟨mr37, mt37⟩, ⟨mr38, mt38⟩, ⟨mr39, mt39⟩, ⟨mr40, mt40⟩, ⟨mr41, mt41⟩, ⟨mr42, mt42⟩, ⟨mr43, mt43⟩⟩ := id lm
  have hw := wd_le k
  have e1 := v.2 (d - wd k) (by omega) (by omega)
  have hd := v.1.2
  have e2 : hI (wI h (q + 40) c (nI (d - wd k))) (q + 40) c = nI (d - wd k) := hI_wI_s
  unfold FX12_take
  rw [gR_ok mt0, mr40, aI_n mt40 hc (by decide), v.1.1, f_wordsOf (by omega), cl_ok, sI_n mt40 hc (by decide), pk_sub h1]
  rw [gR_ok (show hT (wI h (q + 40) c (nI (d - wd k))) q = _ from mt0), show hR (wI h (q + 40) c (nI (d - wd k))) q 51 = _ from mr41, gR_ok (show hT (wI h (q + 40) c (nI (d - wd k))) q = _ from mt0), show hR (wI h (q + 40) c (nI (d - wd k))) q 50 = _ from mr40, aI_n (show hT (wI h (q + 40) c (nI (d - wd k))) (q + 40) = _ from mt40) hc (by decide), e2, nl_32, pk_mul, nI_add, aL_n (show hT (wI h (q + 40) c (nI (d - wd k))) (q + 41) = _ from mt41) (by omega) (by decide)]
  refine ok_some ⟨e1, ⟨⟨e2, by omega⟩, fun p hp hs => v.2 p (by omega) hs⟩, Fm.wa (Or.inl rfl) (by omega), fun x hx => ⟨⟨by rw [hI_wI_a (by omega)], by rw [hI_wI_a (by omega)], by rw [hI_wI_k hx]⟩, fun _ _ => rfl, fun _ _ => rfl, fun t _ => by rw [hI_wI_a (by omega)]⟩⟩
theorem m_put (lm : LM (hT h) (hR h) q) (v : MSk h q c d σ s) (hc : c < 6) {k : Nat} (hk : k < 5) (x : Int64) (hd : d + wd k ≤ 14) : Ok (FX12_put (some q) (nI c) (nI k) x h) (fun _ g => MSk g q c (d + wd k) (spu σ d k) (pushS s d k x) ∧ Fm q F40 (A41 q) h g ∧ Fo2 q c h g) := by
  obtain ⟨mt0, ⟨mr1, mt1⟩, ⟨mr2, mt2⟩, ⟨mr3, mt3⟩, ⟨mr4, mt4⟩, ⟨mr5, mt5⟩, ⟨mr6, mt6⟩, ⟨mr7, mt7⟩, ⟨mr8, mt8⟩, ⟨mr9, mt9⟩, ⟨mr10, mt10⟩, ⟨mr11, mt11⟩, ⟨mr12, mt12⟩, ⟨mr13, mt13⟩, ⟨mr14, mt14⟩, ⟨mr15, mt15⟩, ⟨mr16, mt16⟩, ⟨mr17, mt17⟩, ⟨mr18, mt18⟩, ⟨mr19, mt19⟩, ⟨mr20, mt20⟩, ⟨mr21, mt21⟩, ⟨mr22, mt22⟩, ⟨mr23, mt23⟩, ⟨mr24, mt24⟩, ⟨mr25, mt25⟩, ⟨mr26, mt26⟩, ⟨mr27, mt27⟩, ⟨mr28, mt28⟩, ⟨mr29, mt29⟩, ⟨mr30, mt30⟩, ⟨mr31, mt31⟩, ⟨mr32, mt32⟩, ⟨mr33, mt33⟩, ⟨mr34, mt34⟩, ⟨mr35, mt35⟩, ⟨mr36, mt36⟩, ⟨mr37, mt37⟩, ⟨mr38, mt38⟩, ⟨mr39, mt39⟩, ⟨mr40, mt40⟩, ⟨mr41, mt41⟩, ⟨mr42, mt42⟩, ⟨mr43, mt43⟩⟩ := id lm
  have hw := wd_le k
  have v1 := v.1.1
  unfold FX12_put
  rw [gR_ok mt0, mr41, gR_ok mt0, mr40, aI_n mt40 hc (by decide), v1, nl_32, pk_mul, nI_add, sL_n mt41 (by omega) (by decide)]
  rw [gR_ok (show hT (wL h (q + 41) (32 * c + d) x) q = _ from mt0), show hR (wL h (q + 41) (32 * c + d) x) q 50 = _ from mr40, aI_n (show hT (wL h (q + 41) (32 * c + d) x) (q + 40) = _ from mt40) hc (by decide), show hI (wL h (q + 41) (32 * c + d) x) (q + 40) c = _ from v1, f_wordsOf (by omega), cl_ok, sI_n (show hT (wL h (q + 41) (32 * c + d) x) (q + 40) = _ from mt40) hc (by decide), nI_add]
  refine ok_some ⟨⟨⟨hI_wI_s, hd⟩, fun p hp hs => ?_⟩, (Fm.wb (A := A41 q) (Or.inr rfl) (by omega)).trans (Fm.wa (Or.inl rfl) (by omega)), fun y hy => ⟨⟨by rw [hI_wI_a (by omega)]; rfl, by rw [hI_wI_a (by omega)]; rfl, by rw [hI_wI_k hy]; rfl⟩, fun p hp => ?_, fun j _ => ?_, fun t _ => by rw [hI_wI_a (by omega)]; rfl⟩⟩
  · show hL (wL h (q + 41) (32 * c + d) x) (q + 41) (32 * c + p) = _
    unfold spu at hs
    unfold pushS
    by_cases c2 : wd k = 2
    · rw [if_pos c2] at hs ⊢
      by_cases p1 : p = d + 1
      · subst p1
        rw [va_s] at hs
        unfold en at hs
        split at hs <;> omega
      · rw [va_n _ _ p1] at hs
        have e : vp_updL (vp_updL s d x) (d + 1) 0 p = vp_updL s d x p := if_neg p1
        rw [e]
        by_cases p2 : p = d
        · subst p2
          rw [hL_wL_s]; exact (if_pos rfl).symm
        · rw [va_n _ _ p2] at hs
          rw [hL_wL_k (by omega), v.2 p (by omega) hs]
          exact (if_neg p2).symm
    · rw [if_neg c2] at hs ⊢
      by_cases p2 : p = d
      · subst p2
        rw [hL_wL_s]; exact (if_pos rfl).symm
      · rw [va_n _ _ p2] at hs
        rw [hL_wL_k (by omega), v.2 p (by omega) hs]
        exact (if_neg p2).symm
  · show hL (wL h (q + 41) (32 * c + d) x) (q + 41) (32 * y + p) = _
    rw [hL_wL_k (by omega)]
  · show hL (wL h (q + 41) (32 * c + d) x) (q + 42) (18 * y + j) = _
    rw [hL_wL_a (by omega)]
end MO
