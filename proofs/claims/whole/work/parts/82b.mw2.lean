/-! the model: plain operations, numbers -/
def o2m (r : Option Nat) : Int32 := match r with
  | some t => nI t
  | none => -2
def MX (h : Hp) (q c : Nat) (P : Pg) (x : Cl) (σ lk : Nat → Nat) (T : Th) : Prop := LM (hT h) (hR h) q ∧ PM h q P ∧ MTh h q T ∧ MSk h q c x.2.2.1 σ x.2.2.2.1 ∧ MLc h q c lk x.2.2.2.2.1 ∧ MHd h q c x.2.2.2.2.2 ∧ (hI h q 64 = -1 ∧ hI h q 65 = -2) ∧ c < 6
def MRz (q c : Nat) (h : Hp) (lk : Nat → Nat) (x : Cl) (S : Sh) (R : Option (Nat × Option Nat) × Cl × Th) (g : Hp) : Prop := Fm q FW (AW q) h g ∧ Fo2 q c h g ∧ (hI g (q + 38) c = hI h (q + 38) c ∧ hI g (q + 39) c = hI h (q + 39) c) ∧ MTh g q R.2.2 ∧ (match R.1 with
  | some f => hI g q 64 = nI f.1 ∧ hI g q 65 = o2m f.2 ∧ MLc g q c lk x.2.2.2.2.1 ∧ MHd g q c x.2.2.2.2.2
  | none => hI g q 64 = -1 ∧ MSk g q c S.1 S.2.1 R.2.1.2.2.2.1 ∧ MLc g q c S.2.2 R.2.1.2.2.2.2.1 ∧ MHd g q c R.2.1.2.2.2.2.2)
def Sx (e pt : Nat) (σ lk : Nat → Nat) : Sh := if pt = 5 then (e, σ, lk) else (e + wd pt, spu σ e pt, lk)
theorem jput_v {P : Pg} {op a b e : Nat} {σ lk : Nat → Nat} (h1 : ¬ (8 ≤ op ∧ op ≤ 16)) (h6 : ¬ op = 6) : j_put P op a b e σ lk = Sx e (j_pt P op a b) σ lk := by
  unfold j_put Sx
  rw [if_neg h1, if_neg h6]
section MP
variable {h g : Hp} {q c m i d : Nat} {s l : Nat → Int64} {hn : Nat → Nat} {T : Th} {σ lk : Nat → Nat} {P : Pg}
theorem a41w {q : Nat} : ∀ b, A41 q b → AW q b := fun b z => by unfold A41 at z; unfold AW; omega
theorem f40w : ∀ k, F40 k → FW k := fun _ z => z.elim
theorem mr_ok (mx : MX h q c P (m, i, d, s, l, hn) σ lk T) (f : Fm q F40 (A41 q) h g) (fo : Fo2 q c h g) {n D : Nat} {σ' : Nat → Nat} {s' : Nat → Int64} (w : MSk g q c D σ' s') : MRz q c h lk (m, i, d, s, l, hn) (D, σ', lk) (none, (m, n, D, s', l, hn), T) g := by
  obtain ⟨p1, p2, p3, p4, p5, p6, ⟨p7, p8⟩, p9⟩ := mx
  exact ⟨f.mono f40w a41w, fo, ⟨by rw [(f.2.2.2.1 (q + 38) (by omega) (n41 (by omega) (by omega))).1], by rw [(f.2.2.2.1 (q + 39) (by omega) (n41 (by omega) (by omega))).1]⟩, p3.fm f ⟨fun z => z, fun z => z⟩ (fun b h1 h2 => n41 (by omega) (by omega)), by rw [(f.2.2.2.2 64 (fun z => z)).1]; exact p7, w, p5.fm f (n41 (by omega) (by omega)), p6.fm f (n41 (by omega) (by omega))⟩
theorem f_fail {x : Int32} (t0 : hT h q = some (.inl 11)) : FX12_fail (some q) x h = some ((), wI h q 64 x) := by
  unfold FX12_fail
  rw [pI_ok t0]
theorem mr_f (mx : MX h q c P (m, i, d, s, l, hn) σ lk T) (f : Fm q F40 (A41 q) h g) (fo : Fo2 q c h g) (n : Nat) (y : Cl) (S : Sh) : MRz q c h lk (m, i, d, s, l, hn) S (some (n, none), y, T) (wI g q 64 (nI n)) := by
  obtain ⟨p1, p2, p3, p4, p5, p6, ⟨p7, p8⟩, p9⟩ := mx
  have f2 : Fm q FW (AW q) g (wI g q 64 (nI n)) := Fm.fI (Or.inr (Or.inr (Or.inl rfl)))
  have ff := (f.mono f40w (a41w (q := q))).trans f2
  have f3 : Fm q (fun k => k = 64) (A41 q) g (wI g q 64 (nI n)) := Fm.fI rfl
  have f4 := (f.mono (F' := fun k => k = 64) (fun _ z => z.elim) (fun _ z => z)).trans f3
  refine ⟨ff, fo.trans (o2_fm (A := fun _ => False) (Fm.fI (F := fun k => k = 64) rfl) (fun _ _ _ z => z)), ⟨by rw [(f4.2.2.2.1 (q + 38) (by omega) (n41 (by omega) (by omega))).1], by rw [(f4.2.2.2.1 (q + 39) (by omega) (n41 (by omega) (by omega))).1]⟩, p3.fm f4 ⟨by decide, by decide⟩ (fun b h1 h2 => n41 (by omega) (by omega)), hI_wI_s, by rw [(f4.2.2.2.2 65 (by decide)).1]; exact p8, p5.fm f4 (n41 (by omega) (by omega)), p6.fm f4 (n41 (by omega) (by omega))⟩
theorem mr_fail (mx : MX h q c P (m, i, d, s, l, hn) σ lk T) (f : Fm q F40 (A41 q) h g) (fo : Fo2 q c h g) (n D pt : Nat) (S : Sh) : Ok (rcv g (some q) 11 <| cl (FX12_fail (some q) (nI n) g) fun _ h3 => some ((), h3)) (fun _ g' => MRz q c h lk (m, i, d, s, l, hn) S (xw m D pt s l (xf n hn i T)) g') := by
  have t0 : hT g q = some (.inl 11) := (mx.1.fm f).1
  rw [rcv_ok t0, f_fail t0, cl_ok]
  exact ok_some (mr_f mx f fo n _ S)
theorem mr_push (mx : MX h q c P (m, i, d, s, l, hn) σ lk T) (f : Fm q F40 (A41 q) h g) (fo : Fo2 q c h g) {D pt : Nat} (w : MSk g q c D σ s) (hp : pt < 5) (hD : D + wd pt ≤ 14) (v : Int64) : Ok (rcv g (some q) 11 <| cl (FX12_put (some q) (nI c) (nI pt) v g) fun _ h3 => some ((), h3)) (fun _ g' => MRz q c h lk (m, i, d, s, l, hn) (Sx D pt σ lk) (xw m D pt s l (xo v hn (i + 1) T)) g') := by
  have lg := mx.1.fm f
  rw [rcv_ok lg.1]
  refine ok_cl (m_put lg w mx.2.2.2.2.2.2.2 hp v hD) (fun _ g2 x => ok_some ?_)
  obtain ⟨x1, x2, x3⟩ := x
  have n5 : ¬ pt = 5 := by omega
  unfold Sx xw xo
  dsimp only
  rw [if_neg n5, if_neg n5, if_neg n5]
  exact mr_ok mx (f.trans x2) (fo.trans x3) x1
theorem m_plain {op e : Nat} {A B : Int32} (mx : MX h q c P (m, i, d, s, l, hn) σ lk T) (pw : PW P) (hop : op < 8) (hod : j_od P op A B = true) (htk : takeL σ (j_tk P op (cN A) (cN B)) d = some e) (h57 : ¬ (op = 5 ∧ ¬ lk (cN A) = cN B ∨ op = 7 ∧ ¬ lk (cN A) = 0)) (hd : d ≤ 12) : Ok (FX12_plain (some q) (nI c) (nI op) A B h) (fun _ g => MRz q c h lk (m, i, d, s, l, hn) (j_put P op (cN A) (cN B) e σ lk) (x_op P op A B (m, i, d, s, l, hn) T) g) := by
  obtain ⟨lm, pm, mth, msk, mlc, mhd, -, hc⟩ := id mx
  have msk : MSk h q c d σ s := msk
  have mlc : MLc h q c lk l := mlc
  obtain ⟨mt0, ⟨mr1, mt1⟩, ⟨mr2, mt2⟩, ⟨mr3, mt3⟩, ⟨mr4, mt4⟩, ⟨mr5, mt5⟩, ⟨mr6, mt6⟩, ⟨mr7, mt7⟩, ⟨mr8, mt8⟩, ⟨mr9, mt9⟩, ⟨mr10, mt10⟩, ⟨mr11, mt11⟩, ⟨mr12, mt12⟩, ⟨mr13, mt13⟩, ⟨mr14, mt14⟩, ⟨mr15, mt15⟩, ⟨mr16, mt16⟩, ⟨mr17, mt17⟩, ⟨mr18, mt18⟩, ⟨mr19, mt19⟩, ⟨mr20, mt20⟩, ⟨mr21, mt21⟩, ⟨mr22, mt22⟩, ⟨mr23, mt23⟩, ⟨mr24, mt24⟩, ⟨mr25, mt25⟩, ⟨mr26, mt26⟩, ⟨mr27, mt27⟩, ⟨mr28, mt28⟩, ⟨mr29, mt29⟩, ⟨mr30, mt30⟩, ⟨mr31, mt31⟩, ⟨mr32, mt32⟩, ⟨mr33, mt33⟩, ⟨mr34, mt34⟩, ⟨mr35, mt35⟩, ⟨mr36, mt36⟩, ⟨mr37, mt37⟩, ⟨mr38, mt38⟩, ⟨mr39, mt39⟩, ⟨mr40, mt40⟩, ⟨mr41, mt41⟩, ⟨mr42, mt42⟩, ⟨mr43, mt43⟩⟩ := id lm
  have fr : Fm q F40 (A41 q) h h := Fm.refl
  obtain ⟨k1, k2⟩ := tkL _ htk
  unfold FX12_plain
  rcases (show op ≤ 4 ∨ op = 5 ∨ op = 6 ∨ op = 7 by omega) with h4 | rfl | rfl | rfl
  · rw [xop_v (by omega) (by omega) (by omega), jput_v (by omega) (by omega)]
    have ht : j_tk P op (cN A) (cN B) = [] := by
      rcases (show op = 0 ∨ op = 1 ∨ op = 2 ∨ op = 3 ∨ op = 4 by omega) with rfl | rfl | rfl | rfl | rfl <;> rfl
    have hp : j_pt P op (cN A) (cN B) = op := by unfold j_pt; rw [if_pos h4]
    have ed : d - tkW [] = d := rfl
    rw [ht] at k2
    have k2 : e = d := k2
    subst k2
    rw [ht, hp, ed]
    have hw := wd_le op
    have cn : ∀ k, (k = 1 ∨ k = 3) → op = k → Ok (BX12_plain_44 (some q) (nI c) (nI k) A h) (fun _ g => MRz q c h lk (m, i, e, s, l, hn) (Sx e k σ lk) (xw m e k s l (xo (p_c P (cN A)) hn (i + 1) T)) g) := by
      intro k hk he
      have h1 : wi A (p_nc P) = true := by
        unfold j_od at hod
        rw [if_pos (by omega)] at hod
        exact hod
      obtain ⟨j, hj, rfl, ec⟩ := wi_ex (by have := pw.2.1; omega) h1
      have hnc := pw.2.1
      unfold BX12_plain_44
      rw [gR_ok mt0, mr15, aL_n mt15 (by omega) (by decide), pm.2.2.2.1 j hj, ec]
      subst he
      exact mr_push mx fr Fo2.refl msk (by omega) (by omega) _
    rcases (show op = 0 ∨ op = 1 ∨ op = 2 ∨ op = 3 ∨ op = 4 by omega) with rfl | rfl | rfl | rfl | rfl
    · rw [if_neg (by decide), if_neg (by decide), if_neg (by decide), if_neg (by decide), if_neg (by decide), if_neg (by decide)]
      exact mr_push mx fr Fo2.refl msk (by omega) (by omega) _
    · rw [if_pos (show nI 1 = 1 from rfl)]
      exact cn 1 (Or.inl rfl) rfl
    · rw [if_neg (by decide), if_neg (by decide), if_neg (by decide), if_neg (by decide), if_neg (by decide), if_neg (by decide)]
      exact mr_push mx fr Fo2.refl msk (by omega) (by omega) _
    · rw [if_neg (by decide), if_pos (show nI 3 = 3 from rfl)]
      exact cn 3 (Or.inr rfl) rfl
    · rw [if_neg (by decide), if_neg (by decide), if_pos (show nI 4 = 4 from rfl)]
      exact mr_push (pt := 4) mx fr Fo2.refl msk (by omega) (by omega) _
  · have h1 : (wi B 5 && wi A (17 - wd (cN B))) = true := hod
    rw [Bool.and_eq_true] at h1
    obtain ⟨b, hb, rfl, ecb⟩ := wi_ex (by decide) h1.1
    have hw := wd_le b
    rw [ecb] at h1 h57 k2 ⊢
    obtain ⟨a, ha, rfl, eca⟩ := wi_ex (by omega) h1.2
    rw [eca] at h57 k2 ⊢
    have k2 : e = d := k2
    subst k2
    have hl : lk a = b := by
      by_cases z : lk a = b
      · exact z
      · exact absurd (Or.inl ⟨rfl, z⟩) h57
    have e1 := mlc a (by omega) (by omega)
    rw [xop_v (by omega) (by omega) (by omega), jput_v (by omega) (by omega), ecb, eca]
    have e3 : x_val P 5 (nI a) (nI b) e s l hn i T = xo (l a) hn (i + 1) T := by show xo (l (cN (nI a))) hn (i + 1) T = _; rw [eca]
    rw [e3]
    rw [if_neg (by decide), if_neg (by decide), if_neg (by decide), if_pos (show nI 5 = 5 from rfl), gR_ok mt0, mr42, nl_18, pk_mul, nI_add, aL_n mt42 (by omega) (by decide), e1]
    exact mr_push (pt := b) mx fr Fo2.refl msk hb (by omega) _
  · have h1 : (wi B 5 && wi A (17 - wd (cN B))) = true := hod
    rw [Bool.and_eq_true] at h1
    obtain ⟨b, hb, rfl, ecb⟩ := wi_ex (by decide) h1.1
    have hw := wd_le b
    rw [ecb] at h1 htk k1 k2 ⊢
    obtain ⟨a, ha, rfl, eca⟩ := wi_ex (by omega) h1.2
    rw [eca] at htk k1 k2 ⊢
    have ej : j_tk P 6 a b = [b] := rfl
    rw [ej] at htk k1 k2
    rw [tkW_1] at k1 k2
    obtain ⟨g1, g2, -⟩ := tk_hd htk
    subst k2
    rw [if_neg (by decide), if_neg (by decide), if_neg (by decide), if_neg (by decide), if_pos (show nI 6 = 6 from rfl), gR_ok mt0, mr42, rcv_ok mt0]
    refine ok_cl (m_take lm msk hc hb g1 g2) (fun r g x => ?_)
    obtain ⟨rfl, x2, x3, x4⟩ := x
    have lg := lm.fm x3
    rw [nl_18, pk_mul, nI_add, sL_n (show hT g (q + 42) = _ by rw [x3.1]; exact mt42) (by omega) (by decide)]
    have f2 : Fm q F40 (fun b => b = q + 42) g (wL g (q + 42) (18 * c + a) (s (d - wd b))) := Fm.wb rfl (by omega)
    have ff : Fm q FW (AW q) h (wL g (q + 42) (18 * c + a) (s (d - wd b))) := (x3.mono f40w a41w).trans (f2.mono f40w (fun b z => by unfold AW; omega))
    have fo2 : Fo2 q c g (wL g (q + 42) (18 * c + a) (s (d - wd b))) := fun y hy => ⟨⟨rfl, rfl, rfl⟩, fun p hp => by rw [hL_wL_a (by omega)], fun j hj => by rw [hL_wL_k (by omega)], fun t ht => rfl⟩
    have ejp : j_put P 6 a b (d - wd b) σ lk = (d - wd b, σ, dh (wrl lk a b)) := rfl
    have exo : x_op P 6 (nI a) (nI b) (m, i, d, s, l, hn) T = (none, (m, i + 1, d - wd b, s, vp_updL l a (s (d - wd b)), hn), T) := by
      unfold x_op
      rw [if_neg (by omega), if_pos rfl, ecb, eca]
    rw [ejp, exo]
    refine ok_some ⟨ff, x4.trans fo2, ⟨?_, ?_⟩, (mth.fm x3 ⟨fun z => z, fun z => z⟩ (fun b h1 h2 => n41 (by omega) (by omega))).fm f2 ⟨fun z => z, fun z => z⟩ (fun b h1 h2 => by omega), ?_, x2.fm f2 (by omega) (by omega), fun j hj hlt => ?_, (mhd.fm x3 (n41 (by omega) (by omega))).fm f2 (by omega)⟩
    · show hI g (q + 38) c = _
      rw [(x3.2.2.2.1 (q + 38) (by omega) (n41 (by omega) (by omega))).1]
    · show hI g (q + 39) c = _
      rw [(x3.2.2.2.1 (q + 39) (by omega) (n41 (by omega) (by omega))).1]
    · show hI g q 64 = -1
      rw [(x3.2.2.2.2 64 (fun z => z)).1]; exact mx.2.2.2.2.2.2.1.1
    · dsimp only at hlt ⊢
      have e42 : ∀ j, hL g (q + 42) j = hL h (q + 42) j := fun j => by rw [(x3.2.2.2.1 (q + 42) (by omega) (n41 (by omega) (by omega))).2]
      rcases dh_or (wrl lk a b) j with y | y
      · omega
      · rw [y] at hlt
        unfold wrl at hlt
        by_cases jb : j = a
        · subst jb
          rw [hL_wL_s]; exact (if_pos rfl).symm
        · have ev : vp_updL l a (s (d - wd b)) j = l j := if_neg jb
          rw [hL_wL_k (by omega), e42, ev]
          by_cases w2 : wd b = 2
          · rw [if_pos w2] at hlt
            by_cases ja : j = a + 1
            · subst ja
              rw [va_s] at hlt
              unfold en at hlt
              split at hlt <;> omega
            · rw [va_n _ _ ja, va_n _ _ jb] at hlt
              exact mlc j hj hlt
          · rw [if_neg w2, va_n _ _ jb] at hlt
            exact mlc j hj hlt
  · have h1 : wi A 16 = true := hod
    obtain ⟨a, ha, rfl, eca⟩ := wi_ex (by decide) h1
    rw [eca] at h57 k2 ⊢
    have k2 : e = d := k2
    subst k2
    have l0 : lk a = 0 := by
      by_cases z : lk a = 0
      · exact z
      · exact absurd (Or.inr ⟨rfl, z⟩) h57
    have e1 := mlc a ha (by omega)
    rw [if_neg (by decide), if_neg (by decide), if_neg (by decide), if_neg (by decide), if_neg (by decide), if_pos (show nI 7 = 7 from rfl), gR_ok mt0, mr42, gR_ok mt0, mr42, nl_18, pk_mul, nI_add, aL_n mt42 (by omega) (by decide), e1, sL_n mt42 (by omega) (by decide), Int64.toInt32_add, sx_r]
    have f2 : Fm q F40 (fun b => b = q + 42) h (wL h (q + 42) (18 * c + a) (Int32.toInt64 ((l a).toInt32 + B))) := Fm.wb rfl (by omega)
    have exo : x_op P 7 (nI a) B (m, i, e, s, l, hn) T = (none, (m, i + 1, e, s, vp_updL l a (Int32.toInt64 ((l a).toInt32 + B)), hn), T) := by
      unfold x_op
      rw [if_neg (by omega), if_neg (by omega), if_pos rfl, eca]
    have ejp : j_put P 7 a (cN B) e σ lk = (e, σ, lk) := rfl
    rw [exo, ejp]
    refine ok_some ⟨f2.mono f40w (fun b z => by unfold AW; omega), fun y hy => ⟨⟨rfl, rfl, rfl⟩, fun p hp => by rw [hL_wL_a (by omega)], fun j hj => by rw [hL_wL_k (by omega)], fun t ht => rfl⟩, ⟨rfl, rfl⟩, mth.fm f2 ⟨fun z => z, fun z => z⟩ (fun b h1 h2 => by omega), mx.2.2.2.2.2.2.1.1, msk.fm f2 (by omega) (by omega), fun j hj hlt => ?_, mhd.fm f2 (by omega)⟩
    dsimp only at hlt ⊢
    by_cases jb : j = a
    · subst jb
      rw [hL_wL_s]; exact (if_pos rfl).symm
    · rw [hL_wL_k (by omega), mlc j hj hlt]
      exact (if_neg jb).symm
theorem m_n67 (mx : MX h q c P (m, i, d, s, l, hn) σ lk T) (f : Fm q F40 (A41 q) h g) (fo : Fo2 q c h g) {D a b : Nat} (w : MSk g q c D σ s) (ha : a < 12) (hb : b < 2) (hD : D + wd b ≤ 14) {x y : Int64} (hy : (a = 3 ∨ a = 4) → ¬ y = 0) (hsx : b = 0 → sx x ∧ sx y) : Ok (BX12_number3_67 (some q) (nI c) (nI a) (nI b) y x g) (fun _ g' => MRz q c h lk (m, i, d, s, l, hn) (Sx D b σ lk) (xw m D b s l (xo (if b = 1 then c_lng a x y else Int32.toInt64 (c_int a x.toInt32 y.toInt32)) hn (i + 1) T)) g') := by
  unfold BX12_number3_67 BX12_number3_97
  by_cases c1 : b = 1
  · subst c1
    have e := g_reckL (x := x) ha hy g
    rw [show (1 : Int32) = nI 1 from rfl] at e
    rw [e, cl_ok, if_neg (by decide), if_pos rfl]
    exact mr_push (pt := 1) mx f fo w (by omega) hD _
  · have c0 : b = 0 := by omega
    subst c0
    obtain ⟨z1, z2⟩ := hsx rfl
    obtain ⟨v, e, ev⟩ := g_reckI ha z1 z2 hy g
    rw [show (0 : Int32) = nI 0 from rfl] at e
    rw [e, cl_ok, if_pos (show nI 0 = 0 from rfl), ev, if_neg c1]
    exact mr_push (pt := 0) mx f fo w (by omega) hD _
theorem m_number {op e : Nat} {A B : Int32} (mx : MX h q c P (m, i, d, s, l, hn) σ lk T) (h1 : 17 ≤ op) (h2 : op ≤ 19) (hod : j_od P op A B = true) (htk : takeL σ (j_tk P op (cN A) (cN B)) d = some e) (hd : d ≤ 12) (ty : TSt T.1 d σ s) : Ok (FX12_number3 (some q) (nI c) (nI op) A B h) (fun _ g => MRz q c h lk (m, i, d, s, l, hn) (j_put P op (cN A) (cN B) e σ lk) (x_op P op A B (m, i, d, s, l, hn) T) g) := by
  obtain ⟨lm, pm, mth, msk, mlc, mhd, -, hc⟩ := id mx
  have msk : MSk h q c d σ s := msk
  have fr : Fm q F40 (A41 q) h h := Fm.refl
  have t0 : hT h q = some (.inl 11) := lm.1
  rw [xop_v (by omega) (by omega) (by omega), jput_v (by omega) (by omega)]
  obtain ⟨k1, k2⟩ := tkL _ htk
  unfold FX12_number3
  rcases (show op = 17 ∨ op = 18 ∨ op = 19 by omega) with rfl | rfl | rfl
  · have h1 : (wi A 12 && wi B 2) = true := hod
    rw [Bool.and_eq_true] at h1
    obtain ⟨a, ha, rfl, eca⟩ := wi_ex (by decide) h1.1
    obtain ⟨b, hb, rfl, ecb⟩ := wi_ex (by decide) h1.2
    rw [eca, ecb] at htk k1 k2 ⊢
    have ep : j_pt P 17 a b = b := rfl
    have ev : x_val P 17 (nI a) (nI b) d s l hn i T = x_num 17 a b d s hn i T := by
      show x_num 17 (cN (nI a)) (cN (nI b)) d s hn i T = _
      rw [eca, ecb]
    rw [ep, ev]
    have hw := wd_le b
    have sxv : ∀ p, p < d → σ p = 0 → sx (s p) := fun p hp z => by
      have := ty p hp
      rw [z] at this
      exact this.1 (Or.inl rfl)
    unfold x_num
    rw [if_pos rfl, if_pos (show nI 17 = 17 from rfl), nl_11, if_eq (by omega) (by decide)]
    by_cases c11 : a = 11
    · have et : j_tk P 17 a b = [b] := by show (if a < 8 then [b, b] else if a = 11 then [b] else [0, b]) = _; rw [if_neg (by omega), if_pos c11]
      rw [et] at htk k1 k2 ⊢
      rw [tkW_1] at k1 k2 ⊢
      obtain ⟨g1, g2, -⟩ := tk_hd htk
      rw [if_pos c11, if_neg (by omega), if_pos c11, k2]
      unfold BX12_number3_33
      rw [rcv_ok t0]
      refine ok_cl (m_take lm msk hc (by omega) g1 g2) (fun r g x => ?_)
      obtain ⟨rfl, x2, x3, x4⟩ := x
      rw [nl_3, nl_4, if_eq (by omega) (by decide), if_eq (by omega) (by decide), if_neg (by omega), if_neg (by omega)]
      exact m_n67 mx x3 x4 x2 ha hb (by omega) (fun z => by omega) (fun z => ⟨sxv _ (by omega) (by rw [g2]; exact z), by exact sx_32 0⟩)
    · rw [if_neg c11, nl_8, if_lt (by omega) (by decide)]
      by_cases c8 : a < 8
      · have et : j_tk P 17 a b = [b, b] := by show (if a < 8 then [b, b] else if a = 11 then [b] else [0, b]) = _; rw [if_pos c8]
        rw [et] at htk k1 k2 ⊢
        rw [tkW_2] at k1 k2 ⊢
        obtain ⟨g1, g2, g3⟩ := tk_hd htk
        obtain ⟨g4, g5, -⟩ := tk_hd g3
        rw [if_pos c8, k2, show d - (wd b + wd b) = d - wd b - wd b by omega]
        unfold BX12_number3_30
        rw [rcv_ok t0]
        refine ok_cl (m_take lm msk hc (by omega) g1 g2) (fun r g x => ?_)
        obtain ⟨rfl, x2, x3, x4⟩ := x
        have lg := lm.fm x3
        unfold BX12_number3_33
        rw [rcv_ok lg.1]
        refine ok_cl (m_take lg x2 hc (by omega) g4 g5) (fun r g' y => ?_)
        obtain ⟨rfl, y2, y3, y4⟩ := y
        have ff := x3.trans y3
        have fo := x4.trans y4
        rw [nl_3, nl_4, if_eq (by omega) (by decide), if_eq (by omega) (by decide)]
        unfold BX12_number3_54
        by_cases z0 : s (d - wd b) = 0
        · by_cases c34 : a = 3 ∨ a = 4
          · have hcc : (a = 3 ∨ a = 4) ∧ s (d - wd b) = 0 := ⟨c34, z0⟩
            rw [if_pos hcc]
            have fin : Ok (if s (d - wd b) = 0 then rcv g' (some q) 11 <| cl (FX12_fail (some q) 0 g') fun v2 h3 => some ((), h3) else BX12_number3_67 (some q) (nI c) (nI a) (nI b) (s (d - wd b)) (s (d - wd b - wd b)) g') (fun _ g' => MRz q c h lk (m, i, d, s, l, hn) (Sx (d - wd b - wd b) b σ lk) (xw m (d - wd b - wd b) b s l (xf 0 hn i T)) g') := by
              rw [if_pos z0]
              exact mr_fail mx ff fo 0 _ _ _
            by_cases c3 : a = 3
            · rw [if_pos c3]; exact fin
            · rw [if_neg c3, if_pos (by omega)]; exact fin
          · have hcc : ¬ ((a = 3 ∨ a = 4) ∧ s (d - wd b) = 0) := fun z => c34 z.1
            rw [if_neg hcc, if_neg (by omega), if_neg (by omega), if_neg c11, if_pos c8]
            exact m_n67 mx ff fo y2 ha hb (by omega) (fun z => absurd z c34) (fun z => ⟨sxv _ (by omega) (by rw [g5]; exact z), sxv _ (by omega) (by rw [g2]; exact z)⟩)
        · have hcc : ¬ ((a = 3 ∨ a = 4) ∧ s (d - wd b) = 0) := fun z => z0 z.2
          rw [if_neg hcc, if_neg z0, if_neg c11, if_pos c8]
          have fin := m_n67 mx ff fo y2 ha hb (x := s (d - wd b - wd b)) (y := s (d - wd b)) (by omega) (fun _ => z0) (fun z => ⟨sxv _ (by omega) (by rw [g5]; exact z), sxv _ (by omega) (by rw [g2]; exact z)⟩)
          by_cases c3 : a = 3
          · rw [if_pos c3]; exact fin
          · rw [if_neg c3]
            by_cases c4 : a = 4
            · rw [if_pos c4]; exact fin
            · rw [if_neg c4]; exact fin
      · have et : j_tk P 17 a b = [0, b] := by show (if a < 8 then [b, b] else if a = 11 then [b] else [0, b]) = _; rw [if_neg c8, if_neg c11]
        have w0 : wd 0 = 1 := rfl
        rw [et] at htk k1 k2 ⊢
        rw [tkW_2, w0] at k1 k2 ⊢
        obtain ⟨g1, g2, g3⟩ := tk_hd htk
        rw [w0] at g1 g2 g3
        obtain ⟨g4, g5, -⟩ := tk_hd g3
        rw [if_neg c8, if_neg (by omega), if_neg c11, if_neg c8, k2, show d - (1 + wd b) = d - 1 - wd b by omega, nI_c0]
        unfold BX12_number3_30
        rw [rcv_ok t0]
        refine ok_cl (m_take (k := 0) lm msk hc (by omega) g1 g2) (fun r g x => ?_)
        obtain ⟨rfl, x2, x3, x4⟩ := x
        have x2 : MSk g q c (d - 1) σ s := x2
        have lg := lm.fm x3
        unfold BX12_number3_33
        rw [rcv_ok lg.1]
        refine ok_cl (m_take lg x2 hc (by omega) g4 g5) (fun r g' y => ?_)
        obtain ⟨rfl, y2, y3, y4⟩ := y
        rw [nl_3, nl_4, if_eq (by omega) (by decide), if_eq (by omega) (by decide), if_neg (by omega), if_neg (by omega)]
        exact m_n67 mx (x3.trans y3) (x4.trans y4) y2 ha hb (by omega) (fun z => by omega) (fun z => ⟨sxv _ (by omega) (by rw [g5]; exact z), sxv _ (by show d - 1 < d; omega) g2⟩)
  · have ho : wi A 5 = true := hod
    obtain ⟨a, ha, rfl, eca⟩ := wi_ex (by decide) ho
    rw [eca] at htk k1 k2 ⊢
    have et : j_tk P 18 a (cN B) = [if a = 3 then 1 else 0] := rfl
    have ep : j_pt P 18 a (cN B) = if a = 4 then 1 else 0 := rfl
    have ev : x_val P 18 (nI a) B d s l hn i T = xo (c_cnv a (s (d - wd (if a = 3 then 1 else 0)))) hn (i + 1) T := by
      show xo (c_cnv (cN (nI a)) (s (d - wd (if cN (nI a) = 3 then 1 else 0)))) hn (i + 1) T = _
      rw [eca]
    rw [et] at htk k1 k2 ⊢
    rw [ep, ev]
    rw [tkW_1] at k1 k2 ⊢
    obtain ⟨g1, g2, -⟩ := tk_hd htk
    have hw := wd_le (if a = 3 then 1 else 0)
    rw [if_neg (by decide), if_pos (show nI 18 = 18 from rfl), nl_3, if_eq (by omega) (by decide), k2]
    have go : ∀ k, k < 2 → k = (if a = 3 then 1 else 0) → Ok (BX12_number3_121 (some q) (nI c) (nI a) (some q) (nI c) (nI k) h) (fun _ g => MRz q c h lk (m, i, d, s, l, hn) (Sx (d - wd (if a = 3 then 1 else 0)) (if a = 4 then 1 else 0) σ lk) (xw m (d - wd (if a = 3 then 1 else 0)) (if a = 4 then 1 else 0) s l (xo (c_cnv a (s (d - wd (if a = 3 then 1 else 0)))) hn (i + 1) T)) g) := by
      intro k hk ek
      rw [← ek] at k1 hw g1 g2 ⊢
      unfold BX12_number3_121
      rw [rcv_ok t0]
      refine ok_cl (m_take lm msk hc (by omega) g1 g2) (fun r g x => ?_)
      obtain ⟨rfl, x2, x3, x4⟩ := x
      rw [nl_4, if_eq (by omega) (by decide)]
      unfold BX12_number3_138 BX12_number3_166 c_cnv
      by_cases c4 : a = 4
      · rw [if_pos c4, if_pos c4, if_pos c4, nl_4, if_eq (by omega) (by decide), if_pos c4]
        exact mr_push (pt := 1) mx x3 x4 x2 (by omega) (by show _ + 2 ≤ 14; omega) _
      · rw [if_neg c4, if_neg c4, if_neg c4, nl_4, if_eq (by omega) (by decide), if_neg c4, nl_3, if_eq (by omega) (by decide)]
        by_cases c3 : a = 3
        · rw [if_pos c3, if_pos c3]
          exact mr_push (pt := 0) mx x3 x4 x2 (by omega) (by show _ + 1 ≤ 14; omega) _
        · have gn := g_nar (b := 5 + a) (by omega) (by omega) (s (d - wd k)) g
          rw [show 5 + a - 5 = a by omega] at gn
          rw [if_neg c3, if_neg c3, gn, cl_ok]
          exact mr_push (pt := 0) mx x3 x4 x2 (by omega) (by show _ + 1 ≤ 14; omega) _
    by_cases c3 : a = 3
    · rw [if_pos c3]; exact go 1 (by omega) (by rw [if_pos c3])
    · rw [if_neg c3]; exact go 0 (by omega) (by rw [if_neg c3])
  · have ho : wi A 5 = true := hod
    obtain ⟨a, ha, rfl, eca⟩ := wi_ex (by decide) ho
    rw [eca] at htk k1 k2 ⊢
    have et : j_tk P 19 a (cN B) = [kcm a, kcm a] := rfl
    have ep : j_pt P 19 a (cN B) = 0 := rfl
    have ev : x_val P 19 (nI a) B d s l hn i T = xo (Int32.toInt64 (c_cmp a (s (d - wd (kcm a) - wd (kcm a))) (s (d - wd (kcm a))))) hn (i + 1) T := by
      show xo (Int32.toInt64 (c_cmp (cN (nI a)) (s (d - wd (kcm (cN (nI a))) - wd (kcm (cN (nI a))))) (s (d - wd (kcm (cN (nI a))))))) hn (i + 1) T = _
      rw [eca]
    rw [et] at htk k1 k2 ⊢
    rw [ep, ev]
    rw [tkW_2] at k1 k2 ⊢
    obtain ⟨g1, g2, g3⟩ := tk_hd htk
    obtain ⟨g4, g5, -⟩ := tk_hd g3
    have hk5 : kcm a < 5 := by unfold kcm; split <;> first | omega | (split <;> omega)
    have hw := wd_le (kcm a)
    rw [if_neg (by decide), if_neg (by decide), k2, show d - (wd (kcm a) + wd (kcm a)) = d - wd (kcm a) - wd (kcm a) by omega]
    have go : Ok (BX12_number3_190 (some q) (nI c) (nI a) (nI (kcm a)) h) (fun _ g => MRz q c h lk (m, i, d, s, l, hn) (Sx (d - wd (kcm a) - wd (kcm a)) 0 σ lk) (xw m (d - wd (kcm a) - wd (kcm a)) 0 s l (xo (Int32.toInt64 (c_cmp a (s (d - wd (kcm a) - wd (kcm a))) (s (d - wd (kcm a))))) hn (i + 1) T)) g) := by
      unfold BX12_number3_190
      rw [rcv_ok t0]
      refine ok_cl (m_take lm msk hc hk5 g1 g2) (fun r g x => ?_)
      obtain ⟨rfl, x2, x3, x4⟩ := x
      have lg := lm.fm x3
      rw [rcv_ok lg.1]
      refine ok_cl (m_take lg x2 hc hk5 g4 g5) (fun r g' y => ?_)
      obtain ⟨rfl, y2, y3, y4⟩ := y
      rw [g_cmp ha, cl_ok]
      exact mr_push (pt := 0) mx (x3.trans y3) (x4.trans y4) y2 (by omega) (by show _ + 1 ≤ 14; omega) _
    rcases n5 ha with rfl | rfl | rfl | rfl | rfl <;> exact go
end MP
