/-! THE START: the walker, the whole class, the model -/
section IW
variable {h : Hp} {o : Nat}
def CKa (h : Hp) (o c : Nat) : Prop := (hR h (o + 20) c = some (o + 22 + 5 * c) ∧ hT h (o + 22 + 5 * c) = some (.inl 0)) ∧ CC h (o + 22 + 5 * c)
theorem i9_loop : ∀ (f c : Nat) (h : Hp), c ≤ 6 → 6 - c < f → hz h = o + 22 + 5 * c → hT h (o + 14) = some (.inl 8) → hR h (o + 14) 2 = some (o + 20) → hT h (o + 20) = some (.inr (.object "SeldomOps$Call", 6)) → (∀ i, i < c → CKa h o i) → Ok (BX9_init_93 f (some (o + 14)) (nI c) h) (fun _ g => hz g = o + 52 ∧ hT g (o + 20) = some (.inr (.object "SeldomOps$Call", 6)) ∧ (∀ i, i < 6 → CKa g o i) ∧ ∀ b, b < o + 22 → b ≠ o + 20 → Sm h g b) := by
  intro f
  induction f with
  | zero => intro c h h1 h2; omega
  | succ f ih =>
    intro c h h1 h2 ez t14 r2 t20 hk
    unfold BX9_init_93
    rw [nl_6, if_lt (by omega) (by decide)]
    by_cases d : c < 6
    · rw [if_pos d, gR_ok t14, r2, nA_ok, nz_ok, ez]
      have k0 : hT (aN h (.inl 0)) (o + 22 + 5 * c) = some (.inl 0) := by rw [← ez]; exact aN_new.1
      have zk : hz (aN h (.inl 0)) = o + 22 + 5 * c + 1 := by rw [hz_aN, ez]
      refine ok_cl (iw_0 k0 zk) (fun _ g z => ?_)
      obtain ⟨ob, cc⟩ := z
      have zg : hz g = o + 22 + 5 * (c + 1) := by rw [ob.1, zk]; omega
      have sg : ∀ b, b < o + 22 + 5 * c → Sm h g b := fun b hb => (Sm.aN (by omega)).trans (ob.2.2 b (by omega) (by omega))
      have tc : hT g (o + 22 + 5 * c) = some (.inl 0) := ob.2.1.trans k0
      rw [sR_n (by rw [(sg (o + 20) (by omega)).1]; exact t20) d (by decide) tc, nI_1]
      have sw : ∀ b, b ≠ o + 20 → Sm g (wR g (o + 20) c (some (o + 22 + 5 * c))) b := fun b hb => Sm.wR hb
      have wr : ∀ i, hR (wR g (o + 20) c (some (o + 22 + 5 * c))) (o + 20) i = if i = c then some (o + 22 + 5 * c) else hR h (o + 20) i := fun i => by
        by_cases z : i = c
        · rw [if_pos z, z]; exact hR_wR_s
        · rw [if_neg z, hR_wR_k z, (sg (o + 20) (by omega)).2.1]
      have zw : hz (wR g (o + 20) c (some (o + 22 + 5 * c))) = o + 22 + 5 * (c + 1) := zg
      have t20' : hT (wR g (o + 20) c (some (o + 22 + 5 * c))) (o + 20) = some (.inr (.object "SeldomOps$Call", 6)) := (sg (o + 20) (by omega)).1.trans t20
      generalize wR g (o + 20) c (some (o + 22 + 5 * c)) = w at sw wr zw t20' ⊢
      have s2 : ∀ b, b < o + 22 + 5 * c → b ≠ o + 20 → Sm h w b := fun b h1 h2 => (sg b h1).trans (sw b h2)
      refine (ih (c + 1) w (by omega) (by omega) zw ?_ ?_ t20' (fun i hi => ?_)).mono (fun _ g2 z => ⟨z.1, z.2.1, z.2.2.1, fun b h1 h2 => (s2 b (by omega) h2).trans (z.2.2.2 b h1 h2)⟩)
      · rw [(s2 (o + 14) (by omega) (by omega)).1]; exact t14
      · rw [(s2 (o + 14) (by omega) (by omega)).2.1]; exact r2
      · by_cases y : i = c
        · subst y
          refine ⟨⟨by rw [wr, if_pos rfl], by rw [(sw _ (by omega)).1]; exact tc⟩, cc.sm (fun b h1 h2 => sw b (by omega))⟩
        · obtain ⟨⟨x1, x2⟩, x3⟩ := hk i (by omega)
          refine ⟨⟨by rw [wr, if_neg y]; exact x1, by rw [(s2 _ (by omega) (by omega)).1]; exact x2⟩, x3.sm (fun b h1 h2 => s2 b (by omega) (by omega))⟩
    · rw [if_neg d]
      exact ok_some ⟨by omega, t20, fun i hi => hk i (by omega), fun b _ _ => Sm.refl⟩
def L9 : Fl := [(2, some (.object "SeldomOps$Call", 6), 0), (3, some (.int, 3), 0), (4, none, 0)]
def L9b : Fl := [(7, none, -1), (8, none, -1), (9, none, -1), (10, none, 0), (11, none, 0), (12, none, 0), (13, none, 0), (14, none, -1)]
theorem vI9 (d : Int32) : vI L9b 6 d = d := by
  unfold L9b
  simp only [vI, show ¬ (6 = 14) by decide, show ¬ (6 = 13) by decide, show ¬ (6 = 12) by decide, show ¬ (6 = 11) by decide, show ¬ (6 = 10) by decide, show ¬ (6 = 9) by decide, show ¬ (6 = 8) by decide, show ¬ (6 = 7) by decide, if_false]
theorem vR9 (n f : Nat) (d : Option Nat) : vR L9b n f d = d := by
  unfold L9b
  simp only [vR]
theorem rc9 : rcnt L9b = 0 := by
  unfold L9b
  simp only [rcnt]
theorem e9_a (a : Nat) : ∀ (w : Hp) (c : Hp → Option (Unit × Hp)), (nA w (.inr (.object "SeldomOps$Call", 6)) fun v17 h18 => pR h18 (some a) 8 2 (some v17) fun h24 => nA h24 (.inr (.int, 3)) fun v26 h27 => pR h27 (some a) 8 3 (some v26) fun h33 => pI h33 (some a) 8 4 0 c) = runC a 8 L9 c w := fun w c => rfl
theorem e9_b (a : Nat) : ∀ (w : Hp) (c : Hp → Option (Unit × Hp)), (pI w (some a) 8 7 (-1) fun h53 => pI h53 (some a) 8 8 (-1) fun h58 => pI h58 (some a) 8 9 (-1) fun h63 => pI h63 (some a) 8 10 0 fun h68 => pI h68 (some a) 8 11 0 fun h73 => pI h73 (some a) 8 12 0 fun h78 => pI h78 (some a) 8 13 0 fun h83 => pI h83 (some a) 8 14 (-1) c) = runC a 8 L9b c w := fun w c => rfl
theorem i9_a {a : Nat} {p : Option Nat} (t : hT h a = some (.inl 8)) (ez : hz h = a + 1) : ∃ w, FX9_init (some a) p h = pR w (some a) 8 0 p (fun h93 => BX9_init_93 7 (some a) 0 h93) ∧ hz w = a + 8 ∧ (hT w a = some (.inl 8) ∧ hR w a 1 = some (a + 1) ∧ hR w a 2 = some (a + 6) ∧ hR w a 3 = some (a + 7)) ∧ (hT w (a + 1) = some (.inl 7) ∧ hR w (a + 1) 0 = some (a + 2) ∧ hR w (a + 1) 1 = some (a + 3) ∧ hR w (a + 1) 2 = some (a + 4) ∧ hR w (a + 1) 3 = some (a + 5)) ∧ (hT w (a + 2) = some (.inr (.int, 60)) ∧ hT w (a + 3) = some (.inr (.int, 60)) ∧ hT w (a + 4) = some (.inr (.int, 60)) ∧ hT w (a + 5) = some (.inr (.long, 6000))) ∧ (hT w (a + 6) = some (.inr (.object "SeldomOps$Call", 6)) ∧ hT w (a + 7) = some (.inr (.int, 3))) ∧ hI w (a + 1) 4 = 0 ∧ (hI w a 6 = 0 ∧ hL w a 5 = 0) ∧ ∀ b, b < a → Sm h w b := by
  unfold FX9_init
  rw [nz_ok, nA_ok, nz_ok, ez]
  have k7 : hT (aN h (.inl 7)) (a + 1) = some (.inl 7) := by rw [← ez]; exact aN_new.1
  have zk : hz (aN h (.inl 7)) = a + 1 + 1 := by rw [hz_aN, ez]
  obtain ⟨_, g, eg, ob, ⟨a0, a1, a2, a3⟩, ⟨b0, b1, b2, b3⟩, i4⟩ := i_8 k7 zk
  rw [eg, cl_ok]
  have zg : hz g = a + 6 := by rw [ob.1, zk]
  have sg : ∀ b, b ≤ a → Sm h g b := fun b hb => (Sm.aN (by omega)).trans (ob.2.2 b (by omega) (by omega))
  have t15 : hT g (a + 1) = some (.inl 7) := ob.2.1.trans k7
  have ta : hT g a = some (.inl 8) := (sg _ (by omega)).1.trans t
  rw [pR_ok ta, e9_a a]
  have k1 : hR (wR g a 1 (some (a + 1))) a 1 = some (a + 1) := hR_wR_s
  have ks : ∀ b, b ≠ a → Sm g (wR g a 1 (some (a + 1))) b := fun b hb => Sm.wR hb
  have tw : hT (wR g a 1 (some (a + 1))) a = some (.inl 8) := ta
  have zw : hz (wR g a 1 (some (a + 1))) = a + 6 := zg
  generalize wR g a 1 (some (a + 1)) = k at k1 ks tw zw ⊢
  have lw : a < hz k := by omega
  rw [runC_ok L9 _ tw lw]
  have ob2 := runF_ob (a := a) L9 _ lw
  have r : ∀ f, hR (runF a L9 k) a f = vR L9 (a + 6) f (hR k a f) := fun f => by rw [← zw]; exact runF_R f L9 _ lw
  have tt : ∀ i y, vT L9 i = some y → hT (runF a L9 k) (a + 6 + i) = some (.inr y) := fun i y e => by rw [← zw]; exact (runF_T (a := a) L9 i y _ lw e).1
  have sm : ∀ b, b < a + 6 → b ≠ a → Sm g (runF a L9 k) b := fun b h1 h2 => (ks b h2).trans (ob2.2.2 b (by omega) h2)
  have r1 : hR (runF a L9 k) a 1 = some (a + 1) := Eq.trans (r 1) k1
  have r2 : hR (runF a L9 k) a 2 = some (a + 6) := r 2
  have r3 : hR (runF a L9 k) a 3 = some (a + 7) := r 3
  have u20 := tt 0 _ rfl
  have u21 := tt 1 _ rfl
  have tx : hT (runF a L9 k) a = some (.inl 8) := ob2.2.1.trans tw
  have zx : hz (runF a L9 k) = a + 8 := by rw [ob2.1, zw]; rfl
  clear r tt ob2
  generalize runF a L9 k = x at r1 r2 r3 u20 u21 tx zx sm ⊢
  rw [pL_ok tx, pZ0_ok (by exact tx), e9_b a]
  have y6 : hI (wI (wL x a 5 0) a 6 0) a 6 = 0 := hI_wI_s
  have y5 : hL (wI (wL x a 5 0) a 6 0) a 5 = 0 := by rw [hL_wI]; exact hL_wL_s
  have yr : hR (wI (wL x a 5 0) a 6 0) = hR x := rfl
  have ys : ∀ b, b ≠ a → Sm x (wI (wL x a 5 0) a 6 0) b := fun b h2 => (Sm.wL h2).trans (Sm.wI h2)
  have ty : hT (wI (wL x a 5 0) a 6 0) a = some (.inl 8) := tx
  have yz : hz (wI (wL x a 5 0) a 6 0) = a + 8 := zx
  generalize wI (wL x a 5 0) a 6 0 = y at y6 y5 yr ys ty yz ⊢
  have ly : a < hz y := by omega
  rw [runC_ok L9b _ ty ly]
  have ob3 := runF_ob (a := a) L9b _ ly
  have x6 : hI (runF a L9b y) a 6 = 0 := by rw [runF_I (a := a) 6 L9b _ ly, vI9]; exact y6
  have x5 : hL (runF a L9b y) a 5 = 0 := by rw [runF_L (a := a) L9b _ ly]; exact y5
  have xr : ∀ f, hR (runF a L9b y) a f = hR y a f := fun f => by rw [runF_R (a := a) f L9b _ ly, vR9]
  have xs : ∀ b, b < a + 8 → b ≠ a → Sm y (runF a L9b y) b := fun b h1 h2 => ob3.2.2 b (by omega) h2
  have xt : hT (runF a L9b y) a = some (.inl 8) := ob3.2.1.trans ty
  have xz : hz (runF a L9b y) = a + 8 := by rw [ob3.1, rc9]; exact yz
  clear ob3
  generalize runF a L9b y = v at x6 x5 xr xs xt xz ⊢
  have wr : ∀ f, hR v a f = hR x a f := fun f => by rw [xr f, yr]
  have sxw : ∀ b, b < a + 8 → b ≠ a → Sm x v b := fun b h1 h2 => (ys b h2).trans (xs b h1 h2)
  have sgw : ∀ b, b < a + 6 → b ≠ a → Sm g v b := fun b h1 h2 => (sm b h1 h2).trans (sxw b (by omega) h2)
  have s1 := sgw (a + 1) (by omega) (by omega)
  refine ⟨v, rfl, xz, ⟨xt, ?_, ?_, ?_⟩, ⟨?_, ?_, ?_, ?_, ?_⟩, ⟨?_, ?_, ?_, ?_⟩, ⟨?_, ?_⟩, ?_, ⟨x6, x5⟩, fun b hb => (sg b (by omega)).trans (sgw b (by omega) (by omega))⟩
  · rw [wr 1]; exact r1
  · rw [wr 2]; exact r2
  · rw [wr 3]; exact r3
  · rw [s1.1]; exact t15
  · rw [s1.2.1]; exact a0
  · rw [s1.2.1]; exact a1
  · rw [s1.2.1]; exact a2
  · rw [s1.2.1]; exact a3
  · rw [(sgw (a + 2) (by omega) (by omega)).1]; exact b0
  · rw [(sgw (a + 3) (by omega) (by omega)).1]; exact b1
  · rw [(sgw (a + 4) (by omega) (by omega)).1]; exact b2
  · rw [(sgw (a + 5) (by omega) (by omega)).1]; exact b3
  · rw [(sxw (a + 6) (by omega) (by omega)).1]; exact u20
  · rw [(sxw (a + 7) (by omega) (by omega)).1]; exact u21
  · rw [s1.2.2.1]; exact i4
theorem i9_pre {a : Nat} {p : Option Nat} (t : hT h a = some (.inl 8)) (ez : hz h = a + 1) : ∃ w, FX9_init (some a) p h = BX9_init_93 7 (some a) 0 w ∧ hz w = a + 8 ∧ (hT w a = some (.inl 8) ∧ hR w a 0 = p ∧ hR w a 1 = some (a + 1) ∧ hR w a 2 = some (a + 6) ∧ hR w a 3 = some (a + 7)) ∧ (hT w (a + 1) = some (.inl 7) ∧ hR w (a + 1) 0 = some (a + 2) ∧ hR w (a + 1) 1 = some (a + 3) ∧ hR w (a + 1) 2 = some (a + 4) ∧ hR w (a + 1) 3 = some (a + 5)) ∧ (hT w (a + 2) = some (.inr (.int, 60)) ∧ hT w (a + 3) = some (.inr (.int, 60)) ∧ hT w (a + 4) = some (.inr (.int, 60)) ∧ hT w (a + 5) = some (.inr (.long, 6000))) ∧ (hT w (a + 6) = some (.inr (.object "SeldomOps$Call", 6)) ∧ hT w (a + 7) = some (.inr (.int, 3))) ∧ hI w (a + 1) 4 = 0 ∧ (hI w a 6 = 0 ∧ hL w a 5 = 0) ∧ ∀ b, b < a → Sm h w b := by
  obtain ⟨v, ev, vz, ⟨vt, r1, r2, r3⟩, ⟨t15, a0, a1, a2, a3⟩, b0, u0, i4, ⟨w6, w5⟩, sw⟩ := i9_a (p := p) t ez
  have ws : ∀ b, b ≠ a → Sm v (wR v a 0 p) b := fun b hb => Sm.wR hb
  have s1 := ws (a + 1) (by omega)
  have w1 : hR (wR v a 0 p) a 1 = some (a + 1) := (hR_wR_k (by decide)).trans r1
  have w2 : hR (wR v a 0 p) a 2 = some (a + 6) := (hR_wR_k (by decide)).trans r2
  have w3 : hR (wR v a 0 p) a 3 = some (a + 7) := (hR_wR_k (by decide)).trans r3
  refine ⟨wR v a 0 p, ev.trans (pR_ok vt), vz, ⟨vt, hR_wR_s, w1, w2, w3⟩, ?_, b0, u0, ?_, ⟨w6, w5⟩, fun b hb => (sw b hb).trans (ws b (by omega))⟩
  · rw [s1.1, s1.2.1]; exact ⟨t15, a0, a1, a2, a3⟩
  · rw [s1.2.2.1]; exact i4
theorem i_9 (t : hT h (o + 14) = some (.inl 8)) (ez : hz h = o + 15) : Ok (FX9_init (some (o + 14)) (some (o + 1)) h) (fun _ g => hz g = o + 52 ∧ WT (hT g) (hR g) o ∧ hI g (o + 15) 4 = 0 ∧ (hI g (o + 14) 6 = 0 ∧ hL g (o + 14) 5 = 0) ∧ ∀ b, b < o + 14 → Sm h g b) := by
  obtain ⟨w, ew, wz, ⟨wt, w0, r1, r2, r3⟩, ⟨t15, a0, a1, a2, a3⟩, ⟨b0, b1, b2, b3⟩, ⟨u20, u21⟩, i4, ⟨w6, w5⟩, sw⟩ := i9_pre (p := some (o + 1)) t ez
  rw [ew, nI_c0]
  refine (i9_loop 7 0 w (by omega) (by omega) (by omega) wt r2 u20 (fun i hi => by omega)).mono (fun _ k z => ?_)
  obtain ⟨zk2, l20, lck, ls⟩ := z
  have s14 := ls (o + 14) (by omega) (by omega)
  have s15 := ls (o + 15) (by omega) (by omega)
  have s16 := ls (o + 16) (by omega) (by omega)
  have s17 := ls (o + 17) (by omega) (by omega)
  have s18 := ls (o + 18) (by omega) (by omega)
  have s19 := ls (o + 19) (by omega) (by omega)
  have s21 := ls (o + 21) (by omega) (by omega)
  refine ⟨zk2, ⟨?_, ?_, ?_, ?_, fun c hc => ?_⟩, by rw [s15.2.2.1]; exact i4, ⟨by rw [s14.2.2.1]; exact w6, by rw [s14.2.2.2]; exact w5⟩, fun b hb => (sw b hb).trans (ls b (by omega) (by omega))⟩
  · rw [s14.1, s14.2.1]; exact ⟨wt, w0, r1, r2, r3⟩
  · rw [s15.1, s15.2.1]; exact ⟨t15, a0, a1, a2, a3⟩
  · rw [s16.1, s17.1, s18.1, s19.1]; exact ⟨b0, b1, b2, b3⟩
  · rw [s21.1]; exact ⟨l20, u21⟩
  · obtain ⟨⟨c1, c2⟩, ⟨c3, c4, c5⟩, ⟨c6, c7⟩, c8, c9, c10⟩ := lck c hc
    have e1 : o + 22 + 5 * c + 1 = o + 23 + 5 * c := by omega
    have e2 : o + 22 + 5 * c + 2 = o + 24 + 5 * c := by omega
    have e3 : o + 22 + 5 * c + 3 = o + 25 + 5 * c := by omega
    have e4 : o + 22 + 5 * c + 4 = o + 26 + 5 * c := by omega
    rw [e1] at c3 c6 c7
    rw [e2] at c7 c8
    rw [e3] at c4 c9
    rw [e4] at c5 c10
    exact ⟨⟨c1, c2⟩, ⟨c3, c4, c5⟩, ⟨c6, c7⟩, c8, c9, c10⟩
/-- the empty picture -/
def P00 : Pg := (fun _ _ _ => 0, fun _ _ _ => 0, fun _ => 0)
def R00 : Nat × Wk := (0, (0, fun _ => (0, 0, 0, (fun _ => 0), (fun _ => 0), fun _ => 0)), (0, (fun _ => 0), (fun _ => 0), (fun _ => 0), fun _ _ => 0), (0, 0, 0), (0, 0, 0), 0)
def G00 : Gs := (P00, (fun _ => tfr), (nob, nob), (0, fun _ => 0), (-1, -1), false, R00)
theorem gi_00 : GI G00 := ⟨⟨by decide, by decide, by decide, fun m hm => absurd hm (Nat.not_lt_zero m), fun t ht => absurd ht (Nat.not_lt_zero t)⟩, by decide, fun m hm => absurd hm (Nat.not_lt_zero m)⟩
def C00 (h : Hp) (o : Nat) : Prop := (PT (hT h) (hR h) o ∧ hI h (o + 1) 1 = 0 ∧ hI h (o + 1) 3 = 0 ∧ hI h (o + 1) 5 = 0) ∧ (JT (hT h) (hR h) o ∧ Sv h (o + 6) (o + 7) (o + 8) (o + 9) 0 (fun _ => 0) (fun _ => 0) ∧ Sv h (o + 10) (o + 11) (o + 12) (o + 13) 0 (fun _ => 0) (fun _ => 0)) ∧ CGb h o 0 (fun _ => 0) (-1, -1) ∧ CGc h o false R00
theorem PT.sm {g : Hp} (v : PT (hT h) (hR h) o) (f : ∀ b, o + 1 ≤ b → b ≤ o + 4 → Sm h g b) : PT (hT g) (hR g) o := by
  unfold PT at v ⊢
  rw [(f (o + 1) (by omega) (by omega)).1, (f (o + 1) (by omega) (by omega)).2.1, (f (o + 2) (by omega) (by omega)).1, (f (o + 3) (by omega) (by omega)).1, (f (o + 4) (by omega) (by omega)).1]
  exact v
theorem C00.cg {g : Hp} (v : C00 h o) (f : ∀ b, o ≤ b → b ≤ o + 52 → Sm h g b) (z : o + 97 ≤ hz g) : CG g o G00 := by
  obtain ⟨⟨v1, v2, v3, v4⟩, ⟨v5, v6, v7⟩, vb, vc⟩ := v
  have s1 := f (o + 1) (by omega) (by omega)
  refine ⟨⟨fun _ => 0, fun _ => 0, ⟨v1.sm (fun b h1 h2 => f b (by omega) (by omega)), ⟨by rw [s1.2.2.1]; exact v2, by rw [s1.2.2.1]; exact v3, by rw [s1.2.2.1]; exact v4⟩, fun m hm => absurd hm (Nat.not_lt_zero m), fun m hm => absurd hm (Nat.not_lt_zero m), fun m hm => absurd hm (Nat.not_lt_zero m)⟩, ⟨fun m hm => absurd hm (Nat.not_lt_zero m), fun m hm => absurd hm (Nat.not_lt_zero m), fun m k hm => absurd hm (Nat.not_lt_zero m), fun m k hm => absurd hm (Nat.not_lt_zero m), fun m t hm => absurd hm (Nat.not_lt_zero m)⟩, v5.sm (f _ (by omega) (by omega)), ⟨⟨(0, (fun _ => 0), fun _ => 0), v6.sm (a := o + 6) (fun b h1 h2 => f b (by omega) (by omega))⟩, ⟨(0, (fun _ => 0), fun _ => 0), v7.sm (a := o + 10) (fun b h1 h2 => f b (by omega) (by omega))⟩⟩, fun m hm => absurd hm (Nat.not_lt_zero m), z, fun m hm => absurd hm (Nat.not_lt_zero m), fun m hm => absurd hm (Nat.not_lt_zero m)⟩, vb.sm (f _ (by omega) (by omega)) (f _ (by omega) (by omega)) (f _ (by omega) (by omega)), vc.sm (fun b h1 h2 => f b (by omega) (by omega))⟩
end IW
