/-! THE START: the walker, the whole class, the model -/
section IW
variable {h : Hp} {o : Nat}
def CK (h : Hp) (o c : Nat) : Prop := (hR h (o + 20) c = some (o + 22 + 5 * c) ∧ hT h (o + 22 + 5 * c) = some (.inl 0)) ∧ CC h (o + 22 + 5 * c)
theorem i9_loop : ∀ (f c : Nat) (h : Hp), c ≤ 6 → 6 - c < f → hz h = o + 22 + 5 * c → hT h (o + 14) = some (.inl 8) → hR h (o + 14) 2 = some (o + 20) → hT h (o + 20) = some (.inr (.object "SeldomOps$Call", 6)) → (∀ i, i < c → CK h o i) → Ok (BX9_init_93 f (some (o + 14)) (nI c) h) (fun _ g => hz g = o + 52 ∧ hT g (o + 20) = some (.inr (.object "SeldomOps$Call", 6)) ∧ (∀ i, i < 6 → CK g o i) ∧ ∀ b, b < o + 22 → b ≠ o + 20 → Sm h g b) := by
  intro f
  induction f with
  | zero => intro c h h1 h2; omega
  | succ f ih =>
    intro c h h1 h2 ez t14 r2 t20 hk
    unfold BX9_init_93
    rw [nl_6, if_lt (by omega) (by decide)]
    by_cases d : c < 6
    · rw [if_pos d, gR_ok t14, r2, nA_ok, nz_ok, ez]
      have k0 : hT (aN h (.inl 0)) (o + 22 + 5 * c) = some (.inl 0) := by rw [← ez]; exact aN_new.1
      have zk : hz (aN h (.inl 0)) = o + 22 + 5 * c + 1 := by rw [hz_aN, ez]
      refine ok_cl (i_0 k0 zk) (fun _ g z => ?_)
      obtain ⟨ob, cc⟩ := z
      have zg : hz g = o + 22 + 5 * (c + 1) := by rw [ob.1, zk]; omega
      have sg : ∀ b, b < o + 22 + 5 * c → Sm h g b := fun b hb => (Sm.aN (by omega)).trans (ob.2.2 b (by omega) (by omega))
      have tc : hT g (o + 22 + 5 * c) = some (.inl 0) := ob.2.1.trans k0
      rw [sR_n (by rw [(sg (o + 20) (by omega)).1]; exact t20) d (by decide) tc, nI_1]
      have sw : ∀ b, b ≠ o + 20 → Sm g (wR g (o + 20) c (some (o + 22 + 5 * c))) b := fun b hb => Sm.wR hb
      have wr : ∀ i, hR (wR g (o + 20) c (some (o + 22 + 5 * c))) (o + 20) i = if i = c then some (o + 22 + 5 * c) else hR h (o + 20) i := fun i => by
        by_cases z : i = c
        · rw [if_pos z, z]; exact hR_wR_s
        · rw [if_neg z, hR_wR_k z, (sg (o + 20) (by omega)).2.1]
      have zw : hz (wR g (o + 20) c (some (o + 22 + 5 * c))) = o + 22 + 5 * (c + 1) := zg
      have t20' : hT (wR g (o + 20) c (some (o + 22 + 5 * c))) (o + 20) = some (.inr (.object "SeldomOps$Call", 6)) := (sg (o + 20) (by omega)).1.trans t20
      generalize wR g (o + 20) c (some (o + 22 + 5 * c)) = w at sw wr zw t20' ⊢
      have s2 : ∀ b, b < o + 22 + 5 * c → b ≠ o + 20 → Sm h w b := fun b h1 h2 => (sg b h1).trans (sw b h2)
      refine (ih (c + 1) w (by omega) (by omega) zw ?_ ?_ t20' (fun i hi => ?_)).mono (fun _ g2 z => ⟨z.1, z.2.1, z.2.2.1, fun b h1 h2 => (s2 b (by omega) h2).trans (z.2.2.2 b h1 h2)⟩)
      · rw [(s2 (o + 14) (by omega) (by omega)).1]; exact t14
      · rw [(s2 (o + 14) (by omega) (by omega)).2.1]; exact r2
      · by_cases y : i = c
        · subst y
          refine ⟨⟨by rw [wr, if_pos rfl], by rw [(sw _ (by omega)).1]; exact tc⟩, cc.sm (fun b h1 h2 => sw b (by omega))⟩
        · obtain ⟨⟨x1, x2⟩, x3⟩ := hk i (by omega)
          refine ⟨⟨by rw [wr, if_neg y]; exact x1, by rw [(s2 _ (by omega) (by omega)).1]; exact x2⟩, x3.sm (fun b h1 h2 => s2 b (by omega) (by omega))⟩
    · rw [if_neg d]
      exact ok_some ⟨by omega, t20, fun i hi => hk i (by omega), fun b _ _ => Sm.refl⟩
def L9 : Fl := [(2, some (.object "SeldomOps$Call", 6), 0), (3, some (.int, 3), 0), (4, none, 0)]
def L9b : Fl := [(7, none, -1), (8, none, -1), (9, none, -1), (10, none, 0), (11, none, 0), (12, none, 0), (13, none, 0), (14, none, -1)]
theorem i_9 (t : hT h (o + 14) = some (.inl 8)) (ez : hz h = o + 15) : Ok (FX9_init (some (o + 14)) (some (o + 1)) h) (fun _ g => hz g = o + 52 ∧ WT (hT g) (hR g) o ∧ hI g (o + 15) 4 = 0 ∧ (hI g (o + 14) 6 = 0 ∧ hL g (o + 14) 5 = 0) ∧ ∀ b, b < o + 14 → Sm h g b) := by
  unfold FX9_init
  rw [nz_ok, nA_ok, nz_ok, ez]
  have k7 : hT (aN h (.inl 7)) (o + 15) = some (.inl 7) := by rw [← ez]; exact aN_new.1
  have zk : hz (aN h (.inl 7)) = o + 15 + 1 := by rw [hz_aN, ez]
  refine ok_cl (i_8 k7 zk) (fun _ g z => ?_)
  obtain ⟨ob, ⟨a0, a1, a2, a3⟩, ⟨b0, b1, b2, b3⟩, i4⟩ := z
  have zg : hz g = o + 20 := by rw [ob.1, zk]
  have sg : ∀ b, b ≤ o + 14 → Sm h g b := fun b hb => (Sm.aN (by omega)).trans (ob.2.2 b (by omega) (by omega))
  have t15 : hT g (o + 15) = some (.inl 7) := ob.2.1.trans k7
  have ta : hT g (o + 14) = some (.inl 8) := (sg _ (by omega)).1.trans t
  have tw : hT (wR g (o + 14) 1 (some (o + 15))) (o + 14) = some (.inl 8) := ta
  have lw : o + 14 < hz (wR g (o + 14) 1 (some (o + 15))) := by rw [hz_wR]; omega
  have zw : hz (wR g (o + 14) 1 (some (o + 15))) = o + 20 := zg
  have e : ∀ (w : Hp) (c : Hp → Option (Unit × Hp)), (nA w (.inr (.object "SeldomOps$Call", 6)) fun v17 h18 => pR h18 (some (o + 14)) 8 2 (some v17) fun h24 => nA h24 (.inr (.int, 3)) fun v26 h27 => pR h27 (some (o + 14)) 8 3 (some v26) fun h33 => pI h33 (some (o + 14)) 8 4 0 c) = runC (o + 14) 8 L9 c w := fun w c => rfl
  rw [pR_ok ta, e, runC_ok L9 _ tw lw]
  have ob2 := runF_ob (a := o + 14) L9 _ lw
  have r : ∀ f, hR (runF (o + 14) L9 (wR g (o + 14) 1 (some (o + 15)))) (o + 14) f = vR L9 (o + 20) f (hR (wR g (o + 14) 1 (some (o + 15))) (o + 14) f) := fun f => by rw [← zw]; exact runF_R f L9 _ lw
  have tt : ∀ i y, vT L9 i = some y → hT (runF (o + 14) L9 (wR g (o + 14) 1 (some (o + 15)))) (o + 20 + i) = some (.inr y) := fun i y e => by rw [← zw]; exact (runF_T (a := o + 14) L9 i y _ lw e).1
  have sm : ∀ b, b < o + 20 → b ≠ o + 14 → Sm g (runF (o + 14) L9 (wR g (o + 14) 1 (some (o + 15)))) b := fun b h1 h2 => (Sm.wR h2).trans (ob2.2.2 b (by omega) h2)
  have r1 := (r 1).trans hR_wR_s
  have r2 := r 2
  have r3 := r 3
  have u20 := tt 0 _ rfl
  have u21 := tt 1 _ rfl
  have tx : hT (runF (o + 14) L9 (wR g (o + 14) 1 (some (o + 15)))) (o + 14) = some (.inl 8) := ob2.2.1.trans tw
  have zx : hz (runF (o + 14) L9 (wR g (o + 14) 1 (some (o + 15)))) = o + 22 := by rw [ob2.1, zw]; rfl
  generalize runF (o + 14) L9 (wR g (o + 14) 1 (some (o + 15))) = x at r1 r2 r3 u20 u21 tx zx sm ⊢
  have ty : hT (wI (wL x (o + 14) 5 0) (o + 14) 6 0) (o + 14) = some (.inl 8) := tx
  have ly : o + 14 < hz (wI (wL x (o + 14) 5 0) (o + 14) 6 0) := by show o + 14 < hz x; omega
  have e2 : ∀ (w : Hp) (c : Hp → Option (Unit × Hp)), (pI w (some (o + 14)) 8 7 (-1) fun h53 => pI h53 (some (o + 14)) 8 8 (-1) fun h58 => pI h58 (some (o + 14)) 8 9 (-1) fun h63 => pI h63 (some (o + 14)) 8 10 0 fun h68 => pI h68 (some (o + 14)) 8 11 0 fun h73 => pI h73 (some (o + 14)) 8 12 0 fun h78 => pI h78 (some (o + 14)) 8 13 0 fun h83 => pI h83 (some (o + 14)) 8 14 (-1) c) = runC (o + 14) 8 L9b c w := fun w c => rfl
  rw [pL_ok tx, pZ0_ok (show hT (wL x (o + 14) 5 0) (o + 14) = _ from tx), e2, runC_ok L9b _ ty ly]
  have ob3 := runF_ob (a := o + 14) L9b _ ly
  have y6 : hI (runF (o + 14) L9b (wI (wL x (o + 14) 5 0) (o + 14) 6 0)) (o + 14) 6 = 0 := (runF_I (a := o + 14) 6 L9b _ ly).trans hI_wI_s
  have y5 : hL (runF (o + 14) L9b (wI (wL x (o + 14) 5 0) (o + 14) 6 0)) (o + 14) 5 = 0 := by rw [runF_L (a := o + 14) L9b _ ly, hL_wI]; exact hL_wL_s
  have yr : ∀ f, hR (runF (o + 14) L9b (wI (wL x (o + 14) 5 0) (o + 14) 6 0)) (o + 14) f = hR x (o + 14) f := fun f => runF_R (a := o + 14) f L9b _ ly
  have ys : ∀ b, b < o + 22 → b ≠ o + 14 → Sm x (runF (o + 14) L9b (wI (wL x (o + 14) 5 0) (o + 14) 6 0)) b := fun b h1 h2 => ((Sm.wL h2).trans (Sm.wI h2)).trans (ob3.2.2 b (by show b < hz x; omega) h2)
  have yt : hT (runF (o + 14) L9b (wI (wL x (o + 14) 5 0) (o + 14) 6 0)) (o + 14) = some (.inl 8) := ob3.2.1.trans ty
  have yz : hz (runF (o + 14) L9b (wI (wL x (o + 14) 5 0) (o + 14) 6 0)) = o + 22 := by rw [ob3.1]; exact zx
  generalize runF (o + 14) L9b (wI (wL x (o + 14) 5 0) (o + 14) 6 0) = y at y6 y5 yr ys yt yz ⊢
  rw [pR_ok yt, nI_c0]
  have ws : ∀ b, b ≠ o + 14 → Sm y (wR y (o + 14) 0 (some (o + 1))) b := fun b hb => Sm.wR hb
  have w0 : hR (wR y (o + 14) 0 (some (o + 1))) (o + 14) 0 = some (o + 1) := hR_wR_s
  have wk : ∀ f, f ≠ 0 → hR (wR y (o + 14) 0 (some (o + 1))) (o + 14) f = hR y (o + 14) f := fun f hf => hR_wR_k hf
  have wt : hT (wR y (o + 14) 0 (some (o + 1))) (o + 14) = some (.inl 8) := yt
  have w6 : hI (wR y (o + 14) 0 (some (o + 1))) (o + 14) 6 = 0 := y6
  have w5 : hL (wR y (o + 14) 0 (some (o + 1))) (o + 14) 5 = 0 := y5
  have wz : hz (wR y (o + 14) 0 (some (o + 1))) = o + 22 := yz
  generalize wR y (o + 14) 0 (some (o + 1)) = w at ws w0 wk wt w6 w5 wz ⊢
  have sxw : ∀ b, b < o + 22 → b ≠ o + 14 → Sm x w b := fun b h1 h2 => (ys b h1 h2).trans (ws b h2)
  have sgw : ∀ b, b < o + 20 → b ≠ o + 14 → Sm g w b := fun b h1 h2 => (sm b h1 h2).trans (sxw b (by omega) h2)
  have q2 : hR w (o + 14) 2 = some (o + 20) := (wk 2 (by decide)).trans ((yr 2).trans r2)
  have q20 : hT w (o + 20) = some (.inr (.object "SeldomOps$Call", 6)) := (sxw (o + 20) (by omega) (by omega)).1.trans u20
  refine (i9_loop 7 0 w (by omega) (by omega) wz wt q2 q20 (fun i hi => by omega)).mono (fun _ k z => ?_)
  obtain ⟨zk2, l20, lck, ls⟩ := z
  have s14 := ls (o + 14) (by omega) (by omega)
  have s21 := ls (o + 21) (by omega) (by omega)
  have sgk : ∀ b, o + 15 ≤ b → b < o + 20 → Sm g k b := fun b h1 h2 => (sgw b h2 (by omega)).trans (ls b (by omega) (by omega))
  refine ⟨zk2, ⟨⟨by rw [s14.1]; exact wt, by rw [s14.2.1]; exact w0, by rw [s14.2.1]; exact (wk 1 (by decide)).trans ((yr 1).trans r1), by rw [s14.2.1]; exact q2, by rw [s14.2.1]; exact (wk 3 (by decide)).trans ((yr 3).trans r3)⟩, ⟨by rw [(sgk (o + 15) (by omega) (by omega)).1]; exact t15, by rw [(sgk (o + 15) (by omega) (by omega)).2.1]; exact a0, by rw [(sgk (o + 15) (by omega) (by omega)).2.1]; exact a1, by rw [(sgk (o + 15) (by omega) (by omega)).2.1]; exact a2, by rw [(sgk (o + 15) (by omega) (by omega)).2.1]; exact a3⟩, ⟨by rw [(sgk (o + 16) (by omega) (by omega)).1]; exact b0, by rw [(sgk (o + 17) (by omega) (by omega)).1]; exact b1, by rw [(sgk (o + 18) (by omega) (by omega)).1]; exact b2, by rw [(sgk (o + 19) (by omega) (by omega)).1]; exact b3⟩, ⟨l20, by rw [s21.1, (sxw (o + 21) (by omega) (by omega)).1]; exact u21⟩, fun c hc => ?_⟩, by rw [(sgk (o + 15) (by omega) (by omega)).2.2.1]; exact i4, ⟨by rw [s14.2.2.1]; exact w6, by rw [s14.2.2.2]; exact w5⟩, fun b hb => ((sg b (by omega)).trans (sgw b (by omega) (by omega))).trans (ls b (by omega) (by omega))⟩
  obtain ⟨⟨c1, c2⟩, ⟨c3, c4, c5⟩, ⟨c6, c7⟩, c8, c9, c10⟩ := lck c hc
  have e1 : o + 22 + 5 * c + 1 = o + 23 + 5 * c := by omega
  have e2 : o + 22 + 5 * c + 2 = o + 24 + 5 * c := by omega
  have e3 : o + 22 + 5 * c + 3 = o + 25 + 5 * c := by omega
  have e4 : o + 22 + 5 * c + 4 = o + 26 + 5 * c := by omega
  rw [e1] at c3 c6 c7
  rw [e2] at c7 c8
  rw [e3] at c4 c9
  rw [e4] at c5 c10
  exact ⟨⟨c1, c2⟩, ⟨c3, c4, c5⟩, ⟨c6, c7⟩, c8, c9, c10⟩
/-- the empty picture -/
def P00 : Pg := (fun _ _ _ => 0, fun _ _ _ => 0, fun _ => 0)
def R00 : Nat × Wk := (0, (0, fun _ => (0, 0, 0, (fun _ => 0), (fun _ => 0), fun _ => 0)), (0, (fun _ => 0), (fun _ => 0), (fun _ => 0), fun _ _ => 0), (0, 0, 0), (0, 0, 0), 0)
def G00 : Gs := (P00, (fun _ => tfr), (nob, nob), (0, fun _ => 0), (-1, -1), false, R00)
theorem gi_00 : GI G00 := ⟨⟨by decide, by decide, by decide, fun m hm => absurd hm (Nat.not_lt_zero m), fun t ht => absurd ht (Nat.not_lt_zero t)⟩, by decide, fun m hm => absurd hm (Nat.not_lt_zero m)⟩
def C00 (h : Hp) (o : Nat) : Prop := (PT (hT h) (hR h) o ∧ hI h (o + 1) 1 = 0 ∧ hI h (o + 1) 3 = 0 ∧ hI h (o + 1) 5 = 0) ∧ (JT (hT h) (hR h) o ∧ Sv h (o + 6) (o + 7) (o + 8) (o + 9) 0 (fun _ => 0) (fun _ => 0) ∧ Sv h (o + 10) (o + 11) (o + 12) (o + 13) 0 (fun _ => 0) (fun _ => 0)) ∧ CGb h o 0 (fun _ => 0) (-1, -1) ∧ CGc h o false R00
theorem PT.sm {g : Hp} (v : PT (hT h) (hR h) o) (f : ∀ b, o + 1 ≤ b → b ≤ o + 4 → Sm h g b) : PT (hT g) (hR g) o := by
  unfold PT at v ⊢
  rw [(f (o + 1) (by omega) (by omega)).1, (f (o + 1) (by omega) (by omega)).2.1, (f (o + 2) (by omega) (by omega)).1, (f (o + 3) (by omega) (by omega)).1, (f (o + 4) (by omega) (by omega)).1]
  exact v
theorem C00.cg {g : Hp} (v : C00 h o) (f : ∀ b, o ≤ b → b ≤ o + 52 → Sm h g b) (z : o + 97 ≤ hz g) : CG g o G00 := by
  obtain ⟨⟨v1, v2, v3, v4⟩, ⟨v5, v6, v7⟩, vb, vc⟩ := v
  have s1 := f (o + 1) (by omega) (by omega)
  refine ⟨⟨fun _ => 0, fun _ => 0, ⟨v1.sm (fun b h1 h2 => f b (by omega) (by omega)), ⟨by rw [s1.2.2.1]; exact v2, by rw [s1.2.2.1]; exact v3, by rw [s1.2.2.1]; exact v4⟩, fun m hm => absurd hm (Nat.not_lt_zero m), fun m hm => absurd hm (Nat.not_lt_zero m), fun m hm => absurd hm (Nat.not_lt_zero m)⟩, ⟨fun m hm => absurd hm (Nat.not_lt_zero m), fun m hm => absurd hm (Nat.not_lt_zero m), fun m k hm => absurd hm (Nat.not_lt_zero m), fun m k hm => absurd hm (Nat.not_lt_zero m), fun m t hm => absurd hm (Nat.not_lt_zero m)⟩, v5.sm (f _ (by omega) (by omega)), ⟨⟨(0, (fun _ => 0), fun _ => 0), v6.sm (a := o + 6) (fun b h1 h2 => f b (by omega) (by omega))⟩, ⟨(0, (fun _ => 0), fun _ => 0), v7.sm (a := o + 10) (fun b h1 h2 => f b (by omega) (by omega))⟩⟩, fun m hm => absurd hm (Nat.not_lt_zero m), z, fun m hm => absurd hm (Nat.not_lt_zero m), fun m hm => absurd hm (Nat.not_lt_zero m)⟩, vb.sm (f _ (by omega) (by omega)) (f _ (by omega) (by omega)) (f _ (by omega) (by omega)), vc.sm (fun b h1 h2 => f b (by omega) (by omega))⟩
end IW
