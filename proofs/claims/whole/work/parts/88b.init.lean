/-! THE START: the class's objects as its constructors make them -/
section IN
variable {h : Hp} {a : Nat}
theorem Wv.sm {g : Hp} {w wa d : Nat} {s : Nat → Int64} (v : Wv h w wa d s) (s1 : Sm h g w) (s2 : Sm h g wa) : Wv g w wa d s := by
  unfold Wv at v ⊢
  rw [s1.1, s1.2.1, s1.2.2.1, s2.1, s2.2.2.2]
  exact v
def L10 : Fl := [(0, some (.long, 14), 0), (1, none, 0)]
theorem iw_10 (t : hT h a = some (.inl 9)) (ez : hz h = a + 1) : Ok (FX10_init (some a) h) (fun _ g => Ob h g a 1 ∧ Wv g a (a + 1) 0 (fun _ => 0)) := by
  have lt : a < hz h := by omega
  have e : FX10_init (some a) h = runC a 9 L10 (fun g => some ((), g)) h := rfl
  rw [e, runC_ok L10 h t lt]
  have ob := runF_ob (a := a) L10 h lt
  have r0 := runF_R (a := a) 0 L10 h lt
  have i1 := runF_I (a := a) 1 L10 h lt
  have t0 := (runF_T (a := a) L10 0 _ h lt rfl).1
  rw [ez] at r0 t0
  exact ok_some ⟨ob, ob.2.1.trans t, r0, t0, by omega, i1, by omega, fun i hi => by omega⟩
theorem i_5 (t : hT h a = some (.inl 4)) (ez : hz h = a + 1) : Ok (FX5_init (some a) h) (fun _ g => Ob h g a 3 ∧ Sv g a (a + 1) (a + 2) (a + 3) 0 (fun _ => 0) (fun _ => 0)) := by
  unfold FX5_init
  rw [nz_ok, nA_ok, nz_ok, ez]
  have k9 : hT (aN h (.inl 9)) (a + 1) = some (.inl 9) := by rw [← ez]; exact aN_new.1
  have zk : hz (aN h (.inl 9)) = a + 1 + 1 := by rw [hz_aN, ez]
  refine ok_cl (iw_10 k9 zk) (fun _ g z => ?_)
  obtain ⟨ob, wv⟩ := z
  have zg : hz g = a + 3 := by rw [ob.1, zk]
  have sg : ∀ b, b ≤ a → Sm h g b := fun b hb => (Sm.aN (by omega)).trans (ob.2.2 b (by omega) (by omega))
  have ta : hT g a = some (.inl 4) := (sg a (by omega)).1.trans t
  have lw : a < hz (wR g a 0 (some (a + 1))) := by rw [hz_wR]; omega
  rw [pR_ok ta, nr_ok (show hT (wR g a 0 (some (a + 1))) a = _ from ta) lw]
  have na := NW_a (f := 1) (y := (FieldType.long, 16)) lw
  have nn := NW_new (f := 1) (y := (FieldType.long, 16)) lw
  have ns : ∀ b, b ≠ a → b ≠ a + 3 → Sm g (NW (wR g a 0 (some (a + 1))) a 1 (.long, 16)) b := fun b h1 h2 => (Sm.wR h1).trans (NW_sm (by rw [hz_wR]; omega) h1)
  rw [hz_wR, zg] at na nn
  have zz : hz (NW (wR g a 0 (some (a + 1))) a 1 (.long, 16)) = a + 4 := by rw [NW_z, hz_wR, zg]
  generalize NW (wR g a 0 (some (a + 1))) a 1 (.long, 16) = w at na nn ns zz ⊢
  have tw : hT w a = some (.inl 4) := na.1.trans ta
  refine ok_some ⟨⟨by rw [zz, ez], by rw [tw, t], fun b hb hn => (sg b (by omega)).trans (ns b hn (by omega))⟩, tw, (na.2.2.2.2 0 (by decide)).trans hR_wR_s, na.2.2.2.1, nn.1, by omega, by omega, ?_, fun j hj => by rw [nn.2.2.2]; rfl, fun j hj => by show 0 < 8; decide, fun i hi => by omega⟩
  have := wv.sm (ns (a + 1) (by omega) (by omega)) (ns (a + 1 + 1) (by omega) (by omega))
  exact ⟨this.1, this.2.1, this.2.2.1, this.2.2.2.1, this.2.2.2.2.1, by omega, fun i hi => by omega⟩
theorem iw_1 {p : Option Nat} (t : hT h a = some (.inl 1)) (ez : hz h = a + 1) : Ok (FX1_init (some a) p h) (fun _ g => Ob h g a 8 ∧ (hR g a 0 = p ∧ hR g a 1 = some (a + 1) ∧ hR g a 2 = some (a + 5)) ∧ Sv g (a + 1) (a + 2) (a + 3) (a + 4) 0 (fun _ => 0) (fun _ => 0) ∧ Sv g (a + 5) (a + 6) (a + 7) (a + 8) 0 (fun _ => 0) (fun _ => 0) ∧ hI g a 3 = -1 ∧ hI g a 4 = -1) := by
  unfold FX1_init
  rw [nz_ok, nA_ok, nz_ok, ez]
  have k4 : hT (aN h (.inl 4)) (a + 1) = some (.inl 4) := by rw [← ez]; exact aN_new.1
  have zk : hz (aN h (.inl 4)) = a + 1 + 1 := by rw [hz_aN, ez]
  refine ok_cl (i_5 k4 zk) (fun _ g z => ?_)
  obtain ⟨ob, sv⟩ := z
  have zg : hz g = a + 5 := by rw [ob.1, zk]
  have sg : ∀ b, b ≤ a → Sm h g b := fun b hb => (Sm.aN (by omega)).trans (ob.2.2 b (by omega) (by omega))
  have ta : hT g a = some (.inl 1) := (sg a (by omega)).1.trans t
  rw [pR_ok ta, nA_ok, nz_ok, hz_wR, zg]
  have k5 : hT (aN (wR g a 1 (some (a + 1))) (.inl 4)) (a + 5) = some (.inl 4) := by rw [← zg]; exact aN_new.1
  have zk2 : hz (aN (wR g a 1 (some (a + 1))) (.inl 4)) = a + 5 + 1 := by rw [hz_aN, hz_wR, zg]
  have sk : ∀ b, b < a + 5 → b ≠ a → Sm g (aN (wR g a 1 (some (a + 1))) (.inl 4)) b := fun b h1 h2 => (Sm.wR h2).trans (Sm.aN (by rw [hz_wR, zg]; omega))
  have ka : Sm (wR g a 1 (some (a + 1))) (aN (wR g a 1 (some (a + 1))) (.inl 4)) a := Sm.aN (by rw [hz_wR, zg]; omega)
  refine ok_cl (i_5 k5 zk2) (fun _ k z => ?_)
  obtain ⟨ob2, sv2⟩ := z
  have zg2 : hz k = a + 9 := by rw [ob2.1, zk2]
  have sk2 : ∀ b, b < a + 5 → b ≠ a → Sm g k b := fun b h1 h2 => (sk b h1 h2).trans (ob2.2.2 b (by omega) (by omega))
  have ka2 : Sm (wR g a 1 (some (a + 1))) k a := ka.trans (ob2.2.2 a (by omega) (by omega))
  have ta2 : hT k a = some (.inl 1) := ka2.1.trans ta
  rw [pR_ok ta2, pI_ok (by exact ta2), pI_ok (by exact ta2), pI_ok (by exact ta2), pR_ok (by exact ta2)]
  have sw : ∀ b, b ≠ a → Sm k (wR (wI (wI (wI (wR k a 2 (some (a + 5))) a 3 (-1)) a 4 (-1)) a 5 0) a 0 p) b := fun b hb => ((((Sm.wR hb).trans (Sm.wI hb)).trans (Sm.wI hb)).trans (Sm.wI hb)).trans (Sm.wR hb)
  refine ok_some ⟨⟨?_, ?_, fun b hb hn => ?_⟩, ⟨hR_wR_s, ?_, ?_⟩, sv.sm (a := a + 1) (fun b h1 h2 => (sk2 b (by omega) (by omega)).trans (sw b (by omega))), sv2.sm (a := a + 5) (fun b h1 h2 => sw b (by omega)), ?_, ?_⟩
  · show hz k = _
    rw [zg2, ez]
  · show hT k a = _
    rw [ta2, t]
  · exact ((sg b (by omega)).trans (sk2 b (by omega) hn)).trans (sw b hn)
  · rw [hR_wR_k (by decide)]
    show hR (wR k a 2 (some (a + 5))) a 1 = _
    rw [hR_wR_k (by decide), ka2.2.1]; exact hR_wR_s
  · rw [hR_wR_k (by decide)]; exact hR_wR_s
  · rw [hI_wR, hI_wI_k (by decide), hI_wI_k (by decide)]; exact hI_wI_s
  · rw [hI_wR, hI_wI_k (by decide)]; exact hI_wI_s
def L4 : Fl := [(0, some (.object "SeldomOps$Method", 8), 0), (1, none, 0), (2, some (.long, 40), 0), (3, none, 0), (4, some (.object "SeldomOps$Table", 8), 0), (5, none, 0)]
theorem i_4 (t : hT h a = some (.inl 3)) (ez : hz h = a + 1) : Ok (FX4_init (some a) h) (fun _ g => Ob h g a 3 ∧ (hR g a 0 = some (a + 1) ∧ hR g a 2 = some (a + 2) ∧ hR g a 4 = some (a + 3)) ∧ (hT g (a + 1) = some (.inr (.object "SeldomOps$Method", 8)) ∧ hT g (a + 2) = some (.inr (.long, 40)) ∧ hT g (a + 3) = some (.inr (.object "SeldomOps$Table", 8))) ∧ hI g a 1 = 0 ∧ hI g a 3 = 0 ∧ hI g a 5 = 0) := by
  have lt : a < hz h := by omega
  have e : FX4_init (some a) h = runC a 3 L4 (fun g => some ((), g)) h := rfl
  rw [e, runC_ok L4 h t lt]
  have r : ∀ f, hR (runF a L4 h) a f = vR L4 (a + 1) f (hR h a f) := fun f => by rw [← ez]; exact runF_R f L4 h lt
  have tt : ∀ i y, vT L4 i = some y → hT (runF a L4 h) (a + 1 + i) = some (.inr y) := fun i y e => by rw [← ez]; exact (runF_T (a := a) L4 i y h lt e).1
  exact ok_some ⟨runF_ob (a := a) L4 h lt, ⟨r 0, r 2, r 4⟩, ⟨tt 0 _ rfl, tt 1 _ rfl, tt 2 _ rfl⟩, runF_I (a := a) 1 L4 h lt, runF_I (a := a) 3 L4 h lt, runF_I (a := a) 5 L4 h lt⟩
def L8 : Fl := [(0, some (.int, 60), 0), (1, some (.int, 60), 0), (2, some (.int, 60), 0), (3, some (.long, 6000), 0), (4, none, 0)]
theorem i_8 (t : hT h a = some (.inl 7)) (ez : hz h = a + 1) : Ok (FX8_init (some a) h) (fun _ g => Ob h g a 4 ∧ (hR g a 0 = some (a + 1) ∧ hR g a 1 = some (a + 2) ∧ hR g a 2 = some (a + 3) ∧ hR g a 3 = some (a + 4)) ∧ (hT g (a + 1) = some (.inr (.int, 60)) ∧ hT g (a + 2) = some (.inr (.int, 60)) ∧ hT g (a + 3) = some (.inr (.int, 60)) ∧ hT g (a + 4) = some (.inr (.long, 6000))) ∧ hI g a 4 = 0) := by
  have lt : a < hz h := by omega
  have e : FX8_init (some a) h = runC a 7 L8 (fun g => some ((), g)) h := rfl
  rw [e, runC_ok L8 h t lt]
  have r : ∀ f, hR (runF a L8 h) a f = vR L8 (a + 1) f (hR h a f) := fun f => by rw [← ez]; exact runF_R f L8 h lt
  have tt : ∀ i y, vT L8 i = some y → hT (runF a L8 h) (a + 1 + i) = some (.inr y) := fun i y e => by rw [← ez]; exact (runF_T (a := a) L8 i y h lt e).1
  exact ok_some ⟨runF_ob (a := a) L8 h lt, ⟨r 0, r 1, r 2, r 3⟩, ⟨tt 0 _ rfl, tt 1 _ rfl, tt 2 _ rfl, tt 3 _ rfl⟩, runF_I (a := a) 4 L8 h lt⟩
def CC (h : Hp) (a : Nat) : Prop := (hR h a 4 = some (a + 1) ∧ hR h a 5 = some (a + 3) ∧ hR h a 6 = some (a + 4)) ∧ (hT h (a + 1) = some (.inl 9) ∧ hR h (a + 1) 0 = some (a + 2)) ∧ hT h (a + 2) = some (.inr (.long, 14)) ∧ hT h (a + 3) = some (.inr (.long, 16)) ∧ hT h (a + 4) = some (.inr (.int, 60))
theorem CC.sm {g : Hp} (v : CC h a) (f : ∀ b, a ≤ b → b ≤ a + 4 → Sm h g b) : CC g a := by
  unfold CC at v ⊢
  rw [(f a (by omega) (by omega)).2.1, (f (a + 1) (by omega) (by omega)).1, (f (a + 1) (by omega) (by omega)).2.1, (f (a + 2) (by omega) (by omega)).1, (f (a + 3) (by omega) (by omega)).1, (f (a + 4) (by omega) (by omega)).1]
  exact v
def L0 : Fl := [(5, some (.long, 16), 0), (6, some (.int, 60), 0), (7, none, 0)]
theorem iw_0 (t : hT h a = some (.inl 0)) (ez : hz h = a + 1) : Ok (FX0_init (some a) h) (fun _ g => Ob h g a 4 ∧ CC g a) := by
  unfold FX0_init
  rw [nz_ok, pI_ok t, pR_ok (by exact t), pI_ok (by exact t), pI_ok (by exact t)]
  have s0 : ∀ b, b ≠ a → Sm h (wI (wI (wR (wI h a 0 (-1)) a 1 none) a 2 0) a 3 0) b := fun b hb => (((Sm.wI hb).trans (Sm.wR hb)).trans (Sm.wI hb)).trans (Sm.wI hb)
  have t0 : hT (wI (wI (wR (wI h a 0 (-1)) a 1 none) a 2 0) a 3 0) a = some (.inl 0) := t
  have z0 : hz (wI (wI (wR (wI h a 0 (-1)) a 1 none) a 2 0) a 3 0) = a + 1 := ez
  generalize wI (wI (wR (wI h a 0 (-1)) a 1 none) a 2 0) a 3 0 = k at s0 t0 z0 ⊢
  rw [nA_ok, nz_ok, z0]
  have k9 : hT (aN k (.inl 9)) (a + 1) = some (.inl 9) := by rw [← z0]; exact aN_new.1
  have zk : hz (aN k (.inl 9)) = a + 1 + 1 := by rw [hz_aN, z0]
  refine ok_cl (iw_10 k9 zk) (fun _ g z => ?_)
  obtain ⟨ob, wv⟩ := z
  have zg : hz g = a + 3 := by rw [ob.1, zk]
  have sg : ∀ b, b ≤ a → Sm k g b := fun b hb => (Sm.aN (by omega)).trans (ob.2.2 b (by omega) (by omega))
  have ta : hT g a = some (.inl 0) := (sg a (by omega)).1.trans t0
  have tw : hT (wR g a 4 (some (a + 1))) a = some (.inl 0) := ta
  have lw : a < hz (wR g a 4 (some (a + 1))) := by rw [hz_wR]; omega
  have zw : hz (wR g a 4 (some (a + 1))) = a + 3 := zg
  have e : ∀ w : Hp, (nA w (.inr (.long, 16)) fun v37 h38 => pR h38 (some a) 0 5 (some v37) fun h44 => nA h44 (.inr (.int, 60)) fun v46 h47 => pR h47 (some a) 0 6 (some v46) fun h53 => pI h53 (some a) 0 7 0 fun h58 => some ((), h58)) = runC a 0 L0 (fun g => some ((), g)) w := fun w => rfl
  rw [pR_ok ta, e, runC_ok L0 _ tw lw]
  have ob2 := runF_ob (a := a) L0 _ lw
  have r : ∀ f, hR (runF a L0 (wR g a 4 (some (a + 1)))) a f = vR L0 (a + 3) f (hR (wR g a 4 (some (a + 1))) a f) := fun f => by rw [← zw]; exact runF_R f L0 _ lw
  have tt : ∀ i y, vT L0 i = some y → hT (runF a L0 (wR g a 4 (some (a + 1)))) (a + 3 + i) = some (.inr y) := fun i y e => by rw [← zw]; exact (runF_T (a := a) L0 i y _ lw e).1
  have sm : ∀ b, b < a + 3 → b ≠ a → Sm g (runF a L0 (wR g a 4 (some (a + 1)))) b := fun b h1 h2 => (Sm.wR h2).trans (ob2.2.2 b (by omega) h2)
  generalize runF a L0 (wR g a 4 (some (a + 1))) = w at ob2 r tt sm ⊢
  have wv2 := wv.sm (sm (a + 1) (by omega) (by omega)) (sm (a + 1 + 1) (by omega) (by omega))
  refine ok_some ⟨⟨by rw [ob2.1, zw, ez]; rfl, by rw [ob2.2.1, tw, t], fun b hb hn => ((s0 b hn).trans (sg b (by omega))).trans (sm b (by omega) hn)⟩, ⟨(r 4).trans hR_wR_s, r 5, r 6⟩, ⟨wv2.1, wv2.2.1⟩, wv2.2.2.1, tt 0 _ rfl, tt 1 _ rfl⟩
end IN
