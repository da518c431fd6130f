/-! THE START: the class as a whole, the model -/
section IX
variable {h : Hp} {o : Nat}
theorem iw_11 (t : hT h o = some (.inl 10)) (ez : hz h = o + 1) : Ok (FX11_init (some o) h) (fun _ g => hz g = o + 53 ∧ C00 g o) := by
  unfold FX11_init
  rw [nz_ok, nA_ok, nz_ok, ez]
  have k1 : hT (aN h (.inl 3)) (o + 1) = some (.inl 3) := by rw [← ez]; exact aN_new.1
  have zk : hz (aN h (.inl 3)) = o + 1 + 1 := by rw [hz_aN, ez]
  refine ok_cl (i_4 k1 zk) (fun _ g z => ?_)
  obtain ⟨ob, pr, ptt, pi⟩ := z
  have zg : hz g = o + 5 := by rw [ob.1, zk]
  have sg : ∀ b, b ≤ o → Sm h g b := fun b hb => (Sm.aN (by omega)).trans (ob.2.2 b (by omega) (by omega))
  have t1 : hT g (o + 1) = some (.inl 3) := ob.2.1.trans k1
  have pt : PT (hT g) (hR g) o := ⟨t1, pr, ptt.1, ptt.2.1, ptt.2.2⟩
  have t0 : hT g o = some (.inl 10) := (sg o (by omega)).1.trans t
  rw [pR_ok t0, nA_ok]
  have a0 : hR (wR g o 0 (some (o + 1))) o 0 = some (o + 1) := hR_wR_s
  have as : ∀ b, b ≠ o → Sm g (wR g o 0 (some (o + 1))) b := fun b hb => Sm.wR hb
  have at0 : hT (wR g o 0 (some (o + 1))) o = some (.inl 10) := t0
  have az : hz (wR g o 0 (some (o + 1))) = o + 5 := zg
  generalize wR g o 0 (some (o + 1)) = p at a0 as at0 az ⊢
  have bn : Sm p (aN p (.inl 1)) o := Sm.aN (by omega)
  have b5 : hT (aN p (.inl 1)) (o + 5) = some (.inl 1) := by rw [← az]; exact aN_new.1
  have bz' : hz (aN p (.inl 1)) = o + 5 + 1 := by rw [hz_aN, az]
  have bs : ∀ b, b < o + 5 → Sm p (aN p (.inl 1)) b := fun b hb => Sm.aN (by omega)
  rw [az]
  generalize aN p (.inl 1) = p2 at bn b5 bz' bs ⊢
  rw [gR_ok (bn.1.trans at0), nz_ok, bn.2.1, a0]
  refine ok_cl (iw_1 b5 bz') (fun _ j z => ?_)
  obtain ⟨ob2, jr, sv1, sv2, j3, j4⟩ := z
  have zj : hz j = o + 14 := by rw [ob2.1, bz']
  have js : ∀ b, b < o + 5 → Sm p j b := fun b hb => (bs b hb).trans (ob2.2.2 b (by omega) (by omega))
  have jt : JT (hT j) (hR j) o := ⟨ob2.2.1.trans b5, jr⟩
  have tj : hT j o = some (.inl 10) := (js o (by omega)).1.trans at0
  have rj : hR j o 0 = some (o + 1) := by rw [(js o (by omega)).2.1]; exact a0
  rw [pR_ok tj, nA_ok]
  have c1 : hR (wR j o 1 (some (o + 5))) o 1 = some (o + 5) := hR_wR_s
  have c0 : hR (wR j o 1 (some (o + 5))) o 0 = some (o + 1) := (hR_wR_k (by decide)).trans rj
  have cs : ∀ b, b ≠ o → Sm j (wR j o 1 (some (o + 5))) b := fun b hb => Sm.wR hb
  have ct : hT (wR j o 1 (some (o + 5))) o = some (.inl 10) := tj
  have cz : hz (wR j o 1 (some (o + 5))) = o + 14 := zj
  generalize wR j o 1 (some (o + 5)) = c at c1 c0 cs ct cz ⊢
  have d8 : hT (aN c (.inl 8)) (o + 14) = some (.inl 8) := by rw [← cz]; exact aN_new.1
  have dz : hz (aN c (.inl 8)) = o + 15 := by rw [hz_aN, cz]
  have ds : ∀ b, b < o + 14 → Sm c (aN c (.inl 8)) b := fun b hb => Sm.aN (by omega)
  rw [cz]
  generalize aN c (.inl 8) = d at d8 dz ds ⊢
  have dn := ds o (by omega)
  rw [gR_ok (dn.1.trans ct), nz_ok, dn.2.1, c0]
  refine ok_cl (i_9 d8 dz) (fun _ w z => ?_)
  obtain ⟨zw, wt, w4, ⟨w6, w5⟩, ws⟩ := z
  have sw : ∀ b, b < o + 14 → Sm c w b := fun b hb => (ds b hb).trans (ws b hb)
  have tw : hT w o = some (.inl 10) := (sw o (by omega)).1.trans ct
  rw [pR_ok tw]
  have f2 : hR (wR w o 2 (some (o + 14))) o 2 = some (o + 14) := hR_wR_s
  have fk : ∀ f, f ≠ 2 → hR (wR w o 2 (some (o + 14))) o f = hR c o f := fun f hf => by rw [hR_wR_k hf, (sw o (by omega)).2.1]
  have fs : ∀ b, b ≠ o → Sm w (wR w o 2 (some (o + 14))) b := fun b hb => Sm.wR hb
  have ft : hT (wR w o 2 (some (o + 14))) o = some (.inl 10) := tw
  have fz : hz (wR w o 2 (some (o + 14))) = o + 52 := zw
  generalize wR w o 2 (some (o + 14)) = f at f2 fk fs ft fz ⊢
  have lf : o < hz f := by omega
  rw [nr_ok ft lf, pI_ok ((NW_a lf).1.trans ft)]
  have na := NW_a (f := 3) (y := (FieldType.long, 8)) lf
  have nn := NW_new (f := 3) (y := (FieldType.long, 8)) lf
  rw [fz] at na nn
  have ns : ∀ b, b < o + 52 → b ≠ o → Sm f (NW f o 3 (.long, 8)) b := fun b h1 h2 => NW_sm (by omega) h2
  have nz' : hz (NW f o 3 (.long, 8)) = o + 53 := by rw [NW_z, fz]
  generalize NW f o 3 (.long, 8) = n at na nn ns nz' ⊢
  have us : ∀ b, b ≠ o → Sm n (wI n o 4 0) b := fun b hb => Sm.wI hb
  have u4 : hI (wI n o 4 0) o 4 = 0 := hI_wI_s
  have ur : hR (wI n o 4 0) o = hR n o := rfl
  have ut : hT (wI n o 4 0) o = some (.inl 10) := na.1.trans ft
  have uz : hz (wI n o 4 0) = o + 53 := nz'
  generalize wI n o 4 0 = u at us u4 ur ut uz ⊢
  have swu : ∀ b, o + 1 ≤ b → b < o + 52 → Sm w u b := fun b h1 h2 => ((fs b (by omega)).trans (ns b h2 (by omega))).trans (us b (by omega))
  have sju : ∀ b, o + 1 ≤ b → b < o + 14 → Sm j u b := fun b h1 h2 => ((cs b (by omega)).trans (sw b h2)).trans (swu b h1 (by omega))
  have sgu : ∀ b, o + 1 ≤ b → b < o + 5 → Sm g u b := fun b h1 h2 => ((as b (by omega)).trans (js b h2)).trans (sju b h1 (by omega))
  have s1 := sgu (o + 1) (by omega) (by omega)
  have s5 := sju (o + 5) (by omega) (by omega)
  have s14 := swu (o + 14) (by omega) (by omega)
  have s15 := swu (o + 15) (by omega) (by omega)
  have s52 := us (o + 52) (by omega)
  refine ok_some ⟨uz, ⟨pt.sm (fun b h1 h2 => sgu b (by omega) (by omega)), by rw [s1.2.2.1]; exact pi.1, by rw [s1.2.2.1]; exact pi.2.1, by rw [s1.2.2.1]; exact pi.2.2⟩, ⟨jt.sm s5, sv1.sm (a := o + 6) (fun b h1 h2 => sju b (by omega) (by omega)), sv2.sm (a := o + 10) (fun b h1 h2 => sju b (by omega) (by omega))⟩, ⟨⟨ut, ⟨?_, ?_, ?_, ?_⟩, ?_⟩, ⟨u4, fun i hi => ?_⟩, ?_, ?_⟩, wt.sm (fun b h1 h2 => swu b (by omega) (by omega)), ⟨⟨?_, by decide⟩, fun t ht => absurd ht (Nat.not_lt_zero t)⟩, ⟨?_, ?_⟩, fun z => by cases z⟩
  · rw [ur]; exact (na.2.2.2.2 0 (by decide)).trans ((fk 0 (by decide)).trans c0)
  · rw [ur]; exact (na.2.2.2.2 1 (by decide)).trans ((fk 1 (by decide)).trans c1)
  · rw [ur]; exact (na.2.2.2.2 2 (by decide)).trans f2
  · rw [ur]; exact na.2.2.2.1
  · rw [s52.1]; exact nn.1
  · rw [s52.2.2.2, nn.2.2.2]
  · rw [s5.2.2.1]; exact j3
  · rw [s5.2.2.1]; exact j4
  · rw [s15.2.2.1]; exact w4
  · rw [s14.2.2.1]; exact w6
  · rw [s14.2.2.2]; exact w5
def L12 : Fl := [(1, some (.int, 8), 0), (2, some (.int, 8), 0), (3, some (.int, 8), 0), (4, some (.int, 64), 0), (5, some (.int, 8), 0), (6, some (.int, 480), 0), (7, some (.int, 480), 0), (8, some (.int, 480), 0), (9, some (.int, 8), 0), (10, some (.int, 48), 0), (11, some (.int, 48), 0), (12, some (.int, 48), 0), (13, some (.int, 48), 0), (14, some (.boolean, 8), 0), (16, some (.long, 40), 0), (18, some (.boolean, 8), 0), (19, some (.int, 8), 0), (20, some (.int, 8), 0), (21, some (.int, 8), 0), (22, some (.int, 64), 0), (23, some (.int, 64), 0), (24, some (.boolean, 480), 0), (25, some (.boolean, 60), 0), (26, some (.int, 480), 0), (27, some (.int, 5760), 0), (28, some (.int, 7680), 0), (30, some (.int, 64), 0), (31, some (.int, 18), 0), (32, none, -1), (33, none, -1), (35, some (.long, 8), 0), (36, some (.int, 16), 0), (38, some (.int, 12), 0), (39, some (.int, 16), 0), (41, some (.int, 60), 0), (42, some (.int, 60), 0), (43, some (.int, 60), 0), (44, some (.int, 60), 0), (45, some (.long, 6000), 0), (48, some (.int, 6), 0), (49, some (.int, 6), 0), (50, some (.int, 6), 0), (51, some (.long, 192), 0), (52, some (.long, 108), 0), (53, some (.int, 360), 0), (0, none, 0)]
theorem iw_12 {q : Nat} (t : hT h q = some (.inl 11)) (z4 : Z4 h q) (ez : hz h = q + 1) : Ok (FX12_init (some q) h) (fun _ g => hz g = q + 44 ∧ (∀ b, b < q → Sm h g b) ∧ MG g q G00) := by
  have lt : q < hz h := by omega
  have e : FX12_init (some q) h = runC q 11 L12 (fun g => some ((), g)) h := rfl
  rw [e, runC_ok L12 h t lt]
  have ob := runF_ob (a := q) L12 h lt
  have r : ∀ f, hR (runF q L12 h) q f = vR L12 (q + 1) f (hR h q f) := fun f => by rw [← ez]; exact runF_R f L12 h lt
  have ii : ∀ f, hI (runF q L12 h) q f = vI L12 f 0 := fun f => by rw [runF_I (a := q) f L12 h lt, z4.2.1]
  have ll : ∀ f, hL (runF q L12 h) q f = 0 := fun f => by rw [runF_L (a := q) L12 h lt, z4.2.2]
  have tt : ∀ i y, vT L12 i = some y → hT (runF q L12 h) (q + 1 + i) = some (.inr y) ∧ Z4 (runF q L12 h) (q + 1 + i) := fun i y e => by rw [← ez]; exact runF_T (a := q) L12 i y h lt e
  have tq : hT (runF q L12 h) q = some (.inl 11) := ob.2.1.trans t
  have zz : hz (runF q L12 h) = q + 44 := by rw [ob.1, ez]; rfl
  generalize runF q L12 h = g at ob r ii ll tt tq zz ⊢
  have lm : LM (hT g) (hR g) q := ⟨tq, ⟨r 1, (tt 0 _ rfl).1⟩, ⟨r 2, (tt 1 _ rfl).1⟩, ⟨r 3, (tt 2 _ rfl).1⟩, ⟨r 4, (tt 3 _ rfl).1⟩, ⟨r 5, (tt 4 _ rfl).1⟩, ⟨r 6, (tt 5 _ rfl).1⟩, ⟨r 7, (tt 6 _ rfl).1⟩, ⟨r 8, (tt 7 _ rfl).1⟩, ⟨r 9, (tt 8 _ rfl).1⟩, ⟨r 10, (tt 9 _ rfl).1⟩, ⟨r 11, (tt 10 _ rfl).1⟩, ⟨r 12, (tt 11 _ rfl).1⟩, ⟨r 13, (tt 12 _ rfl).1⟩, ⟨r 14, (tt 13 _ rfl).1⟩, ⟨r 16, (tt 14 _ rfl).1⟩, ⟨r 18, (tt 15 _ rfl).1⟩, ⟨r 19, (tt 16 _ rfl).1⟩, ⟨r 20, (tt 17 _ rfl).1⟩, ⟨r 21, (tt 18 _ rfl).1⟩, ⟨r 22, (tt 19 _ rfl).1⟩, ⟨r 23, (tt 20 _ rfl).1⟩, ⟨r 24, (tt 21 _ rfl).1⟩, ⟨r 25, (tt 22 _ rfl).1⟩, ⟨r 26, (tt 23 _ rfl).1⟩, ⟨r 27, (tt 24 _ rfl).1⟩, ⟨r 28, (tt 25 _ rfl).1⟩, ⟨r 30, (tt 26 _ rfl).1⟩, ⟨r 31, (tt 27 _ rfl).1⟩, ⟨r 35, (tt 28 _ rfl).1⟩, ⟨r 36, (tt 29 _ rfl).1⟩, ⟨r 38, (tt 30 _ rfl).1⟩, ⟨r 39, (tt 31 _ rfl).1⟩, ⟨r 41, (tt 32 _ rfl).1⟩, ⟨r 42, (tt 33 _ rfl).1⟩, ⟨r 43, (tt 34 _ rfl).1⟩, ⟨r 44, (tt 35 _ rfl).1⟩, ⟨r 45, (tt 36 _ rfl).1⟩, ⟨r 48, (tt 37 _ rfl).1⟩, ⟨r 49, (tt 38 _ rfl).1⟩, ⟨r 50, (tt 39 _ rfl).1⟩, ⟨r 51, (tt 40 _ rfl).1⟩, ⟨r 52, (tt 41 _ rfl).1⟩, ⟨r 53, (tt 42 _ rfl).1⟩⟩
  have i0 : ∀ i y, vT L12 i = some y → ∀ x, hI g (q + 1 + i) x = 0 := fun i y e x => by rw [(tt i y e).2.2.1]
  have pm : PM g q P00 := ⟨⟨ii 0, ii 15, ii 17⟩, fun m hm => absurd hm (Nat.not_lt_zero m), fun m hm => absurd hm (Nat.not_lt_zero m), fun m hm => absurd hm (Nat.not_lt_zero m), fun m _ _ => ⟨i0 1 _ rfl m, i0 2 _ rfl m, i0 4 _ rfl m, i0 8 _ rfl m⟩, fun t _ _ => i0 18 _ rfl t⟩
  exact ok_some ⟨zz, fun b hb => ob.2.2 b (by omega) (by omega), ⟨lm, pm, fun m hm => absurd hm (Nat.not_lt_zero m), fun m hm => absurd hm (Nat.not_lt_zero m)⟩, ⟨⟨ii 34, fun j hj => by rw [show q + 29 = q + 1 + 28 from rfl, (tt 28 _ rfl).2.2.2]; rfl⟩, ii 32, ii 33⟩, ⟨⟨ii 40, ii 46, by decide⟩, fun t ht => absurd ht (Nat.not_lt_zero t)⟩, ⟨ii 54, ll 55⟩, fun z => by cases z⟩
def hp00 (b : Nat) : Hp := (fun _ => none, fun _ _ => 0, fun _ _ => 0, fun _ _ => none, b)
theorem law_true (L : Nat) (xs : Nat → Int32) (b : Nat) (hL : L ≤ 3072) : ∃ h1, FL_law L xs (hp00 b) = some (1, h1) := by
  unfold FL_law
  rw [nA_ok, nz_ok]
  have z0 : hz (hp00 b) = b := rfl
  have t0 : hT (aN (hp00 b) (.inl 10)) b = some (.inl 10) := aN_new.1
  have z1 : hz (aN (hp00 b) (.inl 10)) = b + 1 := rfl
  rw [z0]
  obtain ⟨_, g, e1, zg, c0⟩ := iw_11 t0 z1
  rw [e1, cl_ok, nA_ok, nz_ok, zg]
  have n := aN_new (h := g) (x := .inl 11)
  rw [zg] at n
  have z2 : hz (aN g (.inl 11)) = b + 53 + 1 := by rw [hz_aN, zg]
  obtain ⟨_, k, e2, zk, sk, mg⟩ := iw_12 n.1 n.2 z2
  rw [e2, cl_ok]
  have cg : CG k b G00 := c0.cg (fun x h1 h2 => (Sm.aN (by omega)).trans (sk x (by omega))) (by omega)
  exact lw_loop hL 513 0 k (by omega) (by omega) ⟨G00, cg, mg, gi_00⟩
end IX
