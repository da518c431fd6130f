/-! SeldomOps$Words.clear()V -/
def FX10_clear (p0 : Option Nat) (h0 : Hp) : Option (Unit × Hp) :=
  pI h0 p0 9 1 0 fun h4 =>
  some ((), h4)
set_option maxRecDepth 100000 in
set_option maxHeartbeats 4000000 in
theorem FX10_clear_ok {G : xG} {l : Launch} {p0 : Option Nat} {h0 h1 : Hp} {r : Unit} (hF : FX10_clear p0 h0 = some (r, h1)) : xc G l mX10_clear 1 0 0 [va_rf p0] h0 (xP mkV r h1) := by
  refine xo_V [.inr (.inr _)] (by decide) (Nat.le_of_ble_eq_true rfl) rfl ?_
  show xv _ _ _ _ _ _ _ [(0, false, va_rf p0)] _ _ _
  unfold FX10_clear at hF
  refine xe_aload_n dX10_clear_0 rfl rfl ?_
  refine xe_iconst (v := 0) dX10_clear_1 (by decide) ?_
  obtain ⟨a1, e2, t3, hF⟩ := pI_inv hF
  refine xq_putI dX10_clear_2 fl_Words_15 xk_9 (by decide) (fun z => by cases z) e2 t3 (Or.inl rfl) ?_
  exact xe_return dX10_clear_5 (xP_ret (mk := mkV) hF)
/-! SeldomOps$Call.begin(ILSeldomOps$Method;)V -/
def BX0_begin_29 : Nat → Option Nat → Int32 → Hp → Option (Unit × Hp)
  | 0, _, _, _ => none
  | n + 1, x0, x3, h0 =>
    if (x3 : Int32) < 60 then
      gR h0 x0 0 6 fun v2 =>
      sI h0 v2 x3 0 fun h6 =>
      BX0_begin_29 n x0 (x3 + 1) h6
    else
      some ((), h0)
set_option maxRecDepth 100000 in
set_option maxHeartbeats 4000000 in
theorem BX0_begin_29_ok {G : xG} {l : Launch} : ∀ (n : Nat) {x0 : Option Nat} {x3 : Int32} {h0 h1 : Hp} {r : Unit} (hF : BX0_begin_29 n x0 x3 h0 = some (r, h1)), xv G l mX0_begin 2 0 0 29 [(0, false, va_rf x0), (3, false, .int x3)] [] h0 (xP mkV r h1) := by
  intro n
  induction n with
  | zero => intro x0 x3 h0 h1 r hF; cases hF
  | succ n ih =>
    intro x0 x3 h0 h1 r hF
    unfold BX0_begin_29 at hF
    refine xe_iload_n dX0_begin_29 rfl rfl ?_
    refine xe_bipush (v := 60) dX0_begin_30 (by decide) ?_
    refine xe_icmp_ge (tgt := 48) dX0_begin_32 (by decide) (fun c1 => ?_) (fun c1 => ?_)
    · replace hF := if_p c1 hF
      refine xe_aload_n dX0_begin_35 rfl rfl ?_
      obtain ⟨a3, e4, t5, hF⟩ := gR_inv hF
      refine xq_getR dX0_begin_36 fl_Call_36 xk_0 e4 t5 rfl ?_
      refine xe_iload_n dX0_begin_39 rfl rfl ?_
      refine xe_iconst (v := 0) dX0_begin_40 (by decide) ?_
      obtain ⟨a7, n8, e9, t10, b11, hF⟩ := sI_inv hF
      refine xq_iast dX0_begin_41 e9 t10 b11 ?_
      refine xe_iinc (v := _ + 1) dX0_begin_42 rfl rfl (by decide) ?_
      refine xe_goto (tgt := 29) dX0_begin_45 (by decide) ?_
      exact xv.lv (ih hF) (xsub_cons rfl (xsub_cons rfl xsub_nil))
    · replace hF := if_n c1 hF
      exact xe_return dX0_begin_48 (xP_ret (mk := mkV) hF)
def FX0_begin (p0 : Option Nat) (p1 : Int32) (p2 : Option Nat) (h0 : Hp) : Option (Unit × Hp) :=
  pI h0 p0 0 0 p1 fun h4 =>
  pR h4 p0 0 1 p2 fun h9 =>
  pI h9 p0 0 2 0 fun h14 =>
  gR h14 p0 0 4 fun v16 =>
  rcv h14 v16 9 <|
  cl (FX10_clear v16 h14) fun v20 h21 =>
  pI h21 p0 0 7 0 fun h29 =>
  BX0_begin_29 100000 p0 0 h29
set_option maxRecDepth 100000 in
set_option maxHeartbeats 4000000 in
theorem FX0_begin_ok {G : xG} {l : Launch} {p0 : Option Nat} {p1 : Int32} {p2 : Option Nat} {h0 h1 : Hp} {r : Unit} (hF : FX0_begin p0 p1 p2 h0 = some (r, h1)) : xc G l mX0_begin 2 0 0 [va_rf p0, .int p1, va_rf p2] h0 (xP mkV r h1) := by
  refine xo_V [.inr (.inr _), .inl _, .inr (.inr _)] (by decide) (Nat.le_of_ble_eq_true rfl) rfl ?_
  show xv _ _ _ _ _ _ _ [(0, false, va_rf p0), (1, false, .int p1), (2, false, va_rf p2)] _ _ _
  unfold FX0_begin at hF
  refine xe_aload_n dX0_begin_0 rfl rfl ?_
  refine xe_iload_n dX0_begin_1 rfl rfl ?_
  obtain ⟨a1, e2, t3, hF⟩ := pI_inv hF
  refine xq_putI dX0_begin_2 fl_Call_9 xk_0 (by decide) (fun z => by cases z) e2 t3 (Or.inl rfl) ?_
  refine xe_aload_n dX0_begin_5 rfl rfl ?_
  refine xe_aload_n dX0_begin_6 rfl rfl ?_
  obtain ⟨a6, e7, t8, hF⟩ := pR_inv hF
  refine xq_putR dX0_begin_7 fl_Call_15 xk_0 (by decide) (fun z => by cases z) e7 t8 (Or.inl ⟨_, rfl⟩) ?_
  refine xe_aload_n dX0_begin_10 rfl rfl ?_
  refine xe_iconst (v := 0) dX0_begin_11 (by decide) ?_
  obtain ⟨a11, e12, t13, hF⟩ := pI_inv hF
  refine xq_putI dX0_begin_12 fl_Call_19 xk_0 (by decide) (fun z => by cases z) e12 t13 (Or.inl rfl) ?_
  refine xe_aload_n dX0_begin_15 rfl rfl ?_
  obtain ⟨a17, e18, t19, hF⟩ := gR_inv hF
  refine xq_getR dX0_begin_16 fl_Call_28 xk_0 e18 t19 rfl ?_
  obtain ⟨a25, e23, t24, hF⟩ := rcv_inv hF
  obtain ⟨v20, h21, o22, hF⟩ := cl_inv hF
  refine xz (xq_callV (As := []) (rest := []) dX0_begin_19 mk_X10_clear ⟨tw_726, tw_494, tw_495⟩ (ci := 9) rfl e23 t24 (FX10_clear_ok o22) xP_q (by decide) (by decide) rfl rfl ?_)
  refine xe_aload_n dX0_begin_22 rfl rfl ?_
  refine xe_iconst (v := 0) dX0_begin_23 (by decide) ?_
  obtain ⟨a26, e27, t28, hF⟩ := pI_inv hF
  refine xq_putI dX0_begin_24 fl_Call_40 xk_0 (by decide) (fun z => by cases z) e27 t28 (Or.inl rfl) ?_
  refine xe_iconst (v := 0) dX0_begin_27 (by decide) ?_
  refine xe_istore_n dX0_begin_28 rfl (by decide) ?_
  exact xv.lv (BX0_begin_29_ok _ hF) (xsub_cons rfl (xsub_cons rfl xsub_nil))
/-! SeldomOps$Words.<init>()V -/
def FX10_init (p0 : Option Nat) (h0 : Hp) : Option (Unit × Hp) :=
  nz p0 none <|
  nA h0 (.inr (.long, 14)) fun v3 h4 =>
  pR h4 p0 9 0 (some v3) fun h10 =>
  pI h10 p0 9 1 0 fun h15 =>
  some ((), h15)
set_option maxRecDepth 100000 in
set_option maxHeartbeats 4000000 in
theorem FX10_init_ok {G : xG} {l : Launch} {p0 : Option Nat} {h0 h1 : Hp} {r : Unit} (hF : FX10_init p0 h0 = some (r, h1)) : xc G l mX10_init 1 1 14 [va_rf p0] h0 (xP mkV r h1) := by
  refine xo_V [.inr (.inr _)] (by decide) (Nat.le_of_ble_eq_true rfl) rfl ?_
  show xv _ _ _ _ _ _ _ [(0, false, va_rf p0)] _ _ _
  unfold FX10_init at hF
  refine xe_aload_n dX10_init_0 rfl rfl ?_
  obtain ⟨a2, e1, hF⟩ := nzn_inv hF
  refine xq_objInit dX10_init_1 ⟨tw_77, tw_22, tw_23⟩ (by decide) (by decide) e1 ?_
  refine xe_aload_n dX10_init_4 rfl rfl ?_
  refine xe_bipush (v := 14) dX10_init_5 (by decide) ?_
  obtain ⟨v3, h4, e5, e6, hF⟩ := nA_inv hF
  refine xv.weaken (xn_newa (t := .long) (N := 14) (k := 0) (n := 0) dX10_init_7 rfl (Or.inr (Or.inl rfl)) tw_59 (by decide) (by decide) (by decide) e5 e6 ?_) (by first | decide | omega) (by first | decide | (simp only [xnf]; omega))
  obtain ⟨a7, e8, t9, hF⟩ := pR_inv hF
  refine xq_putR dX10_init_9 fl_Words_9 xk_9 (by decide) (fun _ => ⟨rfl, _, _, rfl⟩) e8 t9 (Or.inr ⟨_, rfl⟩) ?_
  refine xe_aload_n dX10_init_12 rfl rfl ?_
  refine xe_iconst (v := 0) dX10_init_13 (by decide) ?_
  obtain ⟨a12, e13, t14, hF⟩ := pI_inv hF
  refine xq_putI dX10_init_14 fl_Words_15 xk_9 (by decide) (fun z => by cases z) e13 t14 (Or.inl rfl) ?_
  exact xe_return dX10_init_17 (xP_ret (mk := mkV) hF)
/-! SeldomOps$Call.<init>()V -/
def FX0_init (p0 : Option Nat) (h0 : Hp) : Option (Unit × Hp) :=
  nz p0 none <|
  pI h0 p0 0 0 (-1) fun h6 =>
  pR h6 p0 0 1 none fun h11 =>
  pI h11 p0 0 2 0 fun h16 =>
  pI h16 p0 0 3 0 fun h21 =>
  nA h21 (.inl 9) fun v23 h24 =>
  nz (some v23) none <|
  cl (FX10_init (some v23) h24) fun v27 h28 =>
  pR h28 p0 0 4 (some v23) fun h35 =>
  nA h35 (.inr (.long, 16)) fun v37 h38 =>
  pR h38 p0 0 5 (some v37) fun h44 =>
  nA h44 (.inr (.int, 60)) fun v46 h47 =>
  pR h47 p0 0 6 (some v46) fun h53 =>
  pI h53 p0 0 7 0 fun h58 =>
  some ((), h58)
set_option maxRecDepth 100000 in
set_option maxHeartbeats 4000000 in
theorem FX0_init_ok {G : xG} {l : Launch} {p0 : Option Nat} {h0 h1 : Hp} {r : Unit} (hF : FX0_init p0 h0 = some (r, h1)) : xc G l mX0_init 2 4 92 [va_rf p0] h0 (xP mkV r h1) := by
  refine xo_V [.inr (.inr _)] (by decide) (Nat.le_of_ble_eq_true rfl) rfl ?_
  show xv _ _ _ _ _ _ _ [(0, false, va_rf p0)] _ _ _
  unfold FX0_init at hF
  refine xe_aload_n dX0_init_0 rfl rfl ?_
  obtain ⟨a2, e1, hF⟩ := nzn_inv hF
  refine xq_objInit dX0_init_1 ⟨tw_160, tw_22, tw_23⟩ (by decide) (by decide) e1 ?_
  refine xe_aload_n dX0_init_4 rfl rfl ?_
  refine xe_iconst (v := (-1)) dX0_init_5 (by decide) ?_
  obtain ⟨a3, e4, t5, hF⟩ := pI_inv hF
  refine xq_putI dX0_init_6 fl_Call_9 xk_0 (by decide) (fun z => by cases z) e4 t5 (Or.inl rfl) ?_
  refine xe_aload_n dX0_init_9 rfl rfl ?_
  refine xe_null dX0_init_10 ?_
  obtain ⟨a8, e9, t10, hF⟩ := pR_inv hF
  refine xq_putR dX0_init_11 fl_Call_15 xk_0 (by decide) (fun z => by cases z) e9 t10 (Or.inl ⟨_, rfl⟩) ?_
  refine xe_aload_n dX0_init_14 rfl rfl ?_
  refine xe_iconst (v := 0) dX0_init_15 (by decide) ?_
  obtain ⟨a13, e14, t15, hF⟩ := pI_inv hF
  refine xq_putI dX0_init_16 fl_Call_19 xk_0 (by decide) (fun z => by cases z) e14 t15 (Or.inl rfl) ?_
  refine xe_aload_n dX0_init_19 rfl rfl ?_
  refine xe_iconst (v := 0) dX0_init_20 (by decide) ?_
  obtain ⟨a18, e19, t20, hF⟩ := pI_inv hF
  refine xq_putI dX0_init_21 fl_Call_22 xk_0 (by decide) (fun z => by cases z) e19 t20 (Or.inl rfl) ?_
  refine xe_aload_n dX0_init_24 rfl rfl ?_
  obtain ⟨v23, h24, e25, e26, hF⟩ := nA_inv hF
  refine xv.weaken (xn_new (k := 3) (n := 90) dX0_init_25 xk_9 (by decide) nw_Call_25 e25 e26 ?_) (by first | decide | omega) (by first | decide | (simp only [xnf]; omega))
  refine xe_dup dX0_init_28 (va_rf_cat _) ?_
  obtain ⟨a31, e30, hF⟩ := nzn_inv hF
  obtain ⟨v27, h28, o29, hF⟩ := cl_inv hF
  refine xv.weaken (xq_callIN (k := 2) (n := 76) (As := []) (rest := [va_rf _, va_rf _]) dX0_init_29 mk_X10_init ⟨rfl, rfl⟩ ⟨tn_162, tw_75⟩ e30 (FX10_init_ok o29) xP_q (by decide) (Nat.le_trans (cs_r (cs_r cs_0)) (by decide)) rfl rfl ?_) (by first | decide | omega) (by first | decide | omega)
  obtain ⟨a32, e33, t34, hF⟩ := pR_inv hF
  refine xq_putR dX0_init_32 fl_Call_28 xk_0 (by decide) (fun _ => ⟨rfl, _, _, rfl⟩) e33 t34 (Or.inl ⟨_, rfl⟩) ?_
  refine xe_aload_n dX0_init_35 rfl rfl ?_
  refine xe_bipush (v := 16) dX0_init_36 (by decide) ?_
  obtain ⟨v37, h38, e39, e40, hF⟩ := nA_inv hF
  refine xv.weaken (xn_newa (t := .long) (N := 16) (k := 1) (n := 60) dX0_init_38 rfl (Or.inr (Or.inl rfl)) tw_59 (by decide) (by decide) (by decide) e39 e40 ?_) (by first | decide | omega) (by first | decide | (simp only [xnf]; omega))
  obtain ⟨a41, e42, t43, hF⟩ := pR_inv hF
  refine xq_putR dX0_init_40 fl_Call_32 xk_0 (by decide) (fun _ => ⟨rfl, _, _, rfl⟩) e42 t43 (Or.inr ⟨_, rfl⟩) ?_
  refine xe_aload_n dX0_init_43 rfl rfl ?_
  refine xe_bipush (v := 60) dX0_init_44 (by decide) ?_
  obtain ⟨v46, h47, e48, e49, hF⟩ := nA_inv hF
  refine xv.weaken (xn_newa (t := .int) (N := 60) (k := 0) (n := 0) dX0_init_46 rfl (Or.inl rfl) tw_153 (by decide) (by decide) (by decide) e48 e49 ?_) (by first | decide | omega) (by first | decide | (simp only [xnf]; omega))
  obtain ⟨a50, e51, t52, hF⟩ := pR_inv hF
  refine xq_putR dX0_init_48 fl_Call_36 xk_0 (by decide) (fun _ => ⟨rfl, _, _, rfl⟩) e51 t52 (Or.inr ⟨_, rfl⟩) ?_
  refine xe_aload_n dX0_init_51 rfl rfl ?_
  refine xe_iconst (v := 0) dX0_init_52 (by decide) ?_
  obtain ⟨a55, e56, t57, hF⟩ := pI_inv hF
  refine xq_putI dX0_init_53 fl_Call_40 xk_0 (by decide) (fun z => by cases z) e56 t57 (Or.inl rfl) ?_
  exact xe_return dX0_init_56 (xP_ret (mk := mkV) hF)
/-! SeldomOps.within(II)Z -/
def FX11_within (p0 : Int32) (p1 : Int32) (h0 : Hp) : Option (Int32 × Hp) :=
  if (p0 : Int32) < 0 then
    bz 0 (some (0, h0))
  else
    if (p0 : Int32) < p1 then
      bz 1 (some (1, h0))
    else
      bz 0 (some (0, h0))
set_option maxRecDepth 100000 in
set_option maxHeartbeats 4000000 in
theorem FX11_within_ok {G : xG} {l : Launch} {p0 : Int32} {p1 : Int32} {h0 h1 : Hp} {r : Int32} (hF : FX11_within p0 p1 h0 = some (r, h1)) : xc G l mX11_within 1 0 0 [.int p0, .int p1] h0 (xPZ r h1) := by
  refine xo_Z [.inl _, .inl _] (by decide) (Nat.le_of_ble_eq_true rfl) rfl ?_
  show xv _ _ _ _ _ _ _ [(0, false, .int p0), (1, false, .int p1)] _ _ _
  unfold FX11_within at hF
  refine xe_iload_n dX11_within_0 rfl rfl ?_
  refine xe_if_lt (tgt := 13) dX11_within_1 (by decide) (fun c1 => ?_) (fun c1 => ?_)
  · replace hF := if_p c1 hF
    refine xe_iconst (v := 0) dX11_within_13 (by decide) ?_
    obtain ⟨z2, hF⟩ := bz_inv hF
    exact xe_ireturn dX11_within_14 (xPZ_ret z2 hF)
  · replace hF := if_n c1 hF
    refine xe_iload_n dX11_within_4 rfl rfl ?_
    refine xe_iload_n dX11_within_5 rfl rfl ?_
    refine xe_icmp_ge (tgt := 13) dX11_within_6 (by decide) (fun c3 => ?_) (fun c3 => ?_)
    · replace hF := if_p c3 hF
      refine xe_iconst (v := 1) dX11_within_9 (by decide) ?_
      refine xe_goto (tgt := 14) dX11_within_10 (by decide) ?_
      obtain ⟨z4, hF⟩ := bz_inv hF
      exact xe_ireturn dX11_within_14 (xPZ_ret z4 hF)
    · replace hF := if_n c3 hF
      refine xe_iconst (v := 0) dX11_within_13 (by decide) ?_
      obtain ⟨z5, hF⟩ := bz_inv hF
      exact xe_ireturn dX11_within_14 (xPZ_ret z5 hF)
/-! SeldomOps$Call.readLocal(I)J -/
def FX0_readLocal (p0 : Option Nat) (p1 : Int32) (h0 : Hp) : Option (Int64 × Hp) :=
  cl (FX11_within p1 16 h0) fun v1 h2 =>
  if (v1 : Int32) = 0 then
    some (0, h2)
  else
    gR h2 p0 0 5 fun v5 =>
    aL h2 v5 p1 fun v9 =>
    some (v9, h2)
set_option maxRecDepth 100000 in
set_option maxHeartbeats 4000000 in
theorem FX0_readLocal_ok {G : xG} {l : Launch} {p0 : Option Nat} {p1 : Int32} {h0 h1 : Hp} {r : Int64} (hF : FX0_readLocal p0 p1 h0 = some (r, h1)) : xc G l mX0_readLocal 2 0 0 [va_rf p0, .int p1] h0 (xP mkL r h1) := by
  refine xo_L [.inr (.inr _), .inl _] (by decide) (Nat.le_of_ble_eq_true rfl) rfl ?_
  show xv _ _ _ _ _ _ _ [(0, false, va_rf p0), (1, false, .int p1)] _ _ _
  unfold FX0_readLocal at hF
  refine xe_iload_n dX0_readLocal_0 rfl rfl ?_
  refine xe_bipush (v := 16) dX0_readLocal_1 (by decide) ?_
  obtain ⟨v1, h2, o3, hF⟩ := cl_inv hF
  refine xz (xq_callSN (As := [.int _, .int _]) (rest := []) dX0_readLocal_3 mk_X11_within ⟨tn_736, tw_264⟩ (FX11_within_ok o3) xPZ_q (by decide) (by decide) rfl rfl ?_)
  refine xe_if_eq (tgt := 18) dX0_readLocal_6 (by decide) (fun c4 => ?_) (fun c4 => ?_)
  · replace hF := if_p c4 hF
    refine xe_lconst (v := 0) dX0_readLocal_18 (by decide) ?_
    exact xe_lreturn dX0_readLocal_19 (xP_ret (mk := mkL) hF)
  · replace hF := if_n c4 hF
    refine xe_aload_n dX0_readLocal_9 rfl rfl ?_
    obtain ⟨a6, e7, t8, hF⟩ := gR_inv hF
    refine xq_getR dX0_readLocal_10 fl_Call_32 xk_0 e7 t8 rfl ?_
    refine xe_iload_n dX0_readLocal_13 rfl rfl ?_
    obtain ⟨a10, n11, e12, t13, b14, hF⟩ := aL_inv hF
    refine xq_lald dX0_readLocal_14 e12 t13 b14 ?_
    refine xe_goto (tgt := 19) dX0_readLocal_15 (by decide) ?_
    exact xe_lreturn dX0_readLocal_19 (xP_ret (mk := mkL) hF)
/-! SeldomOps$Call.writeLocal(IJ)V -/
def FX0_writeLocal (p0 : Option Nat) (p1 : Int32) (p2 : Int64) (h0 : Hp) : Option (Unit × Hp) :=
  cl (FX11_within p1 16 h0) fun v1 h2 =>
  if (v1 : Int32) = 0 then
    some ((), h2)
  else
    gR h2 p0 0 5 fun v5 =>
    sL h2 v5 p1 p2 fun h9 =>
    some ((), h9)
set_option maxRecDepth 100000 in
set_option maxHeartbeats 4000000 in
theorem FX0_writeLocal_ok {G : xG} {l : Launch} {p0 : Option Nat} {p1 : Int32} {p2 : Int64} {h0 h1 : Hp} {r : Unit} (hF : FX0_writeLocal p0 p1 p2 h0 = some (r, h1)) : xc G l mX0_writeLocal 2 0 0 [va_rf p0, .int p1, .long p2] h0 (xP mkV r h1) := by
  refine xo_V [.inr (.inr _), .inl _, .inr (.inl _)] (by decide) (Nat.le_of_ble_eq_true rfl) rfl ?_
  show xv _ _ _ _ _ _ _ [(0, false, va_rf p0), (1, false, .int p1), (2, true, .long p2)] _ _ _
  unfold FX0_writeLocal at hF
  refine xe_iload_n dX0_writeLocal_0 rfl rfl ?_
  refine xe_bipush (v := 16) dX0_writeLocal_1 (by decide) ?_
  obtain ⟨v1, h2, o3, hF⟩ := cl_inv hF
  refine xz (xq_callSN (As := [.int _, .int _]) (rest := []) dX0_writeLocal_3 mk_X11_within ⟨tn_736, tw_264⟩ (FX11_within_ok o3) xPZ_q (by decide) (by decide) rfl rfl ?_)
  refine xe_if_eq (tgt := 16) dX0_writeLocal_6 (by decide) (fun c4 => ?_) (fun c4 => ?_)
  · replace hF := if_p c4 hF
    exact xe_return dX0_writeLocal_16 (xP_ret (mk := mkV) hF)
  · replace hF := if_n c4 hF
    refine xe_aload_n dX0_writeLocal_9 rfl rfl ?_
    obtain ⟨a6, e7, t8, hF⟩ := gR_inv hF
    refine xq_getR dX0_writeLocal_10 fl_Call_32 xk_0 e7 t8 rfl ?_
    refine xe_iload_n dX0_writeLocal_13 rfl rfl ?_
    refine xe_lload_n dX0_writeLocal_14 rfl rfl ?_
    obtain ⟨a10, n11, e12, t13, b14, hF⟩ := sL_inv hF
    refine xq_last dX0_writeLocal_15 e12 t13 b14 ?_
    exact xe_return dX0_writeLocal_16 (xP_ret (mk := mkV) hF)
/-! SeldomOps$Words.at(I)J -/
def FX10_at (p0 : Option Nat) (p1 : Int32) (h0 : Hp) : Option (Int64 × Hp) :=
  if (p1 : Int32) < 0 then
    some ((-1), h0)
  else
    gI h0 p0 9 1 fun v2 =>
    if (p1 : Int32) < v2 then
      gR h0 p0 9 0 fun v7 =>
      aL h0 v7 p1 fun v11 =>
      some (v11, h0)
    else
      some ((-1), h0)
set_option maxRecDepth 100000 in
set_option maxHeartbeats 4000000 in
theorem FX10_at_ok {G : xG} {l : Launch} {p0 : Option Nat} {p1 : Int32} {h0 h1 : Hp} {r : Int64} (hF : FX10_at p0 p1 h0 = some (r, h1)) : xc G l mX10_at 1 0 0 [va_rf p0, .int p1] h0 (xP mkL r h1) := by
  refine xo_L [.inr (.inr _), .inl _] (by decide) (Nat.le_of_ble_eq_true rfl) rfl ?_
  show xv _ _ _ _ _ _ _ [(0, false, va_rf p0), (1, false, .int p1)] _ _ _
  unfold FX10_at at hF
  refine xe_iload_n dX10_at_0 rfl rfl ?_
  refine xe_if_lt (tgt := 21) dX10_at_1 (by decide) (fun c1 => ?_) (fun c1 => ?_)
  · replace hF := if_p c1 hF
    refine xe_ldc2 (v := (-1)) dX10_at_21 tw_542 ?_
    exact xe_lreturn dX10_at_24 (xP_ret (mk := mkL) hF)
  · replace hF := if_n c1 hF
    refine xe_iload_n dX10_at_4 rfl rfl ?_
    refine xe_aload_n dX10_at_5 rfl rfl ?_
    obtain ⟨a3, e4, t5, hF⟩ := gI_inv hF
    refine xq_getI dX10_at_6 fl_Words_15 xk_9 e4 t5 rfl ?_
    refine xe_icmp_ge (tgt := 21) dX10_at_9 (by decide) (fun c6 => ?_) (fun c6 => ?_)
    · replace hF := if_p c6 hF
      refine xe_aload_n dX10_at_12 rfl rfl ?_
      obtain ⟨a8, e9, t10, hF⟩ := gR_inv hF
      refine xq_getR dX10_at_13 fl_Words_9 xk_9 e9 t10 rfl ?_
      refine xe_iload_n dX10_at_16 rfl rfl ?_
      obtain ⟨a12, n13, e14, t15, b16, hF⟩ := aL_inv hF
      refine xq_lald dX10_at_17 e14 t15 b16 ?_
      refine xe_goto (tgt := 24) dX10_at_18 (by decide) ?_
      exact xe_lreturn dX10_at_24 (xP_ret (mk := mkL) hF)
    · replace hF := if_n c6 hF
      refine xe_ldc2 (v := (-1)) dX10_at_21 tw_542 ?_
      exact xe_lreturn dX10_at_24 (xP_ret (mk := mkL) hF)
/-! SeldomOps$Words.copyUnder(II)V -/
def BX10_copyUnder_67 : Nat → Option Nat → Int32 → Int32 → Int32 → Hp → Option (Unit × Hp)
  | 0, _, _, _, _, _ => none
  | n + 1, x0, x2, x3, x4, h0 =>
    if (x4 : Int32) < x2 then
      gR h0 x0 9 0 fun v2 =>
      gR h0 x0 9 0 fun v6 =>
      gI h0 x0 9 1 fun v10 =>
      aL h0 v6 (v10 + x4) fun v14 =>
      sL h0 v2 (x3 + x4) v14 fun h20 =>
      BX10_copyUnder_67 n x0 x2 x3 (x4 + 1) h20
    else
      gI h0 x0 9 1 fun v27 =>
      pI h0 x0 9 1 (v27 + x2) fun h34 =>
      some ((), h34)
set_option maxRecDepth 100000 in
set_option maxHeartbeats 4000000 in
theorem BX10_copyUnder_67_ok {G : xG} {l : Launch} : ∀ (n : Nat) {x0 : Option Nat} {x2 : Int32} {x3 : Int32} {x4 : Int32} {h0 h1 : Hp} {r : Unit} (hF : BX10_copyUnder_67 n x0 x2 x3 x4 h0 = some (r, h1)), xv G l mX10_copyUnder 1 0 0 67 [(0, false, va_rf x0), (2, false, .int x2), (3, false, .int x3), (4, false, .int x4)] [] h0 (xP mkV r h1) := by
  intro n
  induction n with
  | zero => intro x0 x2 x3 x4 h0 h1 r hF; cases hF
  | succ n ih =>
    intro x0 x2 x3 x4 h0 h1 r hF
    unfold BX10_copyUnder_67 at hF
    refine xe_iload dX10_copyUnder_67 rfl ?_
    refine xe_iload_n dX10_copyUnder_69 rfl rfl ?_
    refine xe_icmp_ge (tgt := 100) dX10_copyUnder_70 (by decide) (fun c1 => ?_) (fun c1 => ?_)
    · replace hF := if_p c1 hF
      refine xe_aload_n dX10_copyUnder_73 rfl rfl ?_
      obtain ⟨a3, e4, t5, hF⟩ := gR_inv hF
      refine xq_getR dX10_copyUnder_74 fl_Words_9 xk_9 e4 t5 rfl ?_
      refine xe_iload_n dX10_copyUnder_77 rfl rfl ?_
      refine xe_iload dX10_copyUnder_78 rfl ?_
      refine xe_iadd dX10_copyUnder_80 ?_
      refine xe_aload_n dX10_copyUnder_81 rfl rfl ?_
      obtain ⟨a7, e8, t9, hF⟩ := gR_inv hF
      refine xq_getR dX10_copyUnder_82 fl_Words_9 xk_9 e8 t9 rfl ?_
      refine xe_aload_n dX10_copyUnder_85 rfl rfl ?_
      obtain ⟨a11, e12, t13, hF⟩ := gI_inv hF
      refine xq_getI dX10_copyUnder_86 fl_Words_15 xk_9 e12 t13 rfl ?_
      refine xe_iload dX10_copyUnder_89 rfl ?_
      refine xe_iadd dX10_copyUnder_91 ?_
      obtain ⟨a15, n16, e17, t18, b19, hF⟩ := aL_inv hF
      refine xq_lald dX10_copyUnder_92 e17 t18 b19 ?_
      obtain ⟨a21, n22, e23, t24, b25, hF⟩ := sL_inv hF
      refine xq_last dX10_copyUnder_93 e23 t24 b25 ?_
      refine xe_iinc (v := _ + 1) dX10_copyUnder_94 rfl rfl (by decide) ?_
      refine xe_goto (tgt := 67) dX10_copyUnder_97 (by decide) ?_
      exact xv.lv (ih hF) (xsub_cons rfl (xsub_cons rfl (xsub_cons rfl (xsub_cons rfl xsub_nil))))
    · replace hF := if_n c1 hF
      refine xe_aload_n dX10_copyUnder_100 rfl rfl ?_
      refine xe_dup dX10_copyUnder_101 (va_rf_cat _) ?_
      obtain ⟨a28, e29, t30, hF⟩ := gI_inv hF
      refine xq_getI dX10_copyUnder_102 fl_Words_15 xk_9 e29 t30 rfl ?_
      refine xe_iload_n dX10_copyUnder_105 rfl rfl ?_
      refine xe_iadd dX10_copyUnder_106 ?_
      obtain ⟨a31, e32, t33, hF⟩ := pI_inv hF
      refine xq_putI dX10_copyUnder_107 fl_Words_15 xk_9 (by decide) (fun z => by cases z) e32 t33 (Or.inl rfl) ?_
      exact xe_return dX10_copyUnder_110 (xP_ret (mk := mkV) hF)
def BX10_copyUnder_36 : Nat → Option Nat → Int32 → Int32 → Int32 → Hp → Option (Unit × Hp)
  | 0, _, _, _, _, _ => none
  | n + 1, x0, x2, x3, x4, h0 =>
    if (x4 : Int32) < x3 then
      BX10_copyUnder_67 100000 x0 x2 x3 0 h0
    else
      gR h0 x0 9 0 fun v2 =>
      gR h0 x0 9 0 fun v6 =>
      aL h0 v6 x4 fun v10 =>
      sL h0 v2 (x4 + x2) v10 fun h16 =>
      BX10_copyUnder_36 n x0 x2 x3 (x4 + (-1)) h16
set_option maxRecDepth 100000 in
set_option maxHeartbeats 4000000 in
theorem BX10_copyUnder_36_ok {G : xG} {l : Launch} : ∀ (n : Nat) {x0 : Option Nat} {x2 : Int32} {x3 : Int32} {x4 : Int32} {h0 h1 : Hp} {r : Unit} (hF : BX10_copyUnder_36 n x0 x2 x3 x4 h0 = some (r, h1)), xv G l mX10_copyUnder 1 0 0 36 [(0, false, va_rf x0), (2, false, .int x2), (3, false, .int x3), (4, false, .int x4)] [] h0 (xP mkV r h1) := by
  intro n
  induction n with
  | zero => intro x0 x2 x3 x4 h0 h1 r hF; cases hF
  | succ n ih =>
    intro x0 x2 x3 x4 h0 h1 r hF
    unfold BX10_copyUnder_36 at hF
    refine xe_iload dX10_copyUnder_36 rfl ?_
    refine xe_iload_n dX10_copyUnder_38 rfl rfl ?_
    refine xe_icmp_lt (tgt := 64) dX10_copyUnder_39 (by decide) (fun c1 => ?_) (fun c1 => ?_)
    · replace hF := if_p c1 hF
      refine xe_iconst (v := 0) dX10_copyUnder_64 (by decide) ?_
      refine xe_istore dX10_copyUnder_65 (by decide) ?_
      exact xv.lv (BX10_copyUnder_67_ok _ hF) (xsub_cons rfl (xsub_cons rfl (xsub_cons rfl (xsub_cons rfl xsub_nil))))
    · replace hF := if_n c1 hF
      refine xe_aload_n dX10_copyUnder_42 rfl rfl ?_
      obtain ⟨a3, e4, t5, hF⟩ := gR_inv hF
      refine xq_getR dX10_copyUnder_43 fl_Words_9 xk_9 e4 t5 rfl ?_
      refine xe_iload dX10_copyUnder_46 rfl ?_
      refine xe_iload_n dX10_copyUnder_48 rfl rfl ?_
      refine xe_iadd dX10_copyUnder_49 ?_
      refine xe_aload_n dX10_copyUnder_50 rfl rfl ?_
      obtain ⟨a7, e8, t9, hF⟩ := gR_inv hF
      refine xq_getR dX10_copyUnder_51 fl_Words_9 xk_9 e8 t9 rfl ?_
      refine xe_iload dX10_copyUnder_54 rfl ?_
      obtain ⟨a11, n12, e13, t14, b15, hF⟩ := aL_inv hF
      refine xq_lald dX10_copyUnder_56 e13 t14 b15 ?_
      obtain ⟨a17, n18, e19, t20, b21, hF⟩ := sL_inv hF
      refine xq_last dX10_copyUnder_57 e19 t20 b21 ?_
      refine xe_iinc (v := _ + (-1)) dX10_copyUnder_58 rfl rfl (by decide) ?_
      refine xe_goto (tgt := 36) dX10_copyUnder_61 (by decide) ?_
      exact xv.lv (ih hF) (xsub_cons rfl (xsub_cons rfl (xsub_cons rfl (xsub_cons rfl xsub_nil))))
def FX10_copyUnder (p0 : Option Nat) (p1 : Int32) (p2 : Int32) (h0 : Hp) : Option (Unit × Hp) :=
  gI h0 p0 9 1 fun v1 =>
  if (((v1 - p1) - p2) : Int32) < 0 then
    some ((), h0)
  else
    gI h0 p0 9 1 fun v6 =>
    gR h0 p0 9 0 fun v10 =>
    ln h0 v10 .long fun v14 =>
    if (v14 : Int32) < (v6 + p2) then
      some ((), h0)
    else
      gI h0 p0 9 1 fun v20 =>
      BX10_copyUnder_36 100000 p0 p2 ((v1 - p1) - p2) (v20 - 1) h0
set_option maxRecDepth 100000 in
set_option maxHeartbeats 4000000 in
theorem FX10_copyUnder_ok {G : xG} {l : Launch} {p0 : Option Nat} {p1 : Int32} {p2 : Int32} {h0 h1 : Hp} {r : Unit} (hF : FX10_copyUnder p0 p1 p2 h0 = some (r, h1)) : xc G l mX10_copyUnder 1 0 0 [va_rf p0, .int p1, .int p2] h0 (xP mkV r h1) := by
  refine xo_V [.inr (.inr _), .inl _, .inl _] (by decide) (Nat.le_of_ble_eq_true rfl) rfl ?_
  show xv _ _ _ _ _ _ _ [(0, false, va_rf p0), (1, false, .int p1), (2, false, .int p2)] _ _ _
  unfold FX10_copyUnder at hF
  refine xe_aload_n dX10_copyUnder_0 rfl rfl ?_
  obtain ⟨a2, e3, t4, hF⟩ := gI_inv hF
  refine xq_getI dX10_copyUnder_1 fl_Words_15 xk_9 e3 t4 rfl ?_
  refine xe_iload_n dX10_copyUnder_4 rfl rfl ?_
  refine xe_isub dX10_copyUnder_5 ?_
  refine xe_iload_n dX10_copyUnder_6 rfl rfl ?_
  refine xe_isub dX10_copyUnder_7 ?_
  refine xe_istore_n dX10_copyUnder_8 rfl (by decide) ?_
  refine xe_iload_n dX10_copyUnder_9 rfl rfl ?_
  refine xe_if_lt (tgt := 27) dX10_copyUnder_10 (by decide) (fun c5 => ?_) (fun c5 => ?_)
  · replace hF := if_p c5 hF
    exact xe_return dX10_copyUnder_27 (xP_ret (mk := mkV) hF)
  · replace hF := if_n c5 hF
    refine xe_aload_n dX10_copyUnder_13 rfl rfl ?_
    obtain ⟨a7, e8, t9, hF⟩ := gI_inv hF
    refine xq_getI dX10_copyUnder_14 fl_Words_15 xk_9 e8 t9 rfl ?_
    refine xe_iload_n dX10_copyUnder_17 rfl rfl ?_
    refine xe_iadd dX10_copyUnder_18 ?_
    refine xe_aload_n dX10_copyUnder_19 rfl rfl ?_
    obtain ⟨a11, e12, t13, hF⟩ := gR_inv hF
    refine xq_getR dX10_copyUnder_20 fl_Words_9 xk_9 e12 t13 rfl ?_
    obtain ⟨a15, n16, e17, t18, hF⟩ := ln_inv hF
    refine xq_alen dX10_copyUnder_23 e17 t18 (by decide) ?_
    refine xe_icmp_le (tgt := 28) dX10_copyUnder_24 (by decide) (fun c19 => ?_) (fun c19 => ?_)
    · replace hF := if_p c19 hF
      exact xe_return dX10_copyUnder_27 (xP_ret (mk := mkV) hF)
    · replace hF := if_n c19 hF
      refine xe_aload_n dX10_copyUnder_28 rfl rfl ?_
      obtain ⟨a21, e22, t23, hF⟩ := gI_inv hF
      refine xq_getI dX10_copyUnder_29 fl_Words_15 xk_9 e22 t23 rfl ?_
      refine xe_iconst (v := 1) dX10_copyUnder_32 (by decide) ?_
      refine xe_isub dX10_copyUnder_33 ?_
      refine xe_istore dX10_copyUnder_34 (by decide) ?_
      exact xv.lv (BX10_copyUnder_36_ok _ hF) (xsub_cons rfl (xsub_cons rfl (xsub_cons rfl (xsub_cons rfl xsub_nil))))
/-! SeldomOps$Words.drop(I)V -/
def FX10_drop (p0 : Option Nat) (p1 : Int32) (h0 : Hp) : Option (Unit × Hp) :=
  gI h0 p0 9 1 fun v1 =>
  pI h0 p0 9 1 (if 0 < (v1 - p1) then (v1 - p1) else 0) fun h8 =>
  some ((), h8)
set_option maxRecDepth 100000 in
set_option maxHeartbeats 4000000 in
theorem FX10_drop_ok {G : xG} {l : Launch} {p0 : Option Nat} {p1 : Int32} {h0 h1 : Hp} {r : Unit} (hF : FX10_drop p0 p1 h0 = some (r, h1)) : xc G l mX10_drop 1 0 0 [va_rf p0, .int p1] h0 (xP mkV r h1) := by
  refine xo_V [.inr (.inr _), .inl _] (by decide) (Nat.le_of_ble_eq_true rfl) rfl ?_
  show xv _ _ _ _ _ _ _ [(0, false, va_rf p0), (1, false, .int p1)] _ _ _
  unfold FX10_drop at hF
  refine xe_aload_n dX10_drop_0 rfl rfl ?_
  refine xe_iconst (v := 0) dX10_drop_1 (by decide) ?_
  refine xe_aload_n dX10_drop_2 rfl rfl ?_
  obtain ⟨a2, e3, t4, hF⟩ := gI_inv hF
  refine xq_getI dX10_drop_3 fl_Words_15 xk_9 e3 t4 rfl ?_
  refine xe_iload_n dX10_drop_6 rfl rfl ?_
  refine xe_isub dX10_drop_7 ?_
  refine xe_mmax dX10_drop_8 ⟨tw_592, tw_593, tw_14, tw_594⟩ (by decide) (Nat.le_trans (cs_r cs_0) (by decide)) ?_
  obtain ⟨a5, e6, t7, hF⟩ := pI_inv hF
  refine xq_putI dX10_drop_11 fl_Words_15 xk_9 (by decide) (fun z => by cases z) e6 t7 (Or.inl rfl) ?_
  exact xe_return dX10_drop_14 (xP_ret (mk := mkV) hF)
/-! SeldomOps$Words.pop()J -/
def FX10_pop (p0 : Option Nat) (h0 : Hp) : Option (Int64 × Hp) :=
  gI h0 p0 9 1 fun v1 =>
  if (v1 : Int32) = 0 then
    some (0, h0)
  else
    gI h0 p0 9 1 fun v6 =>
    pI h0 p0 9 1 (v6 - 1) fun h13 =>
    gR h13 p0 9 0 fun v15 =>
    gI h13 p0 9 1 fun v19 =>
    aL h13 v15 v19 fun v23 =>
    some (v23, h13)
set_option maxRecDepth 100000 in
set_option maxHeartbeats 4000000 in
theorem FX10_pop_ok {G : xG} {l : Launch} {p0 : Option Nat} {h0 h1 : Hp} {r : Int64} (hF : FX10_pop p0 h0 = some (r, h1)) : xc G l mX10_pop 1 0 0 [va_rf p0] h0 (xP mkL r h1) := by
  refine xo_L [.inr (.inr _)] (by decide) (Nat.le_of_ble_eq_true rfl) rfl ?_
  show xv _ _ _ _ _ _ _ [(0, false, va_rf p0)] _ _ _
  unfold FX10_pop at hF
  refine xe_aload_n dX10_pop_0 rfl rfl ?_
  obtain ⟨a2, e3, t4, hF⟩ := gI_inv hF
  refine xq_getI dX10_pop_1 fl_Words_15 xk_9 e3 t4 rfl ?_
  refine xe_if_ne (tgt := 9) dX10_pop_4 (by decide) (fun c5 => ?_) (fun c5 => ?_)
  · replace hF := if_p c5 hF
    refine xe_lconst (v := 0) dX10_pop_7 (by decide) ?_
    exact xe_lreturn dX10_pop_8 (xP_ret (mk := mkL) hF)
  · replace hF := if_n c5 hF
    refine xe_aload_n dX10_pop_9 rfl rfl ?_
    refine xe_dup dX10_pop_10 (va_rf_cat _) ?_
    obtain ⟨a7, e8, t9, hF⟩ := gI_inv hF
    refine xq_getI dX10_pop_11 fl_Words_15 xk_9 e8 t9 rfl ?_
    refine xe_iconst (v := 1) dX10_pop_14 (by decide) ?_
    refine xe_isub dX10_pop_15 ?_
    obtain ⟨a10, e11, t12, hF⟩ := pI_inv hF
    refine xq_putI dX10_pop_16 fl_Words_15 xk_9 (by decide) (fun z => by cases z) e11 t12 (Or.inl rfl) ?_
    refine xe_aload_n dX10_pop_19 rfl rfl ?_
    obtain ⟨a16, e17, t18, hF⟩ := gR_inv hF
    refine xq_getR dX10_pop_20 fl_Words_9 xk_9 e17 t18 rfl ?_
    refine xe_aload_n dX10_pop_23 rfl rfl ?_
    obtain ⟨a20, e21, t22, hF⟩ := gI_inv hF
    refine xq_getI dX10_pop_24 fl_Words_15 xk_9 e21 t22 rfl ?_
    obtain ⟨a24, n25, e26, t27, b28, hF⟩ := aL_inv hF
    refine xq_lald dX10_pop_27 e26 t27 b28 ?_
    exact xe_lreturn dX10_pop_28 (xP_ret (mk := mkL) hF)
/-! SeldomOps$Words.push(J)V -/
def FX10_push (p0 : Option Nat) (p1 : Int64) (h0 : Hp) : Option (Unit × Hp) :=
  gI h0 p0 9 1 fun v1 =>
  gR h0 p0 9 0 fun v5 =>
  ln h0 v5 .long fun v9 =>
  if (v1 : Int32) < v9 then
    gR h0 p0 9 0 fun v15 =>
    gI h0 p0 9 1 fun v19 =>
    sL h0 v15 v19 p1 fun h23 =>
    gI h23 p0 9 1 fun v30 =>
    pI h23 p0 9 1 (v30 + 1) fun h37 =>
    some ((), h37)
  else
    some ((), h0)
set_option maxRecDepth 100000 in
set_option maxHeartbeats 4000000 in
theorem FX10_push_ok {G : xG} {l : Launch} {p0 : Option Nat} {p1 : Int64} {h0 h1 : Hp} {r : Unit} (hF : FX10_push p0 p1 h0 = some (r, h1)) : xc G l mX10_push 1 0 0 [va_rf p0, .long p1] h0 (xP mkV r h1) := by
  refine xo_V [.inr (.inr _), .inr (.inl _)] (by decide) (Nat.le_of_ble_eq_true rfl) rfl ?_
  show xv _ _ _ _ _ _ _ [(0, false, va_rf p0), (1, true, .long p1)] _ _ _
  unfold FX10_push at hF
  refine xe_aload_n dX10_push_0 rfl rfl ?_
  obtain ⟨a2, e3, t4, hF⟩ := gI_inv hF
  refine xq_getI dX10_push_1 fl_Words_15 xk_9 e3 t4 rfl ?_
  refine xe_aload_n dX10_push_4 rfl rfl ?_
  obtain ⟨a6, e7, t8, hF⟩ := gR_inv hF
  refine xq_getR dX10_push_5 fl_Words_9 xk_9 e7 t8 rfl ?_
  obtain ⟨a10, n11, e12, t13, hF⟩ := ln_inv hF
  refine xq_alen dX10_push_8 e12 t13 (by decide) ?_
  refine xe_icmp_ge (tgt := 32) dX10_push_9 (by decide) (fun c14 => ?_) (fun c14 => ?_)
  · replace hF := if_p c14 hF
    refine xe_aload_n dX10_push_12 rfl rfl ?_
    obtain ⟨a16, e17, t18, hF⟩ := gR_inv hF
    refine xq_getR dX10_push_13 fl_Words_9 xk_9 e17 t18 rfl ?_
    refine xe_aload_n dX10_push_16 rfl rfl ?_
    obtain ⟨a20, e21, t22, hF⟩ := gI_inv hF
    refine xq_getI dX10_push_17 fl_Words_15 xk_9 e21 t22 rfl ?_
    refine xe_lload_n dX10_push_20 rfl rfl ?_
    obtain ⟨a24, n25, e26, t27, b28, hF⟩ := sL_inv hF
    refine xq_last dX10_push_21 e26 t27 b28 ?_
    refine xe_aload_n dX10_push_22 rfl rfl ?_
    refine xe_dup dX10_push_23 (va_rf_cat _) ?_
    obtain ⟨a31, e32, t33, hF⟩ := gI_inv hF
    refine xq_getI dX10_push_24 fl_Words_15 xk_9 e32 t33 rfl ?_
    refine xe_iconst (v := 1) dX10_push_27 (by decide) ?_
    refine xe_iadd dX10_push_28 ?_
    obtain ⟨a34, e35, t36, hF⟩ := pI_inv hF
    refine xq_putI dX10_push_29 fl_Words_15 xk_9 (by decide) (fun z => by cases z) e35 t36 (Or.inl rfl) ?_
    exact xe_return dX10_push_32 (xP_ret (mk := mkV) hF)
  · replace hF := if_n c14 hF
    exact xe_return dX10_push_32 (xP_ret (mk := mkV) hF)
/-! SeldomOps$Words.move(I)V -/
def FX10_move (p0 : Option Nat) (p1 : Int32) (h0 : Hp) : Option (Unit × Hp) :=
  tU (p1 - 8) fun v1 =>
  if (9 : Int32) < p1 then
    if (p1 : Int32) = 16 then
      rcv h0 p0 9 <|
      cl (FX10_pop p0 h0) fun v5 h6 =>
      rcv h6 p0 9 <|
      cl (FX10_pop p0 h6) fun v11 h12 =>
      rcv h12 p0 9 <|
      cl (FX10_push p0 v5 h12) fun v17 h18 =>
      rcv h18 p0 9 <|
      cl (FX10_push p0 v11 h18) fun v23 h24 =>
      some ((), h24)
    else
      tV (p1 - 8) fun v29 =>
      rcv h0 p0 9 <|
      cl (FX10_copyUnder p0 v29 v1 h0) fun v31 h32 =>
      some ((), h32)
  else
    rcv h0 p0 9 <|
    cl (FX10_drop p0 v1 h0) fun v37 h38 =>
    some ((), h38)
set_option maxRecDepth 100000 in
set_option maxHeartbeats 4000000 in
theorem FX10_move_ok {G : xG} {l : Launch} {p0 : Option Nat} {p1 : Int32} {h0 h1 : Hp} {r : Unit} (hF : FX10_move p0 p1 h0 = some (r, h1)) : xc G l mX10_move 2 0 0 [va_rf p0, .int p1] h0 (xP mkV r h1) := by
  refine xo_V [.inr (.inr _), .inl _] (by decide) (Nat.le_of_ble_eq_true rfl) rfl ?_
  show xv _ _ _ _ _ _ _ [(0, false, va_rf p0), (1, false, .int p1)] _ _ _
  unfold FX10_move at hF
  refine xe_getsN (kst := 0) dX10_move_0 (Or.inl ⟨rfl, rfl⟩) tn_647 ?_
  refine xe_iload_n dX10_move_3 rfl rfl ?_
  refine xe_bipush (v := 8) dX10_move_4 (by decide) ?_
  refine xe_isub dX10_move_6 ?_
  obtain ⟨n2, hF⟩ := inb_inv hF
  refine xe_tald (kst := 0) dX10_move_7 (by decide) n2 ?_
  refine xe_istore_n dX10_move_8 rfl (by decide) ?_
  refine xe_iload_n dX10_move_9 rfl rfl ?_
  refine xe_bipush (v := 9) dX10_move_10 (by decide) ?_
  refine xe_icmp_gt (tgt := 23) dX10_move_12 (by decide) (fun c3 => ?_) (fun c3 => ?_)
  · replace hF := if_p c3 hF
    refine xe_iload_n dX10_move_23 rfl rfl ?_
    refine xe_bipush (v := 16) dX10_move_24 (by decide) ?_
    refine xe_icmp_ne (tgt := 54) dX10_move_26 (by decide) (fun c4 => ?_) (fun c4 => ?_)
    · replace hF := if_p c4 hF
      refine xe_aload_n dX10_move_29 rfl rfl ?_
      obtain ⟨a10, e8, t9, hF⟩ := rcv_inv hF
      obtain ⟨v5, h6, o7, hF⟩ := cl_inv hF
      refine xz (xq_callV (As := []) (rest := []) dX10_move_30 mk_X10_pop ⟨tw_649, tw_650, tw_651⟩ (ci := 9) rfl e8 t9 (FX10_pop_ok o7) xP_q (by decide) (by decide) rfl rfl ?_)
      refine xe_lstore_n dX10_move_33 rfl (by decide) ?_
      refine xe_aload_n dX10_move_34 rfl rfl ?_
      obtain ⟨a16, e14, t15, hF⟩ := rcv_inv hF
      obtain ⟨v11, h12, o13, hF⟩ := cl_inv hF
      refine xz (xq_callV (As := []) (rest := []) dX10_move_35 mk_X10_pop ⟨tw_649, tw_650, tw_651⟩ (ci := 9) rfl e14 t15 (FX10_pop_ok o13) xP_q (by decide) (by decide) rfl rfl ?_)
      refine xe_lstore dX10_move_38 (by decide) ?_
      refine xe_aload_n dX10_move_40 rfl rfl ?_
      refine xe_lload_n dX10_move_41 rfl rfl ?_
      obtain ⟨a22, e20, t21, hF⟩ := rcv_inv hF
      obtain ⟨v17, h18, o19, hF⟩ := cl_inv hF
      refine xz (xq_callV (As := [.long _]) (rest := []) dX10_move_42 mk_X10_push ⟨tw_653, tw_640, tw_641⟩ (ci := 9) rfl e20 t21 (FX10_push_ok o19) xP_q (by decide) (by decide) rfl rfl ?_)
      refine xe_aload_n dX10_move_45 rfl rfl ?_
      refine xe_lload dX10_move_46 rfl ?_
      obtain ⟨a28, e26, t27, hF⟩ := rcv_inv hF
      obtain ⟨v23, h24, o25, hF⟩ := cl_inv hF
      refine xz (xq_callV (As := [.long _]) (rest := []) dX10_move_48 mk_X10_push ⟨tw_653, tw_640, tw_641⟩ (ci := 9) rfl e26 t27 (FX10_push_ok o25) xP_q (by decide) (by decide) rfl rfl ?_)
      refine xe_goto (tgt := 67) dX10_move_51 (by decide) ?_
      exact xe_return dX10_move_67 (xP_ret (mk := mkV) hF)
    · replace hF := if_n c4 hF
      refine xe_aload_n dX10_move_54 rfl rfl ?_
      refine xe_getsN (kst := 1) dX10_move_55 (Or.inr ⟨rfl, rfl⟩) tn_654 ?_
      refine xe_iload_n dX10_move_58 rfl rfl ?_
      refine xe_bipush (v := 8) dX10_move_59 (by decide) ?_
      refine xe_isub dX10_move_61 ?_
      obtain ⟨n30, hF⟩ := inb_inv hF
      refine xe_tald (kst := 1) dX10_move_62 (by decide) n30 ?_
      refine xe_iload_n dX10_move_63 rfl rfl ?_
      obtain ⟨a36, e34, t35, hF⟩ := rcv_inv hF
      obtain ⟨v31, h32, o33, hF⟩ := cl_inv hF
      refine xz (xq_callV (As := [.int _, .int _]) (rest := []) dX10_move_64 mk_X10_copyUnder ⟨tw_655, tw_657, ts_13⟩ (ci := 9) rfl e34 t35 (FX10_copyUnder_ok o33) xP_q (by decide) (by decide) rfl rfl ?_)
      exact xe_return dX10_move_67 (xP_ret (mk := mkV) hF)
  · replace hF := if_n c3 hF
    refine xe_aload_n dX10_move_15 rfl rfl ?_
    refine xe_iload_n dX10_move_16 rfl rfl ?_
    obtain ⟨a42, e40, t41, hF⟩ := rcv_inv hF
    obtain ⟨v37, h38, o39, hF⟩ := cl_inv hF
    refine xz (xq_callV (As := [.int _]) (rest := []) dX10_move_17 mk_X10_drop ⟨tw_648, tw_589, tw_590⟩ (ci := 9) rfl e40 t41 (FX10_drop_ok o39) xP_q (by decide) (by decide) rfl rfl ?_)
    refine xe_goto (tgt := 67) dX10_move_20 (by decide) ?_
    exact xe_return dX10_move_67 (xP_ret (mk := mkV) hF)
/-! SeldomOps.isWide(I)Z -/
def FX11_isWide (p0 : Int32) (h0 : Hp) : Option (Int32 × Hp) :=
  if (p0 : Int32) = 1 then
    bz 1 (some (1, h0))
  else
    if (p0 : Int32) = 3 then
      bz 1 (some (1, h0))
    else
      bz 0 (some (0, h0))
set_option maxRecDepth 100000 in
set_option maxHeartbeats 4000000 in
theorem FX11_isWide_ok {G : xG} {l : Launch} {p0 : Int32} {h0 h1 : Hp} {r : Int32} (hF : FX11_isWide p0 h0 = some (r, h1)) : xc G l mX11_isWide 1 0 0 [.int p0] h0 (xPZ r h1) := by
  refine xo_Z [.inl _] (by decide) (Nat.le_of_ble_eq_true rfl) rfl ?_
  show xv _ _ _ _ _ _ _ [(0, false, .int p0)] _ _ _
  unfold FX11_isWide at hF
  refine xe_iload_n dX11_isWide_0 rfl rfl ?_
  refine xe_iconst (v := 1) dX11_isWide_1 (by decide) ?_
  refine xe_icmp_eq (tgt := 10) dX11_isWide_2 (by decide) (fun c1 => ?_) (fun c1 => ?_)
  · replace hF := if_p c1 hF
    refine xe_iconst (v := 1) dX11_isWide_10 (by decide) ?_
    refine xe_goto (tgt := 15) dX11_isWide_11 (by decide) ?_
    obtain ⟨z2, hF⟩ := bz_inv hF
    exact xe_ireturn dX11_isWide_15 (xPZ_ret z2 hF)
  · replace hF := if_n c1 hF
    refine xe_iload_n dX11_isWide_5 rfl rfl ?_
    refine xe_iconst (v := 3) dX11_isWide_6 (by decide) ?_
    refine xe_icmp_ne (tgt := 14) dX11_isWide_7 (by decide) (fun c3 => ?_) (fun c3 => ?_)
    · replace hF := if_p c3 hF
      refine xe_iconst (v := 1) dX11_isWide_10 (by decide) ?_
      refine xe_goto (tgt := 15) dX11_isWide_11 (by decide) ?_
      obtain ⟨z4, hF⟩ := bz_inv hF
      exact xe_ireturn dX11_isWide_15 (xPZ_ret z4 hF)
    · replace hF := if_n c3 hF
      refine xe_iconst (v := 0) dX11_isWide_14 (by decide) ?_
      obtain ⟨z5, hF⟩ := bz_inv hF
      exact xe_ireturn dX11_isWide_15 (xPZ_ret z5 hF)
/-! SeldomOps$Words.popBits(I)J -/
def BX10_popBits_12 (x0 : Option Nat) (h0 : Hp) : Option (Int64 × Hp) :=
  rcv h0 x0 9 <|
  cl (FX10_pop x0 h0) fun v1 h2 =>
  some (v1, h2)
set_option maxRecDepth 100000 in
set_option maxHeartbeats 4000000 in
theorem BX10_popBits_12_ok {G : xG} {l : Launch} {x0 : Option Nat} {h0 h1 : Hp} {r : Int64} (hF : BX10_popBits_12 x0 h0 = some (r, h1)) : xv G l mX10_popBits 2 0 0 12 [(0, false, va_rf x0)] [] h0 (xP mkL r h1) := by
  unfold BX10_popBits_12 at hF
  refine xe_aload_n dX10_popBits_12 rfl rfl ?_
  obtain ⟨a6, e4, t5, hF⟩ := rcv_inv hF
  obtain ⟨v1, h2, o3, hF⟩ := cl_inv hF
  refine xz (xq_callV (As := []) (rest := []) dX10_popBits_13 mk_X10_pop ⟨tw_649, tw_650, tw_651⟩ (ci := 9) rfl e4 t5 (FX10_pop_ok o3) xP_q (by decide) (by decide) rfl rfl ?_)
  exact xe_lreturn dX10_popBits_16 (xP_ret (mk := mkL) hF)
def FX10_popBits (p0 : Option Nat) (p1 : Int32) (h0 : Hp) : Option (Int64 × Hp) :=
  cl (FX11_isWide p1 h0) fun v1 h2 =>
  if (v1 : Int32) = 0 then
    BX10_popBits_12 p0 h2
  else
    rcv h2 p0 9 <|
    cl (FX10_pop p0 h2) fun v5 h6 =>
    BX10_popBits_12 p0 h6
set_option maxRecDepth 100000 in
set_option maxHeartbeats 4000000 in
theorem FX10_popBits_ok {G : xG} {l : Launch} {p0 : Option Nat} {p1 : Int32} {h0 h1 : Hp} {r : Int64} (hF : FX10_popBits p0 p1 h0 = some (r, h1)) : xc G l mX10_popBits 2 0 0 [va_rf p0, .int p1] h0 (xP mkL r h1) := by
  refine xo_L [.inr (.inr _), .inl _] (by decide) (Nat.le_of_ble_eq_true rfl) rfl ?_
  show xv _ _ _ _ _ _ _ [(0, false, va_rf p0), (1, false, .int p1)] _ _ _
  unfold FX10_popBits at hF
  refine xe_iload_n dX10_popBits_0 rfl rfl ?_
  obtain ⟨v1, h2, o3, hF⟩ := cl_inv hF
  refine xz (xq_callSN (As := [.int _]) (rest := []) dX10_popBits_1 mk_X11_isWide ⟨tn_758, tw_390⟩ (FX11_isWide_ok o3) xPZ_q (by decide) (by decide) rfl rfl ?_)
  refine xe_if_eq (tgt := 12) dX10_popBits_4 (by decide) (fun c4 => ?_) (fun c4 => ?_)
  · replace hF := if_p c4 hF
    exact xv.lv (BX10_popBits_12_ok hF) (xsub_cons rfl xsub_nil)
  · replace hF := if_n c4 hF
    refine xe_aload_n dX10_popBits_7 rfl rfl ?_
    obtain ⟨a10, e8, t9, hF⟩ := rcv_inv hF
    obtain ⟨v5, h6, o7, hF⟩ := cl_inv hF
    refine xz (xq_callV (As := []) (rest := []) dX10_popBits_8 mk_X10_pop ⟨tw_649, tw_650, tw_651⟩ (ci := 9) rfl e8 t9 (FX10_pop_ok o7) xP_q (by decide) (by decide) rfl rfl ?_)
    refine xe_pop2 dX10_popBits_11 rfl ?_
    exact xv.lv (BX10_popBits_12_ok hF) (xsub_cons rfl xsub_nil)
/-! SeldomOps$Words.popInt()I -/
def FX10_popInt (p0 : Option Nat) (h0 : Hp) : Option (Int32 × Hp) :=
  rcv h0 p0 9 <|
  cl (FX10_pop p0 h0) fun v1 h2 =>
  some ((Int64.toInt32 v1), h2)
set_option maxRecDepth 100000 in
set_option maxHeartbeats 4000000 in
theorem FX10_popInt_ok {G : xG} {l : Launch} {p0 : Option Nat} {h0 h1 : Hp} {r : Int32} (hF : FX10_popInt p0 h0 = some (r, h1)) : xc G l mX10_popInt 2 0 0 [va_rf p0] h0 (xP mkI r h1) := by
  refine xo_I [.inr (.inr _)] (by decide) (Nat.le_of_ble_eq_true rfl) rfl ?_
  show xv _ _ _ _ _ _ _ [(0, false, va_rf p0)] _ _ _
  unfold FX10_popInt at hF
  refine xe_aload_n dX10_popInt_0 rfl rfl ?_
  obtain ⟨a6, e4, t5, hF⟩ := rcv_inv hF
  obtain ⟨v1, h2, o3, hF⟩ := cl_inv hF
  refine xz (xq_callV (As := []) (rest := []) dX10_popInt_1 mk_X10_pop ⟨tw_649, tw_650, tw_651⟩ (ci := 9) rfl e4 t5 (FX10_pop_ok o3) xP_q (by decide) (by decide) rfl rfl ?_)
  refine xe_l2i dX10_popInt_4 ?_
  exact xe_ireturn dX10_popInt_5 (xP_ret (mk := mkI) hF)
/-! SeldomOps$Words.pushBits(IJ)V -/
def FX10_pushBits (p0 : Option Nat) (p1 : Int32) (p2 : Int64) (h0 : Hp) : Option (Unit × Hp) :=
  rcv h0 p0 9 <|
  cl (FX10_push p0 p2 h0) fun v1 h2 =>
  cl (FX11_isWide p1 h2) fun v7 h8 =>
  if (v7 : Int32) = 0 then
    some ((), h8)
  else
    rcv h8 p0 9 <|
    cl (FX10_push p0 0 h8) fun v11 h12 =>
    some ((), h12)
set_option maxRecDepth 100000 in
set_option maxHeartbeats 4000000 in
theorem FX10_pushBits_ok {G : xG} {l : Launch} {p0 : Option Nat} {p1 : Int32} {p2 : Int64} {h0 h1 : Hp} {r : Unit} (hF : FX10_pushBits p0 p1 p2 h0 = some (r, h1)) : xc G l mX10_pushBits 2 0 0 [va_rf p0, .int p1, .long p2] h0 (xP mkV r h1) := by
  refine xo_V [.inr (.inr _), .inl _, .inr (.inl _)] (by decide) (Nat.le_of_ble_eq_true rfl) rfl ?_
  show xv _ _ _ _ _ _ _ [(0, false, va_rf p0), (1, false, .int p1), (2, true, .long p2)] _ _ _
  unfold FX10_pushBits at hF
  refine xe_aload_n dX10_pushBits_0 rfl rfl ?_
  refine xe_lload_n dX10_pushBits_1 rfl rfl ?_
  obtain ⟨a6, e4, t5, hF⟩ := rcv_inv hF
  obtain ⟨v1, h2, o3, hF⟩ := cl_inv hF
  refine xz (xq_callV (As := [.long _]) (rest := []) dX10_pushBits_2 mk_X10_push ⟨tw_653, tw_640, tw_641⟩ (ci := 9) rfl e4 t5 (FX10_push_ok o3) xP_q (by decide) (by decide) rfl rfl ?_)
  refine xe_iload_n dX10_pushBits_5 rfl rfl ?_
  obtain ⟨v7, h8, o9, hF⟩ := cl_inv hF
  refine xz (xq_callSN (As := [.int _]) (rest := []) dX10_pushBits_6 mk_X11_isWide ⟨tn_758, tw_390⟩ (FX11_isWide_ok o9) xPZ_q (by decide) (by decide) rfl rfl ?_)
  refine xe_if_eq (tgt := 17) dX10_pushBits_9 (by decide) (fun c10 => ?_) (fun c10 => ?_)
  · replace hF := if_p c10 hF
    exact xe_return dX10_pushBits_17 (xP_ret (mk := mkV) hF)
  · replace hF := if_n c10 hF
    refine xe_aload_n dX10_pushBits_12 rfl rfl ?_
    refine xe_lconst (v := 0) dX10_pushBits_13 (by decide) ?_
    obtain ⟨a16, e14, t15, hF⟩ := rcv_inv hF
    obtain ⟨v11, h12, o13, hF⟩ := cl_inv hF
    refine xz (xq_callV (As := [.long _]) (rest := []) dX10_pushBits_14 mk_X10_push ⟨tw_653, tw_640, tw_641⟩ (ci := 9) rfl e14 t15 (FX10_push_ok o13) xP_q (by decide) (by decide) rfl rfl ?_)
    exact xe_return dX10_pushBits_17 (xP_ret (mk := mkV) hF)
/-! SeldomOps$Shape.writeLocal(II)V -/
def FX5_writeLocal (p0 : Option Nat) (p1 : Int32) (p2 : Int32) (h0 : Hp) : Option (Unit × Hp) :=
  cl (FX11_within p1 16 h0) fun v1 h2 =>
  if (v1 : Int32) = 0 then
    some ((), h2)
  else
    gR h2 p0 4 1 fun v5 =>
    sL h2 v5 p1 (Int32.toInt64 p2) fun h9 =>
    some ((), h9)
set_option maxRecDepth 100000 in
set_option maxHeartbeats 4000000 in
theorem FX5_writeLocal_ok {G : xG} {l : Launch} {p0 : Option Nat} {p1 : Int32} {p2 : Int32} {h0 h1 : Hp} {r : Unit} (hF : FX5_writeLocal p0 p1 p2 h0 = some (r, h1)) : xc G l mX5_writeLocal 2 0 0 [va_rf p0, .int p1, .int p2] h0 (xP mkV r h1) := by
  refine xo_V [.inr (.inr _), .inl _, .inl _] (by decide) (Nat.le_of_ble_eq_true rfl) rfl ?_
  show xv _ _ _ _ _ _ _ [(0, false, va_rf p0), (1, false, .int p1), (2, false, .int p2)] _ _ _
  unfold FX5_writeLocal at hF
  refine xe_iload_n dX5_writeLocal_0 rfl rfl ?_
  refine xe_bipush (v := 16) dX5_writeLocal_1 (by decide) ?_
  obtain ⟨v1, h2, o3, hF⟩ := cl_inv hF
  refine xz (xq_callSN (As := [.int _, .int _]) (rest := []) dX5_writeLocal_3 mk_X11_within ⟨tn_506, tw_264⟩ (FX11_within_ok o3) xPZ_q (by decide) (by decide) rfl rfl ?_)
  refine xe_if_eq (tgt := 17) dX5_writeLocal_6 (by decide) (fun c4 => ?_) (fun c4 => ?_)
  · replace hF := if_p c4 hF
    exact xe_return dX5_writeLocal_17 (xP_ret (mk := mkV) hF)
  · replace hF := if_n c4 hF
    refine xe_aload_n dX5_writeLocal_9 rfl rfl ?_
    obtain ⟨a6, e7, t8, hF⟩ := gR_inv hF
    refine xq_getR dX5_writeLocal_10 fl_Shape_18 xk_4 e7 t8 rfl ?_
    refine xe_iload_n dX5_writeLocal_13 rfl rfl ?_
    refine xe_iload_n dX5_writeLocal_14 rfl rfl ?_
    refine xe_i2l dX5_writeLocal_15 ?_
    obtain ⟨a10, n11, e12, t13, b14, hF⟩ := sL_inv hF
    refine xq_last dX5_writeLocal_16 e12 t13 b14 ?_
    exact xe_return dX5_writeLocal_17 (xP_ret (mk := mkV) hF)
/-! SeldomOps.endOf(I)I -/
def FX11_endOf (p0 : Int32) (h0 : Hp) : Option (Int32 × Hp) :=
  if (p0 : Int32) = 1 then
    some (6, h0)
  else
    some (7, h0)
set_option maxRecDepth 100000 in
set_option maxHeartbeats 4000000 in
theorem FX11_endOf_ok {G : xG} {l : Launch} {p0 : Int32} {h0 h1 : Hp} {r : Int32} (hF : FX11_endOf p0 h0 = some (r, h1)) : xc G l mX11_endOf 1 0 0 [.int p0] h0 (xP mkI r h1) := by
  refine xo_I [.inl _] (by decide) (Nat.le_of_ble_eq_true rfl) rfl ?_
  show xv _ _ _ _ _ _ _ [(0, false, .int p0)] _ _ _
  unfold FX11_endOf at hF
  refine xe_iload_n dX11_endOf_0 rfl rfl ?_
  refine xe_iconst (v := 1) dX11_endOf_1 (by decide) ?_
  refine xe_icmp_ne (tgt := 10) dX11_endOf_2 (by decide) (fun c1 => ?_) (fun c1 => ?_)
  · replace hF := if_p c1 hF
    refine xe_bipush (v := 6) dX11_endOf_5 (by decide) ?_
    refine xe_goto (tgt := 12) dX11_endOf_7 (by decide) ?_
    exact xe_ireturn dX11_endOf_12 (xP_ret (mk := mkI) hF)
  · replace hF := if_n c1 hF
    refine xe_bipush (v := 7) dX11_endOf_10 (by decide) ?_
    exact xe_ireturn dX11_endOf_12 (xP_ret (mk := mkI) hF)
/-! SeldomOps$Shape.dropHalves([JI)V -/
def BX5_dropHalves_152 (k2 : Option Nat → Int32 → Int32 → Hp → Option (Unit × Hp)) (x0 : Option Nat) (x1 : Int32) (x2 : Int32) (h0 : Hp) : Option (Unit × Hp) :=
  k2 x0 x1 (x2 + 1) h0
set_option maxRecDepth 100000 in
set_option maxHeartbeats 4000000 in
theorem BX5_dropHalves_152_ok {G : xG} {l : Launch} {k2 : Option Nat → Int32 → Int32 → Hp → Option (Unit × Hp)} (hk2 : ∀ {x0 : Option Nat} {x1 : Int32} {x2 : Int32} {h0 h1 : Hp} {r : Unit}, k2 x0 x1 x2 h0 = some (r, h1) → xv G l mX5_dropHalves 1 0 0 2 [(0, false, va_rf x0), (1, false, .int x1), (2, false, .int x2)] [] h0 (xP mkV r h1)) {x0 : Option Nat} {x1 : Int32} {x2 : Int32} {h0 h1 : Hp} {r : Unit} (hF : BX5_dropHalves_152 k2 x0 x1 x2 h0 = some (r, h1)) : xv G l mX5_dropHalves 1 0 0 152 [(0, false, va_rf x0), (1, false, .int x1), (2, false, .int x2)] [] h0 (xP mkV r h1) := by
  unfold BX5_dropHalves_152 at hF
  refine xe_iinc (v := _ + 1) dX5_dropHalves_152 rfl rfl (by decide) ?_
  refine xe_goto (tgt := 2) dX5_dropHalves_155 (by decide) ?_
  exact xv.lv (hk2 hF) (xsub_cons rfl (xsub_cons rfl (xsub_cons rfl xsub_nil)))
def BX5_dropHalves_144 (k2 : Option Nat → Int32 → Int32 → Hp → Option (Unit × Hp)) (x0 : Option Nat) (x1 : Int32) (x2 : Int32) (h0 : Hp) : Option (Unit × Hp) :=
  sL h0 x0 (x1 + x2) 5 fun h1 =>
  BX5_dropHalves_152 k2 x0 x1 x2 h1
set_option maxRecDepth 100000 in
set_option maxHeartbeats 4000000 in
theorem BX5_dropHalves_144_ok {G : xG} {l : Launch} {k2 : Option Nat → Int32 → Int32 → Hp → Option (Unit × Hp)} (hk2 : ∀ {x0 : Option Nat} {x1 : Int32} {x2 : Int32} {h0 h1 : Hp} {r : Unit}, k2 x0 x1 x2 h0 = some (r, h1) → xv G l mX5_dropHalves 1 0 0 2 [(0, false, va_rf x0), (1, false, .int x1), (2, false, .int x2)] [] h0 (xP mkV r h1)) {x0 : Option Nat} {x1 : Int32} {x2 : Int32} {h0 h1 : Hp} {r : Unit} (hF : BX5_dropHalves_144 k2 x0 x1 x2 h0 = some (r, h1)) : xv G l mX5_dropHalves 1 0 0 144 [(0, false, va_rf x0), (1, false, .int x1), (2, false, .int x2)] [] h0 (xP mkV r h1) := by
  unfold BX5_dropHalves_144 at hF
  refine xe_aload_n dX5_dropHalves_144 rfl rfl ?_
  refine xe_iload_n dX5_dropHalves_145 rfl rfl ?_
  refine xe_iload_n dX5_dropHalves_146 rfl rfl ?_
  refine xe_iadd dX5_dropHalves_147 ?_
  refine xe_ldc2 (v := 5) dX5_dropHalves_148 tw_514 ?_
  obtain ⟨a2, n3, e4, t5, b6, hF⟩ := sL_inv hF
  refine xq_last dX5_dropHalves_151 e4 t5 b6 ?_
  exact xv.lv (BX5_dropHalves_152_ok hk2 hF) (xsub_cons rfl (xsub_cons rfl (xsub_cons rfl xsub_nil)))
def BX5_dropHalves_132 (k2 : Option Nat → Int32 → Int32 → Hp → Option (Unit × Hp)) (x0 : Option Nat) (x1 : Int32) (x2 : Int32) (x9 : Int32) (s0 : Int32) (h0 : Hp) : Option (Unit × Hp) :=
  if (x9 : Int32) = 0 then
    if (s0 : Int32) = 0 then
      BX5_dropHalves_152 k2 x0 x1 x2 h0
    else
      BX5_dropHalves_144 k2 x0 x1 x2 h0
  else
    BX5_dropHalves_144 k2 x0 x1 x2 h0
set_option maxRecDepth 100000 in
set_option maxHeartbeats 4000000 in
theorem BX5_dropHalves_132_ok {G : xG} {l : Launch} {k2 : Option Nat → Int32 → Int32 → Hp → Option (Unit × Hp)} (hk2 : ∀ {x0 : Option Nat} {x1 : Int32} {x2 : Int32} {h0 h1 : Hp} {r : Unit}, k2 x0 x1 x2 h0 = some (r, h1) → xv G l mX5_dropHalves 1 0 0 2 [(0, false, va_rf x0), (1, false, .int x1), (2, false, .int x2)] [] h0 (xP mkV r h1)) {x0 : Option Nat} {x1 : Int32} {x2 : Int32} {x9 : Int32} {s0 : Int32} {h0 h1 : Hp} {r : Unit} (hF : BX5_dropHalves_132 k2 x0 x1 x2 x9 s0 h0 = some (r, h1)) : xv G l mX5_dropHalves 1 0 0 132 [(0, false, va_rf x0), (1, false, .int x1), (2, false, .int x2), (9, false, .int x9)] [.int s0] h0 (xP mkV r h1) := by
  unfold BX5_dropHalves_132 at hF
  refine xe_istore dX5_dropHalves_132 (by decide) ?_
  refine xe_iload dX5_dropHalves_134 rfl ?_
  refine xe_if_ne (tgt := 144) dX5_dropHalves_136 (by decide) (fun c1 => ?_) (fun c1 => ?_)
  · replace hF := if_p c1 hF
    refine xe_iload dX5_dropHalves_139 rfl ?_
    refine xe_if_eq (tgt := 152) dX5_dropHalves_141 (by decide) (fun c2 => ?_) (fun c2 => ?_)
    · replace hF := if_p c2 hF
      exact xv.lv (BX5_dropHalves_152_ok hk2 hF) (xsub_cons rfl (xsub_cons rfl (xsub_cons rfl xsub_nil)))
    · replace hF := if_n c2 hF
      exact xv.lv (BX5_dropHalves_144_ok hk2 hF) (xsub_cons rfl (xsub_cons rfl (xsub_cons rfl xsub_nil)))
  · replace hF := if_n c1 hF
    exact xv.lv (BX5_dropHalves_144_ok hk2 hF) (xsub_cons rfl (xsub_cons rfl (xsub_cons rfl xsub_nil)))
def BX5_dropHalves_127 (k2 : Option Nat → Int32 → Int32 → Hp → Option (Unit × Hp)) (x0 : Option Nat) (x1 : Int32) (x2 : Int32) (x9 : Int32) (h0 : Hp) : Option (Unit × Hp) :=
  BX5_dropHalves_132 k2 x0 x1 x2 x9 1 h0
set_option maxRecDepth 100000 in
set_option maxHeartbeats 4000000 in
theorem BX5_dropHalves_127_ok {G : xG} {l : Launch} {k2 : Option Nat → Int32 → Int32 → Hp → Option (Unit × Hp)} (hk2 : ∀ {x0 : Option Nat} {x1 : Int32} {x2 : Int32} {h0 h1 : Hp} {r : Unit}, k2 x0 x1 x2 h0 = some (r, h1) → xv G l mX5_dropHalves 1 0 0 2 [(0, false, va_rf x0), (1, false, .int x1), (2, false, .int x2)] [] h0 (xP mkV r h1)) {x0 : Option Nat} {x1 : Int32} {x2 : Int32} {x9 : Int32} {h0 h1 : Hp} {r : Unit} (hF : BX5_dropHalves_127 k2 x0 x1 x2 x9 h0 = some (r, h1)) : xv G l mX5_dropHalves 1 0 0 127 [(0, false, va_rf x0), (1, false, .int x1), (2, false, .int x2), (9, false, .int x9)] [] h0 (xP mkV r h1) := by
  unfold BX5_dropHalves_127 at hF
  refine xe_iconst (v := 1) dX5_dropHalves_127 (by decide) ?_
  refine xe_goto (tgt := 132) dX5_dropHalves_128 (by decide) ?_
  exact xv.lv (BX5_dropHalves_132_ok hk2 hF) (xsub_cons rfl (xsub_cons rfl (xsub_cons rfl (xsub_cons rfl xsub_nil))))
def BX5_dropHalves_131 (k2 : Option Nat → Int32 → Int32 → Hp → Option (Unit × Hp)) (x0 : Option Nat) (x1 : Int32) (x2 : Int32) (x9 : Int32) (h0 : Hp) : Option (Unit × Hp) :=
  BX5_dropHalves_132 k2 x0 x1 x2 x9 0 h0
set_option maxRecDepth 100000 in
set_option maxHeartbeats 4000000 in
theorem BX5_dropHalves_131_ok {G : xG} {l : Launch} {k2 : Option Nat → Int32 → Int32 → Hp → Option (Unit × Hp)} (hk2 : ∀ {x0 : Option Nat} {x1 : Int32} {x2 : Int32} {h0 h1 : Hp} {r : Unit}, k2 x0 x1 x2 h0 = some (r, h1) → xv G l mX5_dropHalves 1 0 0 2 [(0, false, va_rf x0), (1, false, .int x1), (2, false, .int x2)] [] h0 (xP mkV r h1)) {x0 : Option Nat} {x1 : Int32} {x2 : Int32} {x9 : Int32} {h0 h1 : Hp} {r : Unit} (hF : BX5_dropHalves_131 k2 x0 x1 x2 x9 h0 = some (r, h1)) : xv G l mX5_dropHalves 1 0 0 131 [(0, false, va_rf x0), (1, false, .int x1), (2, false, .int x2), (9, false, .int x9)] [] h0 (xP mkV r h1) := by
  unfold BX5_dropHalves_131 at hF
  refine xe_iconst (v := 0) dX5_dropHalves_131 (by decide) ?_
  exact xv.lv (BX5_dropHalves_132_ok hk2 hF) (xsub_cons rfl (xsub_cons rfl (xsub_cons rfl (xsub_cons rfl xsub_nil))))
def BX5_dropHalves_110 (k2 : Option Nat → Int32 → Int32 → Hp → Option (Unit × Hp)) (x0 : Option Nat) (x1 : Int32) (x2 : Int32) (x3 : Int64) (x7 : Int64) (x9 : Int32) (h0 : Hp) : Option (Unit × Hp) :=
  if (x3 : Int64) = 7 then
    if (x7 : Int64) = 3 then
      BX5_dropHalves_131 k2 x0 x1 x2 x9 h0
    else
      BX5_dropHalves_127 k2 x0 x1 x2 x9 h0
  else
    BX5_dropHalves_131 k2 x0 x1 x2 x9 h0
set_option maxRecDepth 100000 in
set_option maxHeartbeats 4000000 in
theorem BX5_dropHalves_110_ok {G : xG} {l : Launch} {k2 : Option Nat → Int32 → Int32 → Hp → Option (Unit × Hp)} (hk2 : ∀ {x0 : Option Nat} {x1 : Int32} {x2 : Int32} {h0 h1 : Hp} {r : Unit}, k2 x0 x1 x2 h0 = some (r, h1) → xv G l mX5_dropHalves 1 0 0 2 [(0, false, va_rf x0), (1, false, .int x1), (2, false, .int x2)] [] h0 (xP mkV r h1)) {x0 : Option Nat} {x1 : Int32} {x2 : Int32} {x3 : Int64} {x7 : Int64} {x9 : Int32} {h0 h1 : Hp} {r : Unit} (hF : BX5_dropHalves_110 k2 x0 x1 x2 x3 x7 x9 h0 = some (r, h1)) : xv G l mX5_dropHalves 1 0 0 110 [(0, false, va_rf x0), (1, false, .int x1), (2, false, .int x2), (3, true, .long x3), (7, true, .long x7), (9, false, .int x9)] [] h0 (xP mkV r h1) := by
  unfold BX5_dropHalves_110 at hF
  refine xe_lload_n dX5_dropHalves_110 rfl rfl ?_
  refine xe_ldc2 (v := 7) dX5_dropHalves_111 tw_517 ?_
  refine xe_lcmp dX5_dropHalves_114 ?_
  refine xe_lif_ne (tgt := 131) dX5_dropHalves_115 (by decide) (fun c1 => ?_) (fun c1 => ?_)
  · replace hF := if_p c1 hF
    refine xe_lload dX5_dropHalves_118 rfl ?_
    refine xe_ldc2 (v := 3) dX5_dropHalves_120 tw_516 ?_
    refine xe_lcmp dX5_dropHalves_123 ?_
    refine xe_lif_eq (tgt := 131) dX5_dropHalves_124 (by decide) (fun c2 => ?_) (fun c2 => ?_)
    · replace hF := if_p c2 hF
      exact xv.lv (BX5_dropHalves_131_ok hk2 hF) (xsub_cons rfl (xsub_cons rfl (xsub_cons rfl (xsub_cons rfl xsub_nil))))
    · replace hF := if_n c2 hF
      exact xv.lv (BX5_dropHalves_127_ok hk2 hF) (xsub_cons rfl (xsub_cons rfl (xsub_cons rfl (xsub_cons rfl xsub_nil))))
  · replace hF := if_n c1 hF
    exact xv.lv (BX5_dropHalves_131_ok hk2 hF) (xsub_cons rfl (xsub_cons rfl (xsub_cons rfl (xsub_cons rfl xsub_nil))))
def BX5_dropHalves_93 (k2 : Option Nat → Int32 → Int32 → Hp → Option (Unit × Hp)) (x0 : Option Nat) (x1 : Int32) (x2 : Int32) (x3 : Int64) (x7 : Int64) (s0 : Int32) (h0 : Hp) : Option (Unit × Hp) :=
  if (x3 : Int64) = 6 then
    if (x7 : Int64) = 1 then
      BX5_dropHalves_110 k2 x0 x1 x2 x3 x7 s0 h0
    else
      BX5_dropHalves_127 k2 x0 x1 x2 s0 h0
  else
    BX5_dropHalves_110 k2 x0 x1 x2 x3 x7 s0 h0
set_option maxRecDepth 100000 in
set_option maxHeartbeats 4000000 in
theorem BX5_dropHalves_93_ok {G : xG} {l : Launch} {k2 : Option Nat → Int32 → Int32 → Hp → Option (Unit × Hp)} (hk2 : ∀ {x0 : Option Nat} {x1 : Int32} {x2 : Int32} {h0 h1 : Hp} {r : Unit}, k2 x0 x1 x2 h0 = some (r, h1) → xv G l mX5_dropHalves 1 0 0 2 [(0, false, va_rf x0), (1, false, .int x1), (2, false, .int x2)] [] h0 (xP mkV r h1)) {x0 : Option Nat} {x1 : Int32} {x2 : Int32} {x3 : Int64} {x7 : Int64} {s0 : Int32} {h0 h1 : Hp} {r : Unit} (hF : BX5_dropHalves_93 k2 x0 x1 x2 x3 x7 s0 h0 = some (r, h1)) : xv G l mX5_dropHalves 1 0 0 93 [(0, false, va_rf x0), (1, false, .int x1), (2, false, .int x2), (3, true, .long x3), (7, true, .long x7)] [.int s0] h0 (xP mkV r h1) := by
  unfold BX5_dropHalves_93 at hF
  refine xe_istore dX5_dropHalves_93 (by decide) ?_
  refine xe_lload_n dX5_dropHalves_95 rfl rfl ?_
  refine xe_ldc2 (v := 6) dX5_dropHalves_96 tw_515 ?_
  refine xe_lcmp dX5_dropHalves_99 ?_
  refine xe_lif_ne (tgt := 110) dX5_dropHalves_100 (by decide) (fun c1 => ?_) (fun c1 => ?_)
  · replace hF := if_p c1 hF
    refine xe_lload dX5_dropHalves_103 rfl ?_
    refine xe_lconst (v := 1) dX5_dropHalves_105 (by decide) ?_
    refine xe_lcmp dX5_dropHalves_106 ?_
    refine xe_lif_ne (tgt := 127) dX5_dropHalves_107 (by decide) (fun c2 => ?_) (fun c2 => ?_)
    · replace hF := if_p c2 hF
      exact xv.lv (BX5_dropHalves_110_ok hk2 hF) (xsub_cons rfl (xsub_cons rfl (xsub_cons rfl (xsub_cons rfl (xsub_cons rfl (xsub_cons rfl xsub_nil))))))
    · replace hF := if_n c2 hF
      exact xv.lv (BX5_dropHalves_127_ok hk2 hF) (xsub_cons rfl (xsub_cons rfl (xsub_cons rfl (xsub_cons rfl xsub_nil))))
  · replace hF := if_n c1 hF
    exact xv.lv (BX5_dropHalves_110_ok hk2 hF) (xsub_cons rfl (xsub_cons rfl (xsub_cons rfl (xsub_cons rfl (xsub_cons rfl (xsub_cons rfl xsub_nil))))))
def BX5_dropHalves_88 (k2 : Option Nat → Int32 → Int32 → Hp → Option (Unit × Hp)) (x0 : Option Nat) (x1 : Int32) (x2 : Int32) (x3 : Int64) (x7 : Int64) (h0 : Hp) : Option (Unit × Hp) :=
  BX5_dropHalves_93 k2 x0 x1 x2 x3 x7 1 h0
set_option maxRecDepth 100000 in
set_option maxHeartbeats 4000000 in
theorem BX5_dropHalves_88_ok {G : xG} {l : Launch} {k2 : Option Nat → Int32 → Int32 → Hp → Option (Unit × Hp)} (hk2 : ∀ {x0 : Option Nat} {x1 : Int32} {x2 : Int32} {h0 h1 : Hp} {r : Unit}, k2 x0 x1 x2 h0 = some (r, h1) → xv G l mX5_dropHalves 1 0 0 2 [(0, false, va_rf x0), (1, false, .int x1), (2, false, .int x2)] [] h0 (xP mkV r h1)) {x0 : Option Nat} {x1 : Int32} {x2 : Int32} {x3 : Int64} {x7 : Int64} {h0 h1 : Hp} {r : Unit} (hF : BX5_dropHalves_88 k2 x0 x1 x2 x3 x7 h0 = some (r, h1)) : xv G l mX5_dropHalves 1 0 0 88 [(0, false, va_rf x0), (1, false, .int x1), (2, false, .int x2), (3, true, .long x3), (7, true, .long x7)] [] h0 (xP mkV r h1) := by
  unfold BX5_dropHalves_88 at hF
  refine xe_iconst (v := 1) dX5_dropHalves_88 (by decide) ?_
  refine xe_goto (tgt := 93) dX5_dropHalves_89 (by decide) ?_
  exact xv.lv (BX5_dropHalves_93_ok hk2 hF) (xsub_cons rfl (xsub_cons rfl (xsub_cons rfl (xsub_cons rfl (xsub_cons rfl xsub_nil)))))
def BX5_dropHalves_92 (k2 : Option Nat → Int32 → Int32 → Hp → Option (Unit × Hp)) (x0 : Option Nat) (x1 : Int32) (x2 : Int32) (x3 : Int64) (x7 : Int64) (h0 : Hp) : Option (Unit × Hp) :=
  BX5_dropHalves_93 k2 x0 x1 x2 x3 x7 0 h0
set_option maxRecDepth 100000 in
set_option maxHeartbeats 4000000 in
theorem BX5_dropHalves_92_ok {G : xG} {l : Launch} {k2 : Option Nat → Int32 → Int32 → Hp → Option (Unit × Hp)} (hk2 : ∀ {x0 : Option Nat} {x1 : Int32} {x2 : Int32} {h0 h1 : Hp} {r : Unit}, k2 x0 x1 x2 h0 = some (r, h1) → xv G l mX5_dropHalves 1 0 0 2 [(0, false, va_rf x0), (1, false, .int x1), (2, false, .int x2)] [] h0 (xP mkV r h1)) {x0 : Option Nat} {x1 : Int32} {x2 : Int32} {x3 : Int64} {x7 : Int64} {h0 h1 : Hp} {r : Unit} (hF : BX5_dropHalves_92 k2 x0 x1 x2 x3 x7 h0 = some (r, h1)) : xv G l mX5_dropHalves 1 0 0 92 [(0, false, va_rf x0), (1, false, .int x1), (2, false, .int x2), (3, true, .long x3), (7, true, .long x7)] [] h0 (xP mkV r h1) := by
  unfold BX5_dropHalves_92 at hF
  refine xe_iconst (v := 0) dX5_dropHalves_92 (by decide) ?_
  exact xv.lv (BX5_dropHalves_93_ok hk2 hF) (xsub_cons rfl (xsub_cons rfl (xsub_cons rfl (xsub_cons rfl (xsub_cons rfl xsub_nil)))))
def BX5_dropHalves_71 (k2 : Option Nat → Int32 → Int32 → Hp → Option (Unit × Hp)) (x0 : Option Nat) (x1 : Int32) (x2 : Int32) (x3 : Int64) (x5 : Int64) (x7 : Int64) (h0 : Hp) : Option (Unit × Hp) :=
  if (x3 : Int64) = 3 then
    if (x5 : Int64) = 7 then
      BX5_dropHalves_92 k2 x0 x1 x2 x3 x7 h0
    else
      BX5_dropHalves_88 k2 x0 x1 x2 x3 x7 h0
  else
    BX5_dropHalves_92 k2 x0 x1 x2 x3 x7 h0
set_option maxRecDepth 100000 in
set_option maxHeartbeats 4000000 in
theorem BX5_dropHalves_71_ok {G : xG} {l : Launch} {k2 : Option Nat → Int32 → Int32 → Hp → Option (Unit × Hp)} (hk2 : ∀ {x0 : Option Nat} {x1 : Int32} {x2 : Int32} {h0 h1 : Hp} {r : Unit}, k2 x0 x1 x2 h0 = some (r, h1) → xv G l mX5_dropHalves 1 0 0 2 [(0, false, va_rf x0), (1, false, .int x1), (2, false, .int x2)] [] h0 (xP mkV r h1)) {x0 : Option Nat} {x1 : Int32} {x2 : Int32} {x3 : Int64} {x5 : Int64} {x7 : Int64} {h0 h1 : Hp} {r : Unit} (hF : BX5_dropHalves_71 k2 x0 x1 x2 x3 x5 x7 h0 = some (r, h1)) : xv G l mX5_dropHalves 1 0 0 71 [(0, false, va_rf x0), (1, false, .int x1), (2, false, .int x2), (3, true, .long x3), (5, true, .long x5), (7, true, .long x7)] [] h0 (xP mkV r h1) := by
  unfold BX5_dropHalves_71 at hF
  refine xe_lload_n dX5_dropHalves_71 rfl rfl ?_
  refine xe_ldc2 (v := 3) dX5_dropHalves_72 tw_516 ?_
  refine xe_lcmp dX5_dropHalves_75 ?_
  refine xe_lif_ne (tgt := 92) dX5_dropHalves_76 (by decide) (fun c1 => ?_) (fun c1 => ?_)
  · replace hF := if_p c1 hF
    refine xe_lload dX5_dropHalves_79 rfl ?_
    refine xe_ldc2 (v := 7) dX5_dropHalves_81 tw_517 ?_
    refine xe_lcmp dX5_dropHalves_84 ?_
    refine xe_lif_eq (tgt := 92) dX5_dropHalves_85 (by decide) (fun c2 => ?_) (fun c2 => ?_)
    · replace hF := if_p c2 hF
      exact xv.lv (BX5_dropHalves_92_ok hk2 hF) (xsub_cons rfl (xsub_cons rfl (xsub_cons rfl (xsub_cons rfl (xsub_cons rfl xsub_nil)))))
    · replace hF := if_n c2 hF
      exact xv.lv (BX5_dropHalves_88_ok hk2 hF) (xsub_cons rfl (xsub_cons rfl (xsub_cons rfl (xsub_cons rfl (xsub_cons rfl xsub_nil)))))
  · replace hF := if_n c1 hF
    exact xv.lv (BX5_dropHalves_92_ok hk2 hF) (xsub_cons rfl (xsub_cons rfl (xsub_cons rfl (xsub_cons rfl (xsub_cons rfl xsub_nil)))))
def BX5_dropHalves_54 (k2 : Option Nat → Int32 → Int32 → Hp → Option (Unit × Hp)) (x0 : Option Nat) (x1 : Int32) (x2 : Int32) (x3 : Int64) (x5 : Int64) (s0 : Int64) (h0 : Hp) : Option (Unit × Hp) :=
  if (x3 : Int64) = 1 then
    if (x5 : Int64) = 6 then
      BX5_dropHalves_71 k2 x0 x1 x2 x3 x5 s0 h0
    else
      BX5_dropHalves_88 k2 x0 x1 x2 x3 s0 h0
  else
    BX5_dropHalves_71 k2 x0 x1 x2 x3 x5 s0 h0
set_option maxRecDepth 100000 in
set_option maxHeartbeats 4000000 in
theorem BX5_dropHalves_54_ok {G : xG} {l : Launch} {k2 : Option Nat → Int32 → Int32 → Hp → Option (Unit × Hp)} (hk2 : ∀ {x0 : Option Nat} {x1 : Int32} {x2 : Int32} {h0 h1 : Hp} {r : Unit}, k2 x0 x1 x2 h0 = some (r, h1) → xv G l mX5_dropHalves 1 0 0 2 [(0, false, va_rf x0), (1, false, .int x1), (2, false, .int x2)] [] h0 (xP mkV r h1)) {x0 : Option Nat} {x1 : Int32} {x2 : Int32} {x3 : Int64} {x5 : Int64} {s0 : Int64} {h0 h1 : Hp} {r : Unit} (hF : BX5_dropHalves_54 k2 x0 x1 x2 x3 x5 s0 h0 = some (r, h1)) : xv G l mX5_dropHalves 1 0 0 54 [(0, false, va_rf x0), (1, false, .int x1), (2, false, .int x2), (3, true, .long x3), (5, true, .long x5)] [.long s0] h0 (xP mkV r h1) := by
  unfold BX5_dropHalves_54 at hF
  refine xe_lstore dX5_dropHalves_54 (by decide) ?_
  refine xe_lload_n dX5_dropHalves_56 rfl rfl ?_
  refine xe_lconst (v := 1) dX5_dropHalves_57 (by decide) ?_
  refine xe_lcmp dX5_dropHalves_58 ?_
  refine xe_lif_ne (tgt := 71) dX5_dropHalves_59 (by decide) (fun c1 => ?_) (fun c1 => ?_)
  · replace hF := if_p c1 hF
    refine xe_lload dX5_dropHalves_62 rfl ?_
    refine xe_ldc2 (v := 6) dX5_dropHalves_64 tw_515 ?_
    refine xe_lcmp dX5_dropHalves_67 ?_
    refine xe_lif_ne (tgt := 88) dX5_dropHalves_68 (by decide) (fun c2 => ?_) (fun c2 => ?_)
    · replace hF := if_p c2 hF
      exact xv.lv (BX5_dropHalves_71_ok hk2 hF) (xsub_cons rfl (xsub_cons rfl (xsub_cons rfl (xsub_cons rfl (xsub_cons rfl (xsub_cons rfl xsub_nil))))))
    · replace hF := if_n c2 hF
      exact xv.lv (BX5_dropHalves_88_ok hk2 hF) (xsub_cons rfl (xsub_cons rfl (xsub_cons rfl (xsub_cons rfl (xsub_cons rfl xsub_nil)))))
  · replace hF := if_n c1 hF
    exact xv.lv (BX5_dropHalves_71_ok hk2 hF) (xsub_cons rfl (xsub_cons rfl (xsub_cons rfl (xsub_cons rfl (xsub_cons rfl (xsub_cons rfl xsub_nil))))))
def BX5_dropHalves_35 (k2 : Option Nat → Int32 → Int32 → Hp → Option (Unit × Hp)) (x0 : Option Nat) (x1 : Int32) (x2 : Int32) (x3 : Int64) (s0 : Int64) (h0 : Hp) : Option (Unit × Hp) :=
  if (0 : Int32) < x2 then
    aL h0 x0 ((x1 + x2) - 1) fun v2 =>
    BX5_dropHalves_54 k2 x0 x1 x2 x3 s0 v2 h0
  else
    BX5_dropHalves_54 k2 x0 x1 x2 x3 s0 5 h0
set_option maxRecDepth 100000 in
set_option maxHeartbeats 4000000 in
theorem BX5_dropHalves_35_ok {G : xG} {l : Launch} {k2 : Option Nat → Int32 → Int32 → Hp → Option (Unit × Hp)} (hk2 : ∀ {x0 : Option Nat} {x1 : Int32} {x2 : Int32} {h0 h1 : Hp} {r : Unit}, k2 x0 x1 x2 h0 = some (r, h1) → xv G l mX5_dropHalves 1 0 0 2 [(0, false, va_rf x0), (1, false, .int x1), (2, false, .int x2)] [] h0 (xP mkV r h1)) {x0 : Option Nat} {x1 : Int32} {x2 : Int32} {x3 : Int64} {s0 : Int64} {h0 h1 : Hp} {r : Unit} (hF : BX5_dropHalves_35 k2 x0 x1 x2 x3 s0 h0 = some (r, h1)) : xv G l mX5_dropHalves 1 0 0 35 [(0, false, va_rf x0), (1, false, .int x1), (2, false, .int x2), (3, true, .long x3)] [.long s0] h0 (xP mkV r h1) := by
  unfold BX5_dropHalves_35 at hF
  refine xe_lstore dX5_dropHalves_35 (by decide) ?_
  refine xe_iload_n dX5_dropHalves_37 rfl rfl ?_
  refine xe_if_le (tgt := 51) dX5_dropHalves_38 (by decide) (fun c1 => ?_) (fun c1 => ?_)
  · replace hF := if_p c1 hF
    refine xe_aload_n dX5_dropHalves_41 rfl rfl ?_
    refine xe_iload_n dX5_dropHalves_42 rfl rfl ?_
    refine xe_iload_n dX5_dropHalves_43 rfl rfl ?_
    refine xe_iadd dX5_dropHalves_44 ?_
    refine xe_iconst (v := 1) dX5_dropHalves_45 (by decide) ?_
    refine xe_isub dX5_dropHalves_46 ?_
    obtain ⟨a3, n4, e5, t6, b7, hF⟩ := aL_inv hF
    refine xq_lald dX5_dropHalves_47 e5 t6 b7 ?_
    refine xe_goto (tgt := 54) dX5_dropHalves_48 (by decide) ?_
    exact xv.lv (BX5_dropHalves_54_ok hk2 hF) (xsub_cons rfl (xsub_cons rfl (xsub_cons rfl (xsub_cons rfl (xsub_cons rfl xsub_nil)))))
  · replace hF := if_n c1 hF
    refine xe_ldc2 (v := 5) dX5_dropHalves_51 tw_514 ?_
    exact xv.lv (BX5_dropHalves_54_ok hk2 hF) (xsub_cons rfl (xsub_cons rfl (xsub_cons rfl (xsub_cons rfl (xsub_cons rfl xsub_nil)))))
def BX5_dropHalves_2 : Nat → Option Nat → Int32 → Int32 → Hp → Option (Unit × Hp)
  | 0, _, _, _, _ => none
  | n + 1, x0, x1, x2, h0 =>
    if (x2 : Int32) < 16 then
      aL h0 x0 (x1 + x2) fun v2 =>
      if ((x2 + 1) : Int32) < 16 then
        aL h0 x0 ((x1 + x2) + 1) fun v9 =>
        BX5_dropHalves_35 (BX5_dropHalves_2 n) x0 x1 x2 v2 v9 h0
      else
        BX5_dropHalves_35 (BX5_dropHalves_2 n) x0 x1 x2 v2 5 h0
    else
      some ((), h0)
set_option maxRecDepth 100000 in
set_option maxHeartbeats 4000000 in
theorem BX5_dropHalves_2_ok {G : xG} {l : Launch} : ∀ (n : Nat) {x0 : Option Nat} {x1 : Int32} {x2 : Int32} {h0 h1 : Hp} {r : Unit} (hF : BX5_dropHalves_2 n x0 x1 x2 h0 = some (r, h1)), xv G l mX5_dropHalves 1 0 0 2 [(0, false, va_rf x0), (1, false, .int x1), (2, false, .int x2)] [] h0 (xP mkV r h1) := by
  intro n
  induction n with
  | zero => intro x0 x1 x2 h0 h1 r hF; cases hF
  | succ n ih =>
    intro x0 x1 x2 h0 h1 r hF
    unfold BX5_dropHalves_2 at hF
    refine xe_iload_n dX5_dropHalves_2 rfl rfl ?_
    refine xe_bipush (v := 16) dX5_dropHalves_3 (by decide) ?_
    refine xe_icmp_ge (tgt := 158) dX5_dropHalves_5 (by decide) (fun c1 => ?_) (fun c1 => ?_)
    · replace hF := if_p c1 hF
      refine xe_aload_n dX5_dropHalves_8 rfl rfl ?_
      refine xe_iload_n dX5_dropHalves_9 rfl rfl ?_
      refine xe_iload_n dX5_dropHalves_10 rfl rfl ?_
      refine xe_iadd dX5_dropHalves_11 ?_
      obtain ⟨a3, n4, e5, t6, b7, hF⟩ := aL_inv hF
      refine xq_lald dX5_dropHalves_12 e5 t6 b7 ?_
      refine xe_lstore_n dX5_dropHalves_13 rfl (by decide) ?_
      refine xe_iload_n dX5_dropHalves_14 rfl rfl ?_
      refine xe_iconst (v := 1) dX5_dropHalves_15 (by decide) ?_
      refine xe_iadd dX5_dropHalves_16 ?_
      refine xe_bipush (v := 16) dX5_dropHalves_17 (by decide) ?_
      refine xe_icmp_ge (tgt := 32) dX5_dropHalves_19 (by decide) (fun c8 => ?_) (fun c8 => ?_)
      · replace hF := if_p c8 hF
        refine xe_aload_n dX5_dropHalves_22 rfl rfl ?_
        refine xe_iload_n dX5_dropHalves_23 rfl rfl ?_
        refine xe_iload_n dX5_dropHalves_24 rfl rfl ?_
        refine xe_iadd dX5_dropHalves_25 ?_
        refine xe_iconst (v := 1) dX5_dropHalves_26 (by decide) ?_
        refine xe_iadd dX5_dropHalves_27 ?_
        obtain ⟨a10, n11, e12, t13, b14, hF⟩ := aL_inv hF
        refine xq_lald dX5_dropHalves_28 e12 t13 b14 ?_
        refine xe_goto (tgt := 35) dX5_dropHalves_29 (by decide) ?_
        exact xv.lv (BX5_dropHalves_35_ok ih hF) (xsub_cons rfl (xsub_cons rfl (xsub_cons rfl (xsub_cons rfl xsub_nil))))
      · replace hF := if_n c8 hF
        refine xe_ldc2 (v := 5) dX5_dropHalves_32 tw_514 ?_
        exact xv.lv (BX5_dropHalves_35_ok ih hF) (xsub_cons rfl (xsub_cons rfl (xsub_cons rfl (xsub_cons rfl xsub_nil))))
    · replace hF := if_n c1 hF
      exact xe_return dX5_dropHalves_158 (xP_ret (mk := mkV) hF)
def FX5_dropHalves (p0 : Option Nat) (p1 : Int32) (h0 : Hp) : Option (Unit × Hp) :=
  BX5_dropHalves_2 100000 p0 p1 0 h0
set_option maxRecDepth 100000 in
set_option maxHeartbeats 4000000 in
theorem FX5_dropHalves_ok {G : xG} {l : Launch} {p0 : Option Nat} {p1 : Int32} {h0 h1 : Hp} {r : Unit} (hF : FX5_dropHalves p0 p1 h0 = some (r, h1)) : xc G l mX5_dropHalves 1 0 0 [va_rf p0, .int p1] h0 (xP mkV r h1) := by
  refine xo_V [.inr (.inr _), .inl _] (by decide) (Nat.le_of_ble_eq_true rfl) rfl ?_
  show xv _ _ _ _ _ _ _ [(0, false, va_rf p0), (1, false, .int p1)] _ _ _
  unfold FX5_dropHalves at hF
  refine xe_iconst (v := 0) dX5_dropHalves_0 (by decide) ?_
  refine xe_istore_n dX5_dropHalves_1 rfl (by decide) ?_
  exact xv.lv (BX5_dropHalves_2_ok _ hF) (xsub_cons rfl (xsub_cons rfl (xsub_cons rfl xsub_nil)))
/-! SeldomOps$Shape.store(II)V -/
def BX5_store_24 (x0 : Option Nat) (h0 : Hp) : Option (Unit × Hp) :=
  gR h0 x0 4 1 fun v1 =>
  cl (FX5_dropHalves v1 0 h0) fun v5 h6 =>
  some ((), h6)
set_option maxRecDepth 100000 in
set_option maxHeartbeats 4000000 in
theorem BX5_store_24_ok {G : xG} {l : Launch} {x0 : Option Nat} {h0 h1 : Hp} {r : Unit} (hF : BX5_store_24 x0 h0 = some (r, h1)) : xv G l mX5_store 3 0 0 24 [(0, false, va_rf x0)] [] h0 (xP mkV r h1) := by
  unfold BX5_store_24 at hF
  refine xe_aload_n dX5_store_24 rfl rfl ?_
  obtain ⟨a2, e3, t4, hF⟩ := gR_inv hF
  refine xq_getR dX5_store_25 fl_Shape_18 xk_4 e3 t4 rfl ?_
  refine xe_iconst (v := 0) dX5_store_28 (by decide) ?_
  obtain ⟨v5, h6, o7, hF⟩ := cl_inv hF
  refine xz (xq_callS (As := [va_rf _, .int _]) (rest := []) dX5_store_29 mk_X5_dropHalves ⟨tw_511, tw_512⟩ (FX5_dropHalves_ok o7) xP_q (by decide) (by decide) rfl rfl ?_)
  exact xe_return dX5_store_32 (xP_ret (mk := mkV) hF)
def FX5_store (p0 : Option Nat) (p1 : Int32) (p2 : Int32) (h0 : Hp) : Option (Unit × Hp) :=
  rcv h0 p0 4 <|
  cl (FX5_writeLocal p0 p1 p2 h0) fun v1 h2 =>
  cl (FX11_isWide p2 h2) fun v7 h8 =>
  if (v7 : Int32) = 0 then
    BX5_store_24 p0 h8
  else
    cl (FX11_endOf p2 h8) fun v11 h12 =>
    rcv h12 p0 4 <|
    cl (FX5_writeLocal p0 (p1 + 1) v11 h12) fun v14 h15 =>
    BX5_store_24 p0 h15
set_option maxRecDepth 100000 in
set_option maxHeartbeats 4000000 in
theorem FX5_store_ok {G : xG} {l : Launch} {p0 : Option Nat} {p1 : Int32} {p2 : Int32} {h0 h1 : Hp} {r : Unit} (hF : FX5_store p0 p1 p2 h0 = some (r, h1)) : xc G l mX5_store 3 0 0 [va_rf p0, .int p1, .int p2] h0 (xP mkV r h1) := by
  refine xo_V [.inr (.inr _), .inl _, .inl _] (by decide) (Nat.le_of_ble_eq_true rfl) rfl ?_
  show xv _ _ _ _ _ _ _ [(0, false, va_rf p0), (1, false, .int p1), (2, false, .int p2)] _ _ _
  unfold FX5_store at hF
  refine xe_aload_n dX5_store_0 rfl rfl ?_
  refine xe_iload_n dX5_store_1 rfl rfl ?_
  refine xe_iload_n dX5_store_2 rfl rfl ?_
  obtain ⟨a6, e4, t5, hF⟩ := rcv_inv hF
  obtain ⟨v1, h2, o3, hF⟩ := cl_inv hF
  refine xz (xq_callV (As := [.int _, .int _]) (rest := []) dX5_store_3 mk_X5_writeLocal ⟨tw_502, tw_504, ts_1⟩ (ci := 4) rfl e4 t5 (FX5_writeLocal_ok o3) xP_q (by decide) (by decide) rfl rfl ?_)
  refine xe_iload_n dX5_store_6 rfl rfl ?_
  obtain ⟨v7, h8, o9, hF⟩ := cl_inv hF
  refine xz (xq_callSN (As := [.int _]) (rest := []) dX5_store_7 mk_X11_isWide ⟨tn_507, tw_390⟩ (FX11_isWide_ok o9) xPZ_q (by decide) (by decide) rfl rfl ?_)
  refine xe_if_eq (tgt := 24) dX5_store_10 (by decide) (fun c10 => ?_) (fun c10 => ?_)
  · replace hF := if_p c10 hF
    exact xv.lv (BX5_store_24_ok hF) (xsub_cons rfl xsub_nil)
  · replace hF := if_n c10 hF
    refine xe_aload_n dX5_store_13 rfl rfl ?_
    refine xe_iload_n dX5_store_14 rfl rfl ?_
    refine xe_iconst (v := 1) dX5_store_15 (by decide) ?_
    refine xe_iadd dX5_store_16 ?_
    refine xe_iload_n dX5_store_17 rfl rfl ?_
    obtain ⟨v11, h12, o13, hF⟩ := cl_inv hF
    refine xz (xq_callSN (As := [.int _]) (rest := [.int _, va_rf _]) dX5_store_18 mk_X11_endOf ⟨tn_508, tw_509⟩ (FX11_endOf_ok o13) xP_q (by decide) (Nat.le_trans (cs_i (cs_r cs_0)) (by decide)) rfl rfl ?_)
    obtain ⟨a19, e17, t18, hF⟩ := rcv_inv hF
    obtain ⟨v14, h15, o16, hF⟩ := cl_inv hF
    refine xz (xq_callV (As := [.int _, .int _]) (rest := []) dX5_store_21 mk_X5_writeLocal ⟨tw_502, tw_504, ts_1⟩ (ci := 4) rfl e17 t18 (FX5_writeLocal_ok o16) xP_q (by decide) (by decide) rfl rfl ?_)
    exact xv.lv (BX5_store_24_ok hF) (xsub_cons rfl xsub_nil)
/-! SeldomOps.width(I)I -/
def FX11_width (p0 : Int32) (h0 : Hp) : Option (Int32 × Hp) :=
  cl (FX11_isWide p0 h0) fun v1 h2 =>
  if (v1 : Int32) = 0 then
    some (1, h2)
  else
    some (2, h2)
set_option maxRecDepth 100000 in
set_option maxHeartbeats 4000000 in
theorem FX11_width_ok {G : xG} {l : Launch} {p0 : Int32} {h0 h1 : Hp} {r : Int32} (hF : FX11_width p0 h0 = some (r, h1)) : xc G l mX11_width 2 0 0 [.int p0] h0 (xP mkI r h1) := by
  refine xo_I [.inl _] (by decide) (Nat.le_of_ble_eq_true rfl) rfl ?_
  show xv _ _ _ _ _ _ _ [(0, false, .int p0)] _ _ _
  unfold FX11_width at hF
  refine xe_iload_n dX11_width_0 rfl rfl ?_
  obtain ⟨v1, h2, o3, hF⟩ := cl_inv hF
  refine xz (xq_callS (As := [.int _]) (rest := []) dX11_width_1 mk_X11_isWide ⟨tw_389, tw_390⟩ (FX11_isWide_ok o3) xPZ_q (by decide) (by decide) rfl rfl ?_)
  refine xe_if_eq (tgt := 11) dX11_width_4 (by decide) (fun c4 => ?_) (fun c4 => ?_)
  · replace hF := if_p c4 hF
    refine xe_iconst (v := 1) dX11_width_11 (by decide) ?_
    exact xe_ireturn dX11_width_12 (xP_ret (mk := mkI) hF)
  · replace hF := if_n c4 hF
    refine xe_iconst (v := 2) dX11_width_7 (by decide) ?_
    refine xe_goto (tgt := 12) dX11_width_8 (by decide) ?_
    exact xe_ireturn dX11_width_12 (xP_ret (mk := mkI) hF)
/-! SeldomOps$Shapes.forget()V -/
def BX6_forget_2 : Nat → Option Nat → Int32 → Hp → Option (Unit × Hp)
  | 0, _, _, _ => none
  | n + 1, x0, x1, h0 =>
    if (x1 : Int32) < 60 then
      gR h0 x0 5 0 fun v2 =>
      sI h0 v2 x1 (-1) fun h6 =>
      gR h6 x0 5 3 fun v13 =>
      sZ h6 v13 x1 0 fun h17 =>
      BX6_forget_2 n x0 (x1 + 1) h17
    else
      some ((), h0)
set_option maxRecDepth 100000 in
set_option maxHeartbeats 4000000 in
theorem BX6_forget_2_ok {G : xG} {l : Launch} : ∀ (n : Nat) {x0 : Option Nat} {x1 : Int32} {h0 h1 : Hp} {r : Unit} (hF : BX6_forget_2 n x0 x1 h0 = some (r, h1)), xv G l mX6_forget 1 0 0 2 [(0, false, va_rf x0), (1, false, .int x1)] [] h0 (xP mkV r h1) := by
  intro n
  induction n with
  | zero => intro x0 x1 h0 h1 r hF; cases hF
  | succ n ih =>
    intro x0 x1 h0 h1 r hF
    unfold BX6_forget_2 at hF
    refine xe_iload_n dX6_forget_2 rfl rfl ?_
    refine xe_bipush (v := 60) dX6_forget_3 (by decide) ?_
    refine xe_icmp_ge (tgt := 28) dX6_forget_5 (by decide) (fun c1 => ?_) (fun c1 => ?_)
    · replace hF := if_p c1 hF
      refine xe_aload_n dX6_forget_8 rfl rfl ?_
      obtain ⟨a3, e4, t5, hF⟩ := gR_inv hF
      refine xq_getR dX6_forget_9 fl_Shapes_9 xk_5 e4 t5 rfl ?_
      refine xe_iload_n dX6_forget_12 rfl rfl ?_
      refine xe_iconst (v := (-1)) dX6_forget_13 (by decide) ?_
      obtain ⟨a7, n8, e9, t10, b11, hF⟩ := sI_inv hF
      refine xq_iast dX6_forget_14 e9 t10 b11 ?_
      refine xe_aload_n dX6_forget_15 rfl rfl ?_
      obtain ⟨a14, e15, t16, hF⟩ := gR_inv hF
      refine xq_getR dX6_forget_16 fl_Shapes_22 xk_5 e15 t16 rfl ?_
      refine xe_iload_n dX6_forget_19 rfl rfl ?_
      refine xe_iconst (v := 0) dX6_forget_20 (by decide) ?_
      obtain ⟨a18, n19, e20, t21, b22, z23, hF⟩ := sZ_inv hF
      refine xq_zast dX6_forget_21 e20 t21 b22 z23 ?_
      refine xe_iinc (v := _ + 1) dX6_forget_22 rfl rfl (by decide) ?_
      refine xe_goto (tgt := 2) dX6_forget_25 (by decide) ?_
      exact xv.lv (ih hF) (xsub_cons rfl (xsub_cons rfl xsub_nil))
    · replace hF := if_n c1 hF
      exact xe_return dX6_forget_28 (xP_ret (mk := mkV) hF)
def FX6_forget (p0 : Option Nat) (h0 : Hp) : Option (Unit × Hp) :=
  BX6_forget_2 100000 p0 0 h0
set_option maxRecDepth 100000 in
set_option maxHeartbeats 4000000 in
theorem FX6_forget_ok {G : xG} {l : Launch} {p0 : Option Nat} {h0 h1 : Hp} {r : Unit} (hF : FX6_forget p0 h0 = some (r, h1)) : xc G l mX6_forget 1 0 0 [va_rf p0] h0 (xP mkV r h1) := by
  refine xo_V [.inr (.inr _)] (by decide) (Nat.le_of_ble_eq_true rfl) rfl ?_
  show xv _ _ _ _ _ _ _ [(0, false, va_rf p0)] _ _ _
  unfold FX6_forget at hF
  refine xe_iconst (v := 0) dX6_forget_0 (by decide) ?_
  refine xe_istore_n dX6_forget_1 rfl (by decide) ?_
  exact xv.lv (BX6_forget_2_ok _ hF) (xsub_cons rfl (xsub_cons rfl xsub_nil))
/-! SeldomOps$Shapes.keep(ILSeldomOps$Shape;)V -/
def FX6_keep (p0 : Option Nat) (p1 : Int32) (p2 : Option Nat) (h0 : Hp) : Option (Unit × Hp) :=
  gR h0 p0 5 0 fun v1 =>
  gR h0 p2 4 0 fun v5 =>
  gI h0 v5 9 1 fun v9 =>
  sI h0 v1 p1 v9 fun h13 =>
  gR h13 p2 4 0 fun v20 =>
  gR h13 v20 9 0 fun v24 =>
  gR h13 p0 5 1 fun v28 =>
  cp h13 v24 0 v28 (p1 * 12) 12 fun h32 =>
  gR h32 p2 4 1 fun v46 =>
  gR h32 p0 5 2 fun v50 =>
  cp h32 v46 0 v50 (p1 * 16) 16 fun h54 =>
  some ((), h54)
set_option maxRecDepth 100000 in
set_option maxHeartbeats 4000000 in
theorem FX6_keep_ok {G : xG} {l : Launch} {p0 : Option Nat} {p1 : Int32} {p2 : Option Nat} {h0 h1 : Hp} {r : Unit} (hF : FX6_keep p0 p1 p2 h0 = some (r, h1)) : xc G l mX6_keep 1 0 0 [va_rf p0, .int p1, va_rf p2] h0 (xP mkV r h1) := by
  refine xo_V [.inr (.inr _), .inl _, .inr (.inr _)] (by decide) (Nat.le_of_ble_eq_true rfl) rfl ?_
  show xv _ _ _ _ _ _ _ [(0, false, va_rf p0), (1, false, .int p1), (2, false, va_rf p2)] _ _ _
  unfold FX6_keep at hF
  refine xe_aload_n dX6_keep_0 rfl rfl ?_
  obtain ⟨a2, e3, t4, hF⟩ := gR_inv hF
  refine xq_getR dX6_keep_1 fl_Shapes_9 xk_5 e3 t4 rfl ?_
  refine xe_iload_n dX6_keep_4 rfl rfl ?_
  refine xe_aload_n dX6_keep_5 rfl rfl ?_
  obtain ⟨a6, e7, t8, hF⟩ := gR_inv hF
  refine xq_getR dX6_keep_6 fl_Shapes_26 xk_4 e7 t8 rfl ?_
  obtain ⟨a10, e11, t12, hF⟩ := gI_inv hF
  refine xq_getI dX6_keep_9 fl_Shapes_32 xk_9 e11 t12 rfl ?_
  obtain ⟨a14, n15, e16, t17, b18, hF⟩ := sI_inv hF
  refine xq_iast dX6_keep_12 e16 t17 b18 ?_
  refine xe_aload_n dX6_keep_13 rfl rfl ?_
  obtain ⟨a21, e22, t23, hF⟩ := gR_inv hF
  refine xq_getR dX6_keep_14 fl_Shapes_26 xk_4 e22 t23 rfl ?_
  obtain ⟨a25, e26, t27, hF⟩ := gR_inv hF
  refine xq_getR dX6_keep_17 fl_Shapes_38 xk_9 e26 t27 rfl ?_
  refine xe_iconst (v := 0) dX6_keep_20 (by decide) ?_
  refine xe_aload_n dX6_keep_21 rfl rfl ?_
  obtain ⟨a29, e30, t31, hF⟩ := gR_inv hF
  refine xq_getR dX6_keep_22 fl_Shapes_15 xk_5 e30 t31 rfl ?_
  refine xe_iload_n dX6_keep_25 rfl rfl ?_
  refine xe_bipush (v := 12) dX6_keep_26 (by decide) ?_
  refine xe_imul dX6_keep_28 ?_
  refine xe_bipush (v := 12) dX6_keep_29 (by decide) ?_
  obtain ⟨a33, n34, a35, n36, e37, t38, e39, t40, s41, s42, s43, s44, s45, hF⟩ := cp_inv hF
  refine xq_copyL dX6_keep_31 ⟨tw_531, tw_533, tw_532, tw_13⟩ (by decide) (by decide) e37 t38 e39 t40 s41 s42 s43 s44 s45 ?_
  refine xe_aload_n dX6_keep_34 rfl rfl ?_
  obtain ⟨a47, e48, t49, hF⟩ := gR_inv hF
  refine xq_getR dX6_keep_35 fl_Shapes_47 xk_4 e48 t49 rfl ?_
  refine xe_iconst (v := 0) dX6_keep_38 (by decide) ?_
  refine xe_aload_n dX6_keep_39 rfl rfl ?_
  obtain ⟨a51, e52, t53, hF⟩ := gR_inv hF
  refine xq_getR dX6_keep_40 fl_Shapes_19 xk_5 e52 t53 rfl ?_
  refine xe_iload_n dX6_keep_43 rfl rfl ?_
  refine xe_bipush (v := 16) dX6_keep_44 (by decide) ?_
  refine xe_imul dX6_keep_46 ?_
  refine xe_bipush (v := 16) dX6_keep_47 (by decide) ?_
  obtain ⟨a55, n56, a57, n58, e59, t60, e61, t62, s63, s64, s65, s66, s67, hF⟩ := cp_inv hF
  refine xq_copyL dX6_keep_49 ⟨tw_531, tw_533, tw_532, tw_13⟩ (by decide) (by decide) e59 t60 e61 t62 s63 s64 s65 s66 s67 ?_
  exact xe_return dX6_keep_52 (xP_ret (mk := mkV) hF)
/-! SeldomOps$Shapes.isStack(ILSeldomOps$Words;)Z -/
def BX6_isStack_17 : Nat → Option Nat → Int32 → Option Nat → Int32 → Hp → Option (Int32 × Hp)
  | 0, _, _, _, _, _ => none
  | n + 1, x0, x1, x2, x3, h0 =>
    gI h0 x2 9 1 fun v1 =>
    if (x3 : Int32) < v1 then
      gR h0 x0 5 1 fun v6 =>
      aL h0 v6 ((x1 * 12) + x3) fun v10 =>
      rcv h0 x2 9 <|
      cl (FX10_at x2 x3 h0) fun v16 h17 =>
      if (v10 : Int64) = v16 then
        BX6_isStack_17 n x0 x1 x2 (x3 + 1) h17
      else
        bz 0 (some (0, h17))
    else
      bz 1 (some (1, h0))
set_option maxRecDepth 100000 in
set_option maxHeartbeats 4000000 in
theorem BX6_isStack_17_ok {G : xG} {l : Launch} : ∀ (n : Nat) {x0 : Option Nat} {x1 : Int32} {x2 : Option Nat} {x3 : Int32} {h0 h1 : Hp} {r : Int32} (hF : BX6_isStack_17 n x0 x1 x2 x3 h0 = some (r, h1)), xv G l mX6_isStack 2 0 0 17 [(0, false, va_rf x0), (1, false, .int x1), (2, false, va_rf x2), (3, false, .int x3)] [] h0 (xPZ r h1) := by
  intro n
  induction n with
  | zero => intro x0 x1 x2 x3 h0 h1 r hF; cases hF
  | succ n ih =>
    intro x0 x1 x2 x3 h0 h1 r hF
    unfold BX6_isStack_17 at hF
    refine xe_iload_n dX6_isStack_17 rfl rfl ?_
    refine xe_aload_n dX6_isStack_18 rfl rfl ?_
    obtain ⟨a2, e3, t4, hF⟩ := gI_inv hF
    refine xq_getI dX6_isStack_19 fl_Shapes_32 xk_9 e3 t4 rfl ?_
    refine xe_icmp_ge (tgt := 53) dX6_isStack_22 (by decide) (fun c5 => ?_) (fun c5 => ?_)
    · replace hF := if_p c5 hF
      refine xe_aload_n dX6_isStack_25 rfl rfl ?_
      obtain ⟨a7, e8, t9, hF⟩ := gR_inv hF
      refine xq_getR dX6_isStack_26 fl_Shapes_15 xk_5 e8 t9 rfl ?_
      refine xe_iload_n dX6_isStack_29 rfl rfl ?_
      refine xe_bipush (v := 12) dX6_isStack_30 (by decide) ?_
      refine xe_imul dX6_isStack_32 ?_
      refine xe_iload_n dX6_isStack_33 rfl rfl ?_
      refine xe_iadd dX6_isStack_34 ?_
      obtain ⟨a11, n12, e13, t14, b15, hF⟩ := aL_inv hF
      refine xq_lald dX6_isStack_35 e13 t14 b15 ?_
      refine xe_aload_n dX6_isStack_36 rfl rfl ?_
      refine xe_iload_n dX6_isStack_37 rfl rfl ?_
      obtain ⟨a21, e19, t20, hF⟩ := rcv_inv hF
      obtain ⟨v16, h17, o18, hF⟩ := cl_inv hF
      refine xz (xq_callV (As := [.int _]) (rest := [.long _]) dX6_isStack_38 mk_X10_at ⟨tw_538, tw_539, tw_540⟩ (ci := 9) rfl e19 t20 (FX10_at_ok o18) xP_q (by decide) (Nat.le_trans (cs_l cs_0) (by decide)) rfl rfl ?_)
      refine xe_lcmp dX6_isStack_41 ?_
      refine xe_lif_eq (tgt := 47) dX6_isStack_42 (by decide) (fun c22 => ?_) (fun c22 => ?_)
      · replace hF := if_p c22 hF
        refine xe_iinc (v := _ + 1) dX6_isStack_47 rfl rfl (by decide) ?_
        refine xe_goto (tgt := 17) dX6_isStack_50 (by decide) ?_
        exact xv.lv (ih hF) (xsub_cons rfl (xsub_cons rfl (xsub_cons rfl (xsub_cons rfl xsub_nil))))
      · replace hF := if_n c22 hF
        refine xe_iconst (v := 0) dX6_isStack_45 (by decide) ?_
        obtain ⟨z23, hF⟩ := bz_inv hF
        exact xe_ireturn dX6_isStack_46 (xPZ_ret z23 hF)
    · replace hF := if_n c5 hF
      refine xe_iconst (v := 1) dX6_isStack_53 (by decide) ?_
      obtain ⟨z24, hF⟩ := bz_inv hF
      exact xe_ireturn dX6_isStack_54 (xPZ_ret z24 hF)
def FX6_isStack (p0 : Option Nat) (p1 : Int32) (p2 : Option Nat) (h0 : Hp) : Option (Int32 × Hp) :=
  gR h0 p0 5 0 fun v1 =>
  aI h0 v1 .int p1 fun v5 =>
  gI h0 p2 9 1 fun v11 =>
  if (v5 : Int32) = v11 then
    BX6_isStack_17 100000 p0 p1 p2 0 h0
  else
    bz 0 (some (0, h0))
set_option maxRecDepth 100000 in
set_option maxHeartbeats 4000000 in
theorem FX6_isStack_ok {G : xG} {l : Launch} {p0 : Option Nat} {p1 : Int32} {p2 : Option Nat} {h0 h1 : Hp} {r : Int32} (hF : FX6_isStack p0 p1 p2 h0 = some (r, h1)) : xc G l mX6_isStack 2 0 0 [va_rf p0, .int p1, va_rf p2] h0 (xPZ r h1) := by
  refine xo_Z [.inr (.inr _), .inl _, .inr (.inr _)] (by decide) (Nat.le_of_ble_eq_true rfl) rfl ?_
  show xv _ _ _ _ _ _ _ [(0, false, va_rf p0), (1, false, .int p1), (2, false, va_rf p2)] _ _ _
  unfold FX6_isStack at hF
  refine xe_aload_n dX6_isStack_0 rfl rfl ?_
  obtain ⟨a2, e3, t4, hF⟩ := gR_inv hF
  refine xq_getR dX6_isStack_1 fl_Shapes_9 xk_5 e3 t4 rfl ?_
  refine xe_iload_n dX6_isStack_4 rfl rfl ?_
  obtain ⟨a6, n7, e8, t9, b10, hF⟩ := aI_inv hF
  refine xq_iald dX6_isStack_5 e8 t9 b10 ?_
  refine xe_aload_n dX6_isStack_6 rfl rfl ?_
  obtain ⟨a12, e13, t14, hF⟩ := gI_inv hF
  refine xq_getI dX6_isStack_7 fl_Shapes_32 xk_9 e13 t14 rfl ?_
  refine xe_icmp_eq (tgt := 15) dX6_isStack_10 (by decide) (fun c15 => ?_) (fun c15 => ?_)
  · replace hF := if_p c15 hF
    refine xe_iconst (v := 0) dX6_isStack_15 (by decide) ?_
    refine xe_istore_n dX6_isStack_16 rfl (by decide) ?_
    exact xv.lv (BX6_isStack_17_ok _ hF) (xsub_cons rfl (xsub_cons rfl (xsub_cons rfl (xsub_cons rfl xsub_nil))))
  · replace hF := if_n c15 hF
    refine xe_iconst (v := 0) dX6_isStack_13 (by decide) ?_
    obtain ⟨z16, hF⟩ := bz_inv hF
    exact xe_ireturn dX6_isStack_14 (xPZ_ret z16 hF)
/-! SeldomOps$Shapes.joinLocals(I[J)Z -/
def BX6_joinLocals_59 (k5 : Option Nat → Int32 → Option Nat → Int32 → Int32 → Hp → Option (Int32 × Hp)) (x0 : Option Nat) (x1 : Int32) (x2 : Option Nat) (x3 : Int32) (x4 : Int32) (h0 : Hp) : Option (Int32 × Hp) :=
  k5 x0 x1 x2 x3 (x4 + 1) h0
set_option maxRecDepth 100000 in
set_option maxHeartbeats 4000000 in
theorem BX6_joinLocals_59_ok {G : xG} {l : Launch} {k5 : Option Nat → Int32 → Option Nat → Int32 → Int32 → Hp → Option (Int32 × Hp)} (hk5 : ∀ {x0 : Option Nat} {x1 : Int32} {x2 : Option Nat} {x3 : Int32} {x4 : Int32} {h0 h1 : Hp} {r : Int32}, k5 x0 x1 x2 x3 x4 h0 = some (r, h1) → xv G l mX6_joinLocals 2 0 0 5 [(0, false, va_rf x0), (1, false, .int x1), (2, false, va_rf x2), (3, false, .int x3), (4, false, .int x4)] [] h0 (xPZ r h1)) {x0 : Option Nat} {x1 : Int32} {x2 : Option Nat} {x3 : Int32} {x4 : Int32} {h0 h1 : Hp} {r : Int32} (hF : BX6_joinLocals_59 k5 x0 x1 x2 x3 x4 h0 = some (r, h1)) : xv G l mX6_joinLocals 2 0 0 59 [(0, false, va_rf x0), (1, false, .int x1), (2, false, va_rf x2), (3, false, .int x3), (4, false, .int x4)] [] h0 (xPZ r h1) := by
  unfold BX6_joinLocals_59 at hF
  refine xe_iinc (v := _ + 1) dX6_joinLocals_59 rfl rfl (by decide) ?_
  refine xe_goto (tgt := 5) dX6_joinLocals_62 (by decide) ?_
  exact xv.lv (hk5 hF) (xsub_cons rfl (xsub_cons rfl (xsub_cons rfl (xsub_cons rfl (xsub_cons rfl xsub_nil)))))
def BX6_joinLocals_5 : Nat → Option Nat → Int32 → Option Nat → Int32 → Int32 → Hp → Option (Int32 × Hp)
  | 0, _, _, _, _, _, _ => none
  | n + 1, x0, x1, x2, x3, x4, h0 =>
    if (x4 : Int32) < 16 then
      gR h0 x0 5 2 fun v2 =>
      aL h0 v2 (x1 + x4) fun v6 =>
      aL h0 x2 x4 fun v12 =>
      if (v6 : Int64) = v12 then
        BX6_joinLocals_59 (BX6_joinLocals_5 n) x0 x1 x2 x3 x4 h0
      else
        gR h0 x0 5 2 fun v19 =>
        aL h0 v19 (x1 + x4) fun v23 =>
        if (v23 : Int64) = 5 then
          BX6_joinLocals_59 (BX6_joinLocals_5 n) x0 x1 x2 x3 x4 h0
        else
          gR h0 x0 5 2 fun v30 =>
          sL h0 v30 (x1 + x4) 5 fun h34 =>
          BX6_joinLocals_59 (BX6_joinLocals_5 n) x0 x1 x2 1 x4 h34
    else
      if (x3 : Int32) = 0 then
        bz x3 (some (x3, h0))
      else
        gR h0 x0 5 2 fun v43 =>
        cl (FX5_dropHalves v43 x1 h0) fun v47 h48 =>
        bz x3 (some (x3, h48))
set_option maxRecDepth 100000 in
set_option maxHeartbeats 4000000 in
theorem BX6_joinLocals_5_ok {G : xG} {l : Launch} : ∀ (n : Nat) {x0 : Option Nat} {x1 : Int32} {x2 : Option Nat} {x3 : Int32} {x4 : Int32} {h0 h1 : Hp} {r : Int32} (hF : BX6_joinLocals_5 n x0 x1 x2 x3 x4 h0 = some (r, h1)), xv G l mX6_joinLocals 2 0 0 5 [(0, false, va_rf x0), (1, false, .int x1), (2, false, va_rf x2), (3, false, .int x3), (4, false, .int x4)] [] h0 (xPZ r h1) := by
  intro n
  induction n with
  | zero => intro x0 x1 x2 x3 x4 h0 h1 r hF; cases hF
  | succ n ih =>
    intro x0 x1 x2 x3 x4 h0 h1 r hF
    unfold BX6_joinLocals_5 at hF
    refine xe_iload dX6_joinLocals_5 rfl ?_
    refine xe_bipush (v := 16) dX6_joinLocals_7 (by decide) ?_
    refine xe_icmp_ge (tgt := 65) dX6_joinLocals_9 (by decide) (fun c1 => ?_) (fun c1 => ?_)
    · replace hF := if_p c1 hF
      refine xe_aload_n dX6_joinLocals_12 rfl rfl ?_
      obtain ⟨a3, e4, t5, hF⟩ := gR_inv hF
      refine xq_getR dX6_joinLocals_13 fl_Shapes_19 xk_5 e4 t5 rfl ?_
      refine xe_iload_n dX6_joinLocals_16 rfl rfl ?_
      refine xe_iload dX6_joinLocals_17 rfl ?_
      refine xe_iadd dX6_joinLocals_19 ?_
      obtain ⟨a7, n8, e9, t10, b11, hF⟩ := aL_inv hF
      refine xq_lald dX6_joinLocals_20 e9 t10 b11 ?_
      refine xe_aload_n dX6_joinLocals_21 rfl rfl ?_
      refine xe_iload dX6_joinLocals_22 rfl ?_
      obtain ⟨a13, n14, e15, t16, b17, hF⟩ := aL_inv hF
      refine xq_lald dX6_joinLocals_24 e15 t16 b17 ?_
      refine xe_lcmp dX6_joinLocals_25 ?_
      refine xe_lif_eq (tgt := 59) dX6_joinLocals_26 (by decide) (fun c18 => ?_) (fun c18 => ?_)
      · replace hF := if_p c18 hF
        exact xv.lv (BX6_joinLocals_59_ok ih hF) (xsub_cons rfl (xsub_cons rfl (xsub_cons rfl (xsub_cons rfl (xsub_cons rfl xsub_nil)))))
      · replace hF := if_n c18 hF
        refine xe_aload_n dX6_joinLocals_29 rfl rfl ?_
        obtain ⟨a20, e21, t22, hF⟩ := gR_inv hF
        refine xq_getR dX6_joinLocals_30 fl_Shapes_19 xk_5 e21 t22 rfl ?_
        refine xe_iload_n dX6_joinLocals_33 rfl rfl ?_
        refine xe_iload dX6_joinLocals_34 rfl ?_
        refine xe_iadd dX6_joinLocals_36 ?_
        obtain ⟨a24, n25, e26, t27, b28, hF⟩ := aL_inv hF
        refine xq_lald dX6_joinLocals_37 e26 t27 b28 ?_
        refine xe_ldc2 (v := 5) dX6_joinLocals_38 tw_547 ?_
        refine xe_lcmp dX6_joinLocals_41 ?_
        refine xe_lif_eq (tgt := 59) dX6_joinLocals_42 (by decide) (fun c29 => ?_) (fun c29 => ?_)
        · replace hF := if_p c29 hF
          exact xv.lv (BX6_joinLocals_59_ok ih hF) (xsub_cons rfl (xsub_cons rfl (xsub_cons rfl (xsub_cons rfl (xsub_cons rfl xsub_nil)))))
        · replace hF := if_n c29 hF
          refine xe_aload_n dX6_joinLocals_45 rfl rfl ?_
          obtain ⟨a31, e32, t33, hF⟩ := gR_inv hF
          refine xq_getR dX6_joinLocals_46 fl_Shapes_19 xk_5 e32 t33 rfl ?_
          refine xe_iload_n dX6_joinLocals_49 rfl rfl ?_
          refine xe_iload dX6_joinLocals_50 rfl ?_
          refine xe_iadd dX6_joinLocals_52 ?_
          refine xe_ldc2 (v := 5) dX6_joinLocals_53 tw_547 ?_
          obtain ⟨a35, n36, e37, t38, b39, hF⟩ := sL_inv hF
          refine xq_last dX6_joinLocals_56 e37 t38 b39 ?_
          refine xe_iconst (v := 1) dX6_joinLocals_57 (by decide) ?_
          refine xe_istore_n dX6_joinLocals_58 rfl (by decide) ?_
          exact xv.lv (BX6_joinLocals_59_ok ih hF) (xsub_cons rfl (xsub_cons rfl (xsub_cons rfl (xsub_cons rfl (xsub_cons rfl xsub_nil)))))
    · replace hF := if_n c1 hF
      refine xe_iload_n dX6_joinLocals_65 rfl rfl ?_
      refine xe_if_eq (tgt := 77) dX6_joinLocals_66 (by decide) (fun c41 => ?_) (fun c41 => ?_)
      · replace hF := if_p c41 hF
        refine xe_iload_n dX6_joinLocals_77 rfl rfl ?_
        obtain ⟨z42, hF⟩ := bz_inv hF
        exact xe_ireturn dX6_joinLocals_78 (xPZ_ret z42 hF)
      · replace hF := if_n c41 hF
        refine xe_aload_n dX6_joinLocals_69 rfl rfl ?_
        obtain ⟨a44, e45, t46, hF⟩ := gR_inv hF
        refine xq_getR dX6_joinLocals_70 fl_Shapes_19 xk_5 e45 t46 rfl ?_
        refine xe_iload_n dX6_joinLocals_73 rfl rfl ?_
        obtain ⟨v47, h48, o49, hF⟩ := cl_inv hF
        refine xz (xq_callS (As := [va_rf _, .int _]) (rest := []) dX6_joinLocals_74 mk_X5_dropHalves ⟨tw_548, tw_512⟩ (FX5_dropHalves_ok o49) xP_q (by decide) (by decide) rfl rfl ?_)
        refine xe_iload_n dX6_joinLocals_77 rfl rfl ?_
        obtain ⟨z50, hF⟩ := bz_inv hF
        exact xe_ireturn dX6_joinLocals_78 (xPZ_ret z50 hF)
def FX6_joinLocals (p0 : Option Nat) (p1 : Int32) (p2 : Option Nat) (h0 : Hp) : Option (Int32 × Hp) :=
  BX6_joinLocals_5 100000 p0 p1 p2 0 0 h0
set_option maxRecDepth 100000 in
set_option maxHeartbeats 4000000 in
theorem FX6_joinLocals_ok {G : xG} {l : Launch} {p0 : Option Nat} {p1 : Int32} {p2 : Option Nat} {h0 h1 : Hp} {r : Int32} (hF : FX6_joinLocals p0 p1 p2 h0 = some (r, h1)) : xc G l mX6_joinLocals 2 0 0 [va_rf p0, .int p1, va_rf p2] h0 (xPZ r h1) := by
  refine xo_Z [.inr (.inr _), .inl _, .inr (.inr _)] (by decide) (Nat.le_of_ble_eq_true rfl) rfl ?_
  show xv _ _ _ _ _ _ _ [(0, false, va_rf p0), (1, false, .int p1), (2, false, va_rf p2)] _ _ _
  unfold FX6_joinLocals at hF
  refine xe_iconst (v := 0) dX6_joinLocals_0 (by decide) ?_
  refine xe_istore_n dX6_joinLocals_1 rfl (by decide) ?_
  refine xe_iconst (v := 0) dX6_joinLocals_2 (by decide) ?_
  refine xe_istore dX6_joinLocals_3 (by decide) ?_
  exact xv.lv (BX6_joinLocals_5_ok _ hF) (xsub_cons rfl (xsub_cons rfl (xsub_cons rfl (xsub_cons rfl (xsub_cons rfl xsub_nil)))))
/-! SeldomOps$Shapes.bring(ILSeldomOps$Shape;)Z -/
def FX6_bring (p0 : Option Nat) (p1 : Int32) (p2 : Option Nat) (h0 : Hp) : Option (Int32 × Hp) :=
  gR h0 p0 5 0 fun v1 =>
  aI h0 v1 .int p1 fun v5 =>
  if (v5 : Int32) = (-1) then
    rcv h0 p0 5 <|
    cl (FX6_keep p0 p1 p2 h0) fun v12 h13 =>
    gR h13 p0 5 3 fun v18 =>
    sZ h13 v18 p1 1 fun h22 =>
    bz 1 (some (1, h22))
  else
    gR h0 p2 4 0 fun v30 =>
    rcv h0 p0 5 <|
    cl (FX6_isStack p0 p1 v30 h0) fun v34 h35 =>
    if (v34 : Int32) = 0 then
      bz 0 (some (0, h35))
    else
      gR h35 p2 4 1 fun v42 =>
      rcv h35 p0 5 <|
      cl (FX6_joinLocals p0 (p1 * 16) v42 h35) fun v46 h47 =>
      if (v46 : Int32) = 0 then
        bz 1 (some (1, h47))
      else
        gR h47 p0 5 3 fun v54 =>
        sZ h47 v54 p1 1 fun h58 =>
        bz 1 (some (1, h58))
set_option maxRecDepth 100000 in
set_option maxHeartbeats 4000000 in
theorem FX6_bring_ok {G : xG} {l : Launch} {p0 : Option Nat} {p1 : Int32} {p2 : Option Nat} {h0 h1 : Hp} {r : Int32} (hF : FX6_bring p0 p1 p2 h0 = some (r, h1)) : xc G l mX6_bring 3 0 0 [va_rf p0, .int p1, va_rf p2] h0 (xPZ r h1) := by
  refine xo_Z [.inr (.inr _), .inl _, .inr (.inr _)] (by decide) (Nat.le_of_ble_eq_true rfl) rfl ?_
  show xv _ _ _ _ _ _ _ [(0, false, va_rf p0), (1, false, .int p1), (2, false, va_rf p2)] _ _ _
  unfold FX6_bring at hF
  refine xe_aload_n dX6_bring_0 rfl rfl ?_
  obtain ⟨a2, e3, t4, hF⟩ := gR_inv hF
  refine xq_getR dX6_bring_1 fl_Shapes_9 xk_5 e3 t4 rfl ?_
  refine xe_iload_n dX6_bring_4 rfl rfl ?_
  obtain ⟨a6, n7, e8, t9, b10, hF⟩ := aI_inv hF
  refine xq_iald dX6_bring_5 e8 t9 b10 ?_
  refine xe_iconst (v := (-1)) dX6_bring_6 (by decide) ?_
  refine xe_icmp_ne (tgt := 25) dX6_bring_7 (by decide) (fun c11 => ?_) (fun c11 => ?_)
  · replace hF := if_p c11 hF
    refine xe_aload_n dX6_bring_10 rfl rfl ?_
    refine xe_iload_n dX6_bring_11 rfl rfl ?_
    refine xe_aload_n dX6_bring_12 rfl rfl ?_
    obtain ⟨a17, e15, t16, hF⟩ := rcv_inv hF
    obtain ⟨v12, h13, o14, hF⟩ := cl_inv hF
    refine xz (xq_callV (As := [.int _, va_rf _]) (rest := []) dX6_bring_13 mk_X6_keep ⟨tw_527, tw_529, ts_2⟩ (ci := 5) rfl e15 t16 (FX6_keep_ok o14) xP_q (by decide) (by decide) rfl rfl ?_)
    refine xe_aload_n dX6_bring_16 rfl rfl ?_
    obtain ⟨a19, e20, t21, hF⟩ := gR_inv hF
    refine xq_getR dX6_bring_17 fl_Shapes_22 xk_5 e20 t21 rfl ?_
    refine xe_iload_n dX6_bring_20 rfl rfl ?_
    refine xe_iconst (v := 1) dX6_bring_21 (by decide) ?_
    obtain ⟨a23, n24, e25, t26, b27, z28, hF⟩ := sZ_inv hF
    refine xq_zast dX6_bring_22 e25 t26 b27 z28 ?_
    refine xe_iconst (v := 1) dX6_bring_23 (by decide) ?_
    obtain ⟨z29, hF⟩ := bz_inv hF
    exact xe_ireturn dX6_bring_24 (xPZ_ret z29 hF)
  · replace hF := if_n c11 hF
    refine xe_aload_n dX6_bring_25 rfl rfl ?_
    refine xe_iload_n dX6_bring_26 rfl rfl ?_
    refine xe_aload_n dX6_bring_27 rfl rfl ?_
    obtain ⟨a31, e32, t33, hF⟩ := gR_inv hF
    refine xq_getR dX6_bring_28 fl_Shapes_26 xk_4 e32 t33 rfl ?_
    obtain ⟨a39, e37, t38, hF⟩ := rcv_inv hF
    obtain ⟨v34, h35, o36, hF⟩ := cl_inv hF
    refine xz (xq_callV (As := [.int _, va_rf _]) (rest := []) dX6_bring_31 mk_X6_isStack ⟨tw_534, tw_536, ts_3⟩ (ci := 5) rfl e37 t38 (FX6_isStack_ok o36) xPZ_q (by decide) (by decide) rfl rfl ?_)
    refine xe_if_ne (tgt := 39) dX6_bring_34 (by decide) (fun c40 => ?_) (fun c40 => ?_)
    · replace hF := if_p c40 hF
      refine xe_iconst (v := 0) dX6_bring_37 (by decide) ?_
      obtain ⟨z41, hF⟩ := bz_inv hF
      exact xe_ireturn dX6_bring_38 (xPZ_ret z41 hF)
    · replace hF := if_n c40 hF
      refine xe_aload_n dX6_bring_39 rfl rfl ?_
      refine xe_iload_n dX6_bring_40 rfl rfl ?_
      refine xe_bipush (v := 16) dX6_bring_41 (by decide) ?_
      refine xe_imul dX6_bring_43 ?_
      refine xe_aload_n dX6_bring_44 rfl rfl ?_
      obtain ⟨a43, e44, t45, hF⟩ := gR_inv hF
      refine xq_getR dX6_bring_45 fl_Shapes_47 xk_4 e44 t45 rfl ?_
      obtain ⟨a51, e49, t50, hF⟩ := rcv_inv hF
      obtain ⟨v46, h47, o48, hF⟩ := cl_inv hF
      refine xz (xq_callV (As := [.int _, va_rf _]) (rest := []) dX6_bring_48 mk_X6_joinLocals ⟨tw_543, tw_545, ts_4⟩ (ci := 5) rfl e49 t50 (FX6_joinLocals_ok o48) xPZ_q (by decide) (by decide) rfl rfl ?_)
      refine xe_if_eq (tgt := 61) dX6_bring_51 (by decide) (fun c52 => ?_) (fun c52 => ?_)
      · replace hF := if_p c52 hF
        refine xe_iconst (v := 1) dX6_bring_61 (by decide) ?_
        obtain ⟨z53, hF⟩ := bz_inv hF
        exact xe_ireturn dX6_bring_62 (xPZ_ret z53 hF)
      · replace hF := if_n c52 hF
        refine xe_aload_n dX6_bring_54 rfl rfl ?_
        obtain ⟨a55, e56, t57, hF⟩ := gR_inv hF
        refine xq_getR dX6_bring_55 fl_Shapes_22 xk_5 e56 t57 rfl ?_
        refine xe_iload_n dX6_bring_58 rfl rfl ?_
        refine xe_iconst (v := 1) dX6_bring_59 (by decide) ?_
        obtain ⟨a59, n60, e61, t62, b63, z64, hF⟩ := sZ_inv hF
        refine xq_zast dX6_bring_60 e61 t62 b63 z64 ?_
        refine xe_iconst (v := 1) dX6_bring_61 (by decide) ?_
        obtain ⟨z65, hF⟩ := bz_inv hF
        exact xe_ireturn dX6_bring_62 (xPZ_ret z65 hF)
/-! SeldomOps$Judge.begin(LSeldomOps$Method;)V -/
def BX1_begin_45 : Nat → Option Nat → Option Nat → Int32 → Int32 → Hp → Option (Unit × Hp)
  | 0, _, _, _, _, _ => none
  | n + 1, x0, x1, x2, x3, h0 =>
    gI h0 x1 2 2 fun v1 =>
    if (x3 : Int32) < v1 then
      gR h0 x0 1 1 fun v6 =>
      gR h0 x1 2 1 fun v10 =>
      aI h0 v10 .int x3 fun v14 =>
      rcv h0 v6 4 <|
      cl (FX5_store v6 x2 v14 h0) fun v20 h21 =>
      gR h21 x1 2 1 fun v26 =>
      aI h21 v26 .int x3 fun v30 =>
      cl (FX11_width v30 h21) fun v36 h37 =>
      BX1_begin_45 n x0 x1 (x2 + v36) (x3 + 1) h37
    else
      gR h0 x1 2 13 fun v39 =>
      rcv h0 v39 5 <|
      cl (FX6_forget v39 h0) fun v43 h44 =>
      gR h44 x1 2 13 fun v49 =>
      gR h44 x0 1 1 fun v53 =>
      rcv h44 v49 5 <|
      cl (FX6_bring v49 0 v53 h44) fun v57 h58 =>
      some ((), h58)
set_option maxRecDepth 100000 in
set_option maxHeartbeats 4000000 in
theorem BX1_begin_45_ok {G : xG} {l : Launch} : ∀ (n : Nat) {x0 : Option Nat} {x1 : Option Nat} {x2 : Int32} {x3 : Int32} {h0 h1 : Hp} {r : Unit} (hF : BX1_begin_45 n x0 x1 x2 x3 h0 = some (r, h1)), xv G l mX1_begin 4 0 0 45 [(0, false, va_rf x0), (1, false, va_rf x1), (2, false, .int x2), (3, false, .int x3)] [] h0 (xP mkV r h1) := by
  intro n
  induction n with
  | zero => intro x0 x1 x2 x3 h0 h1 r hF; cases hF
  | succ n ih =>
    intro x0 x1 x2 x3 h0 h1 r hF
    unfold BX1_begin_45 at hF
    refine xe_iload_n dX1_begin_45 rfl rfl ?_
    refine xe_aload_n dX1_begin_46 rfl rfl ?_
    obtain ⟨a2, e3, t4, hF⟩ := gI_inv hF
    refine xq_getI dX1_begin_47 fl_Judge_91 xk_2 e3 t4 rfl ?_
    refine xe_icmp_ge (tgt := 85) dX1_begin_50 (by decide) (fun c5 => ?_) (fun c5 => ?_)
    · replace hF := if_p c5 hF
      refine xe_aload_n dX1_begin_53 rfl rfl ?_
      obtain ⟨a7, e8, t9, hF⟩ := gR_inv hF
      refine xq_getR dX1_begin_54 fl_Judge_12 xk_1 e8 t9 rfl ?_
      refine xe_iload_n dX1_begin_57 rfl rfl ?_
      refine xe_aload_n dX1_begin_58 rfl rfl ?_
      obtain ⟨a11, e12, t13, hF⟩ := gR_inv hF
      refine xq_getR dX1_begin_59 fl_Judge_94 xk_2 e12 t13 rfl ?_
      refine xe_iload_n dX1_begin_62 rfl rfl ?_
      obtain ⟨a15, n16, e17, t18, b19, hF⟩ := aI_inv hF
      refine xq_iald dX1_begin_63 e17 t18 b19 ?_
      obtain ⟨a25, e23, t24, hF⟩ := rcv_inv hF
      obtain ⟨v20, h21, o22, hF⟩ := cl_inv hF
      refine xz (xq_callV (As := [.int _, .int _]) (rest := []) dX1_begin_64 mk_X5_store ⟨tw_498, tw_499, tw_500⟩ (ci := 4) rfl e23 t24 (FX5_store_ok o22) xP_q (by decide) (by decide) rfl rfl ?_)
      refine xe_iload_n dX1_begin_67 rfl rfl ?_
      refine xe_aload_n dX1_begin_68 rfl rfl ?_
      obtain ⟨a27, e28, t29, hF⟩ := gR_inv hF
      refine xq_getR dX1_begin_69 fl_Judge_94 xk_2 e28 t29 rfl ?_
      refine xe_iload_n dX1_begin_72 rfl rfl ?_
      obtain ⟨a31, n32, e33, t34, b35, hF⟩ := aI_inv hF
      refine xq_iald dX1_begin_73 e33 t34 b35 ?_
      obtain ⟨v36, h37, o38, hF⟩ := cl_inv hF
      refine xz (xq_callSN (As := [.int _]) (rest := [.int _]) dX1_begin_74 mk_X11_width ⟨tn_518, tw_387⟩ (FX11_width_ok o38) xP_q (by decide) (Nat.le_trans (cs_i cs_0) (by decide)) rfl rfl ?_)
      refine xe_iadd dX1_begin_77 ?_
      refine xe_istore_n dX1_begin_78 rfl (by decide) ?_
      refine xe_iinc (v := _ + 1) dX1_begin_79 rfl rfl (by decide) ?_
      refine xe_goto (tgt := 45) dX1_begin_82 (by decide) ?_
      exact xv.lv (ih hF) (xsub_cons rfl (xsub_cons rfl (xsub_cons rfl (xsub_cons rfl xsub_nil))))
    · replace hF := if_n c5 hF
      refine xe_aload_n dX1_begin_85 rfl rfl ?_
      obtain ⟨a40, e41, t42, hF⟩ := gR_inv hF
      refine xq_getR dX1_begin_86 fl_Judge_48 xk_2 e41 t42 rfl ?_
      obtain ⟨a48, e46, t47, hF⟩ := rcv_inv hF
      obtain ⟨v43, h44, o45, hF⟩ := cl_inv hF
      refine xz (xq_callV (As := []) (rest := []) dX1_begin_89 mk_X6_forget ⟨tw_519, tw_520, tw_521⟩ (ci := 5) rfl e46 t47 (FX6_forget_ok o45) xP_q (by decide) (by decide) rfl rfl ?_)
      refine xe_aload_n dX1_begin_92 rfl rfl ?_
      obtain ⟨a50, e51, t52, hF⟩ := gR_inv hF
      refine xq_getR dX1_begin_93 fl_Judge_48 xk_2 e51 t52 rfl ?_
      refine xe_iconst (v := 0) dX1_begin_96 (by decide) ?_
      refine xe_aload_n dX1_begin_97 rfl rfl ?_
      obtain ⟨a54, e55, t56, hF⟩ := gR_inv hF
      refine xq_getR dX1_begin_98 fl_Judge_12 xk_1 e55 t56 rfl ?_
      obtain ⟨a62, e60, t61, hF⟩ := rcv_inv hF
      obtain ⟨v57, h58, o59, hF⟩ := cl_inv hF
      refine xz (xq_callV (As := [.int _, va_rf _]) (rest := []) dX1_begin_101 mk_X6_bring ⟨tw_523, tw_524, tw_525⟩ (ci := 5) rfl e60 t61 (FX6_bring_ok o59) xPZ_q (by decide) (by decide) rfl rfl ?_)
      refine xe_pop dX1_begin_104 rfl ?_
      exact xe_return dX1_begin_105 (xP_ret (mk := mkV) hF)
def BX1_begin_17 : Nat → Option Nat → Option Nat → Int32 → Hp → Option (Unit × Hp)
  | 0, _, _, _, _ => none
  | n + 1, x0, x1, x2, h0 =>
    if (x2 : Int32) < 16 then
      gR h0 x0 1 1 fun v2 =>
      gR h0 v2 4 1 fun v6 =>
      sL h0 v6 x2 5 fun h10 =>
      BX1_begin_17 n x0 x1 (x2 + 1) h10
    else
      BX1_begin_45 100000 x0 x1 0 0 h0
set_option maxRecDepth 100000 in
set_option maxHeartbeats 4000000 in
theorem BX1_begin_17_ok {G : xG} {l : Launch} : ∀ (n : Nat) {x0 : Option Nat} {x1 : Option Nat} {x2 : Int32} {h0 h1 : Hp} {r : Unit} (hF : BX1_begin_17 n x0 x1 x2 h0 = some (r, h1)), xv G l mX1_begin 4 0 0 17 [(0, false, va_rf x0), (1, false, va_rf x1), (2, false, .int x2)] [] h0 (xP mkV r h1) := by
  intro n
  induction n with
  | zero => intro x0 x1 x2 h0 h1 r hF; cases hF
  | succ n ih =>
    intro x0 x1 x2 h0 h1 r hF
    unfold BX1_begin_17 at hF
    refine xe_iload_n dX1_begin_17 rfl rfl ?_
    refine xe_bipush (v := 16) dX1_begin_18 (by decide) ?_
    refine xe_icmp_ge (tgt := 41) dX1_begin_20 (by decide) (fun c1 => ?_) (fun c1 => ?_)
    · replace hF := if_p c1 hF
      refine xe_aload_n dX1_begin_23 rfl rfl ?_
      obtain ⟨a3, e4, t5, hF⟩ := gR_inv hF
      refine xq_getR dX1_begin_24 fl_Judge_12 xk_1 e4 t5 rfl ?_
      obtain ⟨a7, e8, t9, hF⟩ := gR_inv hF
      refine xq_getR dX1_begin_27 fl_Judge_85 xk_4 e8 t9 rfl ?_
      refine xe_iload_n dX1_begin_30 rfl rfl ?_
      refine xe_ldc2 (v := 5) dX1_begin_31 tw_497 ?_
      obtain ⟨a11, n12, e13, t14, b15, hF⟩ := sL_inv hF
      refine xq_last dX1_begin_34 e13 t14 b15 ?_
      refine xe_iinc (v := _ + 1) dX1_begin_35 rfl rfl (by decide) ?_
      refine xe_goto (tgt := 17) dX1_begin_38 (by decide) ?_
      exact xv.lv (ih hF) (xsub_cons rfl (xsub_cons rfl (xsub_cons rfl xsub_nil)))
    · replace hF := if_n c1 hF
      refine xe_iconst (v := 0) dX1_begin_41 (by decide) ?_
      refine xe_istore_n dX1_begin_42 rfl (by decide) ?_
      refine xe_iconst (v := 0) dX1_begin_43 (by decide) ?_
      refine xe_istore_n dX1_begin_44 rfl (by decide) ?_
      exact xv.lv (BX1_begin_45_ok _ hF) (xsub_cons rfl (xsub_cons rfl (xsub_cons rfl (xsub_cons rfl xsub_nil))))
def FX1_begin (p0 : Option Nat) (p1 : Option Nat) (h0 : Hp) : Option (Unit × Hp) :=
  pI h0 p0 1 5 0 fun h4 =>
  gR h4 p0 1 1 fun v6 =>
  gR h4 v6 4 0 fun v10 =>
  rcv h4 v10 9 <|
  cl (FX10_clear v10 h4) fun v14 h15 =>
  BX1_begin_17 100000 p0 p1 0 h15
set_option maxRecDepth 100000 in
set_option maxHeartbeats 4000000 in
theorem FX1_begin_ok {G : xG} {l : Launch} {p0 : Option Nat} {p1 : Option Nat} {h0 h1 : Hp} {r : Unit} (hF : FX1_begin p0 p1 h0 = some (r, h1)) : xc G l mX1_begin 4 0 0 [va_rf p0, va_rf p1] h0 (xP mkV r h1) := by
  refine xo_V [.inr (.inr _), .inr (.inr _)] (by decide) (Nat.le_of_ble_eq_true rfl) rfl ?_
  show xv _ _ _ _ _ _ _ [(0, false, va_rf p0), (1, false, va_rf p1)] _ _ _
  unfold FX1_begin at hF
  refine xe_aload_n dX1_begin_0 rfl rfl ?_
  refine xe_iconst (v := 0) dX1_begin_1 (by decide) ?_
  obtain ⟨a1, e2, t3, hF⟩ := pI_inv hF
  refine xq_putI dX1_begin_2 fl_Judge_28 xk_1 (by decide) (fun z => by cases z) e2 t3 (Or.inl rfl) ?_
  refine xe_aload_n dX1_begin_5 rfl rfl ?_
  obtain ⟨a7, e8, t9, hF⟩ := gR_inv hF
  refine xq_getR dX1_begin_6 fl_Judge_12 xk_1 e8 t9 rfl ?_
  obtain ⟨a11, e12, t13, hF⟩ := gR_inv hF
  refine xq_getR dX1_begin_9 fl_Judge_76 xk_4 e12 t13 rfl ?_
  obtain ⟨a19, e17, t18, hF⟩ := rcv_inv hF
  obtain ⟨v14, h15, o16, hF⟩ := cl_inv hF
  refine xz (xq_callV (As := []) (rest := []) dX1_begin_12 mk_X10_clear ⟨tw_493, tw_494, tw_495⟩ (ci := 9) rfl e17 t18 (FX10_clear_ok o16) xP_q (by decide) (by decide) rfl rfl ?_)
  refine xe_iconst (v := 0) dX1_begin_15 (by decide) ?_
  refine xe_istore_n dX1_begin_16 rfl (by decide) ?_
  exact xv.lv (BX1_begin_17_ok _ hF) (xsub_cons rfl (xsub_cons rfl (xsub_cons rfl xsub_nil)))
/-! SeldomOps$Shapes.load(ILSeldomOps$Shape;)V -/
def FX6_load (p0 : Option Nat) (p1 : Int32) (p2 : Option Nat) (h0 : Hp) : Option (Unit × Hp) :=
  gR h0 p2 4 0 fun v1 =>
  gR h0 p0 5 0 fun v5 =>
  aI h0 v5 .int p1 fun v9 =>
  pI h0 v1 9 1 v9 fun h18 =>
  gR h18 p0 5 1 fun v20 =>
  gR h18 p2 4 0 fun v24 =>
  gR h18 v24 9 0 fun v28 =>
  cp h18 v20 (p1 * 12) v28 0 12 fun h32 =>
  gR h32 p0 5 2 fun v46 =>
  gR h32 p2 4 1 fun v50 =>
  cp h32 v46 (p1 * 16) v50 0 16 fun h54 =>
  some ((), h54)
set_option maxRecDepth 100000 in
set_option maxHeartbeats 4000000 in
theorem FX6_load_ok {G : xG} {l : Launch} {p0 : Option Nat} {p1 : Int32} {p2 : Option Nat} {h0 h1 : Hp} {r : Unit} (hF : FX6_load p0 p1 p2 h0 = some (r, h1)) : xc G l mX6_load 1 0 0 [va_rf p0, .int p1, va_rf p2] h0 (xP mkV r h1) := by
  refine xo_V [.inr (.inr _), .inl _, .inr (.inr _)] (by decide) (Nat.le_of_ble_eq_true rfl) rfl ?_
  show xv _ _ _ _ _ _ _ [(0, false, va_rf p0), (1, false, .int p1), (2, false, va_rf p2)] _ _ _
  unfold FX6_load at hF
  refine xe_aload_n dX6_load_0 rfl rfl ?_
  obtain ⟨a2, e3, t4, hF⟩ := gR_inv hF
  refine xq_getR dX6_load_1 fl_Shapes_26 xk_4 e3 t4 rfl ?_
  refine xe_aload_n dX6_load_4 rfl rfl ?_
  obtain ⟨a6, e7, t8, hF⟩ := gR_inv hF
  refine xq_getR dX6_load_5 fl_Shapes_9 xk_5 e7 t8 rfl ?_
  refine xe_iload_n dX6_load_8 rfl rfl ?_
  obtain ⟨a10, n11, e12, t13, b14, hF⟩ := aI_inv hF
  refine xq_iald dX6_load_9 e12 t13 b14 ?_
  obtain ⟨a15, e16, t17, hF⟩ := pI_inv hF
  refine xq_putI dX6_load_10 fl_Shapes_32 xk_9 (by decide) (fun z => by cases z) e16 t17 (Or.inl rfl) ?_
  refine xe_aload_n dX6_load_13 rfl rfl ?_
  obtain ⟨a21, e22, t23, hF⟩ := gR_inv hF
  refine xq_getR dX6_load_14 fl_Shapes_15 xk_5 e22 t23 rfl ?_
  refine xe_iload_n dX6_load_17 rfl rfl ?_
  refine xe_bipush (v := 12) dX6_load_18 (by decide) ?_
  refine xe_imul dX6_load_20 ?_
  refine xe_aload_n dX6_load_21 rfl rfl ?_
  obtain ⟨a25, e26, t27, hF⟩ := gR_inv hF
  refine xq_getR dX6_load_22 fl_Shapes_26 xk_4 e26 t27 rfl ?_
  obtain ⟨a29, e30, t31, hF⟩ := gR_inv hF
  refine xq_getR dX6_load_25 fl_Shapes_38 xk_9 e30 t31 rfl ?_
  refine xe_iconst (v := 0) dX6_load_28 (by decide) ?_
  refine xe_bipush (v := 12) dX6_load_29 (by decide) ?_
  obtain ⟨a33, n34, a35, n36, e37, t38, e39, t40, s41, s42, s43, s44, s45, hF⟩ := cp_inv hF
  refine xq_copyL dX6_load_31 ⟨tw_531, tw_533, tw_532, tw_13⟩ (by decide) (by decide) e37 t38 e39 t40 s41 s42 s43 s44 s45 ?_
  refine xe_aload_n dX6_load_34 rfl rfl ?_
  obtain ⟨a47, e48, t49, hF⟩ := gR_inv hF
  refine xq_getR dX6_load_35 fl_Shapes_19 xk_5 e48 t49 rfl ?_
  refine xe_iload_n dX6_load_38 rfl rfl ?_
  refine xe_bipush (v := 16) dX6_load_39 (by decide) ?_
  refine xe_imul dX6_load_41 ?_
  refine xe_aload_n dX6_load_42 rfl rfl ?_
  obtain ⟨a51, e52, t53, hF⟩ := gR_inv hF
  refine xq_getR dX6_load_43 fl_Shapes_47 xk_4 e52 t53 rfl ?_
  refine xe_iconst (v := 0) dX6_load_46 (by decide) ?_
  refine xe_bipush (v := 16) dX6_load_47 (by decide) ?_
  obtain ⟨a55, n56, a57, n58, e59, t60, e61, t62, s63, s64, s65, s66, s67, hF⟩ := cp_inv hF
  refine xq_copyL dX6_load_49 ⟨tw_531, tw_533, tw_532, tw_13⟩ (by decide) (by decide) e59 t60 e61 t62 s63 s64 s65 s66 s67 ?_
  exact xe_return dX6_load_52 (xP_ret (mk := mkV) hF)
/-! SeldomOps.isType(I)Z -/
def FX11_isType (p0 : Int32) (h0 : Hp) : Option (Int32 × Hp) :=
  if (p0 : Int32) < 8 then
    bz 0 (some (0, h0))
  else
    if (p0 : Int32) < 32 then
      if ((p0 - p0 / 8 * 8) : Int32) = 4 then
        bz 0 (some (0, h0))
      else
        bz 1 (some (1, h0))
    else
      bz 0 (some (0, h0))
set_option maxRecDepth 100000 in
set_option maxHeartbeats 4000000 in
theorem FX11_isType_ok {G : xG} {l : Launch} {p0 : Int32} {h0 h1 : Hp} {r : Int32} (hF : FX11_isType p0 h0 = some (r, h1)) : xc G l mX11_isType 1 0 0 [.int p0] h0 (xPZ r h1) := by
  refine xo_Z [.inl _] (by decide) (Nat.le_of_ble_eq_true rfl) rfl ?_
  show xv _ _ _ _ _ _ _ [(0, false, .int p0)] _ _ _
  unfold FX11_isType at hF
  refine xe_iload_n dX11_isType_0 rfl rfl ?_
  refine xe_bipush (v := 8) dX11_isType_1 (by decide) ?_
  refine xe_icmp_lt (tgt := 24) dX11_isType_3 (by decide) (fun c1 => ?_) (fun c1 => ?_)
  · replace hF := if_p c1 hF
    refine xe_iconst (v := 0) dX11_isType_24 (by decide) ?_
    obtain ⟨z2, hF⟩ := bz_inv hF
    exact xe_ireturn dX11_isType_25 (xPZ_ret z2 hF)
  · replace hF := if_n c1 hF
    refine xe_iload_n dX11_isType_6 rfl rfl ?_
    refine xe_bipush (v := 32) dX11_isType_7 (by decide) ?_
    refine xe_icmp_ge (tgt := 24) dX11_isType_9 (by decide) (fun c3 => ?_) (fun c3 => ?_)
    · replace hF := if_p c3 hF
      refine xe_iload_n dX11_isType_12 rfl rfl ?_
      refine xe_bipush (v := 8) dX11_isType_13 (by decide) ?_
      refine xe_irem dX11_isType_15 (by decide) ?_
      refine xe_iconst (v := 4) dX11_isType_16 (by decide) ?_
      refine xe_icmp_eq (tgt := 24) dX11_isType_17 (by decide) (fun c5 => ?_) (fun c5 => ?_)
      · replace hF := if_p c5 hF
        refine xe_iconst (v := 0) dX11_isType_24 (by decide) ?_
        obtain ⟨z6, hF⟩ := bz_inv hF
        exact xe_ireturn dX11_isType_25 (xPZ_ret z6 hF)
      · replace hF := if_n c5 hF
        refine xe_iconst (v := 1) dX11_isType_20 (by decide) ?_
        refine xe_goto (tgt := 25) dX11_isType_21 (by decide) ?_
        obtain ⟨z7, hF⟩ := bz_inv hF
        exact xe_ireturn dX11_isType_25 (xPZ_ret z7 hF)
    · replace hF := if_n c3 hF
      refine xe_iconst (v := 0) dX11_isType_24 (by decide) ?_
      obtain ⟨z8, hF⟩ := bz_inv hF
      exact xe_ireturn dX11_isType_25 (xPZ_ret z8 hF)
