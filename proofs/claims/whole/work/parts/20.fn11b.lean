/-! SeldomOpsModel.count(I)I -/
def FX12_count (p0 : Option Nat) (p1 : Int32) (h0 : Hp) : Option (Int32 × Hp) :=
  if (p1 : Int32) = 0 then
    gI h0 p0 11 0 fun v2 =>
    some (v2, h0)
  else
    if (p1 : Int32) = 1 then
      gI h0 p0 11 15 fun v7 =>
      some (v7, h0)
    else
      if (p1 : Int32) = 2 then
        gI h0 p0 11 17 fun v12 =>
        some (v12, h0)
      else
        if (p1 : Int32) = 3 then
          gI h0 p0 11 34 fun v17 =>
          some (v17, h0)
        else
          some ((-2), h0)
set_option maxRecDepth 100000 in
set_option maxHeartbeats 4000000 in
theorem FX12_count_ok {G : xG} {l : Launch} {p0 : Option Nat} {p1 : Int32} {h0 h1 : Hp} {r : Int32} (hF : FX12_count p0 p1 h0 = some (r, h1)) : xc G l mX12_count 1 0 0 [va_rf p0, .int p1] h0 (xP mkI r h1) := by
  refine xo_I [.inr (.inr _), .inl _] (by decide) (Nat.le_of_ble_eq_true rfl) rfl ?_
  show xv _ _ _ _ _ _ _ [(0, false, va_rf p0), (1, false, .int p1)] _ _ _
  unfold FX12_count at hF
  refine xe_iload_n dX12_count_0 rfl rfl ?_
  refine xe_if_ne (tgt := 11) dX12_count_1 (by decide) (fun c1 => ?_) (fun c1 => ?_)
  · replace hF := if_p c1 hF
    refine xe_aload_n dX12_count_4 rfl rfl ?_
    obtain ⟨a3, e4, t5, hF⟩ := gI_inv hF
    refine xq_getI dX12_count_5 fl_SeldomOpsModel_148 xk_11 e4 t5 rfl ?_
    refine xe_goto (tgt := 49) dX12_count_8 (by decide) ?_
    exact xe_ireturn dX12_count_49 (xP_ret (mk := mkI) hF)
  · replace hF := if_n c1 hF
    refine xe_iload_n dX12_count_11 rfl rfl ?_
    refine xe_iconst (v := 1) dX12_count_12 (by decide) ?_
    refine xe_icmp_ne (tgt := 23) dX12_count_13 (by decide) (fun c6 => ?_) (fun c6 => ?_)
    · replace hF := if_p c6 hF
      refine xe_aload_n dX12_count_16 rfl rfl ?_
      obtain ⟨a8, e9, t10, hF⟩ := gI_inv hF
      refine xq_getI dX12_count_17 fl_SeldomOpsModel_184 xk_11 e9 t10 rfl ?_
      refine xe_goto (tgt := 49) dX12_count_20 (by decide) ?_
      exact xe_ireturn dX12_count_49 (xP_ret (mk := mkI) hF)
    · replace hF := if_n c6 hF
      refine xe_iload_n dX12_count_23 rfl rfl ?_
      refine xe_iconst (v := 2) dX12_count_24 (by decide) ?_
      refine xe_icmp_ne (tgt := 35) dX12_count_25 (by decide) (fun c11 => ?_) (fun c11 => ?_)
      · replace hF := if_p c11 hF
        refine xe_aload_n dX12_count_28 rfl rfl ?_
        obtain ⟨a13, e14, t15, hF⟩ := gI_inv hF
        refine xq_getI dX12_count_29 fl_SeldomOpsModel_187 xk_11 e14 t15 rfl ?_
        refine xe_goto (tgt := 49) dX12_count_32 (by decide) ?_
        exact xe_ireturn dX12_count_49 (xP_ret (mk := mkI) hF)
      · replace hF := if_n c11 hF
        refine xe_iload_n dX12_count_35 rfl rfl ?_
        refine xe_iconst (v := 3) dX12_count_36 (by decide) ?_
        refine xe_icmp_ne (tgt := 47) dX12_count_37 (by decide) (fun c16 => ?_) (fun c16 => ?_)
        · replace hF := if_p c16 hF
          refine xe_aload_n dX12_count_40 rfl rfl ?_
          obtain ⟨a18, e19, t20, hF⟩ := gI_inv hF
          refine xq_getI dX12_count_41 fl_SeldomOpsModel_190 xk_11 e19 t20 rfl ?_
          refine xe_goto (tgt := 49) dX12_count_44 (by decide) ?_
          exact xe_ireturn dX12_count_49 (xP_ret (mk := mkI) hF)
        · replace hF := if_n c16 hF
          refine xe_bipush (v := (-2)) dX12_count_47 (by decide) ?_
          exact xe_ireturn dX12_count_49 (xP_ret (mk := mkI) hF)
/-! SeldomOpsModel.covers(II)Z -/
def FX12_covers (p0 : Option Nat) (p1 : Int32) (p2 : Int32) (h0 : Hp) : Option (Int32 × Hp) :=
  gR h0 p0 11 10 fun v1 =>
  aI h0 v1 .int p1 fun v5 =>
  gR h0 p0 11 11 fun v11 =>
  aI h0 v11 .int p1 fun v15 =>
  cl (FX12_in (Int32.toInt64 p2) (Int32.toInt64 v5) (Int32.toInt64 (v15 - 1)) h0) fun v21 h22 =>
  bz v21 (some (v21, h22))
set_option maxRecDepth 100000 in
set_option maxHeartbeats 4000000 in
theorem FX12_covers_ok {G : xG} {l : Launch} {p0 : Option Nat} {p1 : Int32} {p2 : Int32} {h0 h1 : Hp} {r : Int32} (hF : FX12_covers p0 p1 p2 h0 = some (r, h1)) : xc G l mX12_covers 2 0 0 [va_rf p0, .int p1, .int p2] h0 (xPZ r h1) := by
  refine xo_Z [.inr (.inr _), .inl _, .inl _] (by decide) (Nat.le_of_ble_eq_true rfl) rfl ?_
  show xv _ _ _ _ _ _ _ [(0, false, va_rf p0), (1, false, .int p1), (2, false, .int p2)] _ _ _
  unfold FX12_covers at hF
  refine xe_iload_n dX12_covers_0 rfl rfl ?_
  refine xe_i2l dX12_covers_1 ?_
  refine xe_aload_n dX12_covers_2 rfl rfl ?_
  obtain ⟨a2, e3, t4, hF⟩ := gR_inv hF
  refine xq_getR dX12_covers_3 fl_SeldomOpsModel_37 xk_11 e3 t4 rfl ?_
  refine xe_iload_n dX12_covers_6 rfl rfl ?_
  obtain ⟨a6, n7, e8, t9, b10, hF⟩ := aI_inv hF
  refine xq_iald dX12_covers_7 e8 t9 b10 ?_
  refine xe_i2l dX12_covers_8 ?_
  refine xe_aload_n dX12_covers_9 rfl rfl ?_
  obtain ⟨a12, e13, t14, hF⟩ := gR_inv hF
  refine xq_getR dX12_covers_10 fl_SeldomOpsModel_40 xk_11 e13 t14 rfl ?_
  refine xe_iload_n dX12_covers_13 rfl rfl ?_
  obtain ⟨a16, n17, e18, t19, b20, hF⟩ := aI_inv hF
  refine xq_iald dX12_covers_14 e18 t19 b20 ?_
  refine xe_iconst (v := 1) dX12_covers_15 (by decide) ?_
  refine xe_isub dX12_covers_16 ?_
  refine xe_i2l dX12_covers_17 ?_
  obtain ⟨v21, h22, o23, hF⟩ := cl_inv hF
  refine xz (xq_callS (As := [.long _, .long _, .long _]) (rest := []) dX12_covers_18 mk_X12_in ⟨tw_1174, tw_1175⟩ (FX12_in_ok o23) xPZ_q (by decide) (by decide) rfl rfl ?_)
  obtain ⟨z24, hF⟩ := bz_inv hF
  exact xe_ireturn dX12_covers_21 (xPZ_ret z24 hF)
/-! SeldomOpsModel.load(II)V -/
def BX12_load_57 : Nat → Option Nat → Int32 → Int32 → Hp → Option (Unit × Hp)
  | 0, _, _, _, _ => none
  | n + 1, x0, x3, x4, h0 =>
    if (x4 : Int32) < 16 then
      gR h0 x0 11 31 fun v2 =>
      gR h0 x0 11 28 fun v6 =>
      aI h0 v6 .int ((16 * x3) + x4) fun v10 =>
      sI h0 v2 x4 v10 fun h16 =>
      BX12_load_57 n x0 x3 (x4 + 1) h16
    else
      some ((), h0)
set_option maxRecDepth 100000 in
set_option maxHeartbeats 4000000 in
theorem BX12_load_57_ok {G : xG} {l : Launch} : ∀ (n : Nat) {x0 : Option Nat} {x3 : Int32} {x4 : Int32} {h0 h1 : Hp} {r : Unit} (hF : BX12_load_57 n x0 x3 x4 h0 = some (r, h1)), xv G l mX12_load 1 0 0 57 [(0, false, va_rf x0), (3, false, .int x3), (4, false, .int x4)] [] h0 (xP mkV r h1) := by
  intro n
  induction n with
  | zero => intro x0 x3 x4 h0 h1 r hF; cases hF
  | succ n ih =>
    intro x0 x3 x4 h0 h1 r hF
    unfold BX12_load_57 at hF
    refine xe_iload dX12_load_57 rfl ?_
    refine xe_bipush (v := 16) dX12_load_59 (by decide) ?_
    refine xe_icmp_ge (tgt := 89) dX12_load_61 (by decide) (fun c1 => ?_) (fun c1 => ?_)
    · replace hF := if_p c1 hF
      refine xe_aload_n dX12_load_64 rfl rfl ?_
      obtain ⟨a3, e4, t5, hF⟩ := gR_inv hF
      refine xq_getR dX12_load_65 fl_SeldomOpsModel_93 xk_11 e4 t5 rfl ?_
      refine xe_iload dX12_load_68 rfl ?_
      refine xe_aload_n dX12_load_70 rfl rfl ?_
      obtain ⟨a7, e8, t9, hF⟩ := gR_inv hF
      refine xq_getR dX12_load_71 fl_SeldomOpsModel_87 xk_11 e8 t9 rfl ?_
      refine xe_bipush (v := 16) dX12_load_74 (by decide) ?_
      refine xe_iload_n dX12_load_76 rfl rfl ?_
      refine xe_imul dX12_load_77 ?_
      refine xe_iload dX12_load_78 rfl ?_
      refine xe_iadd dX12_load_80 ?_
      obtain ⟨a11, n12, e13, t14, b15, hF⟩ := aI_inv hF
      refine xq_iald dX12_load_81 e13 t14 b15 ?_
      obtain ⟨a17, n18, e19, t20, b21, hF⟩ := sI_inv hF
      refine xq_iast dX12_load_82 e19 t20 b21 ?_
      refine xe_iinc (v := _ + 1) dX12_load_83 rfl rfl (by decide) ?_
      refine xe_goto (tgt := 57) dX12_load_86 (by decide) ?_
      exact xv.lv (ih hF) (xsub_cons rfl (xsub_cons rfl (xsub_cons rfl xsub_nil)))
    · replace hF := if_n c1 hF
      exact xe_return dX12_load_89 (xP_ret (mk := mkV) hF)
def BX12_load_20 : Nat → Option Nat → Int32 → Int32 → Hp → Option (Unit × Hp)
  | 0, _, _, _, _ => none
  | n + 1, x0, x3, x4, h0 =>
    gI h0 x0 11 29 fun v1 =>
    if (x4 : Int32) < v1 then
      gR h0 x0 11 30 fun v6 =>
      gR h0 x0 11 27 fun v10 =>
      aI h0 v10 .int ((12 * x3) + x4) fun v14 =>
      sI h0 v6 x4 v14 fun h20 =>
      BX12_load_20 n x0 x3 (x4 + 1) h20
    else
      BX12_load_57 100000 x0 x3 0 h0
set_option maxRecDepth 100000 in
set_option maxHeartbeats 4000000 in
theorem BX12_load_20_ok {G : xG} {l : Launch} : ∀ (n : Nat) {x0 : Option Nat} {x3 : Int32} {x4 : Int32} {h0 h1 : Hp} {r : Unit} (hF : BX12_load_20 n x0 x3 x4 h0 = some (r, h1)), xv G l mX12_load 1 0 0 20 [(0, false, va_rf x0), (3, false, .int x3), (4, false, .int x4)] [] h0 (xP mkV r h1) := by
  intro n
  induction n with
  | zero => intro x0 x3 x4 h0 h1 r hF; cases hF
  | succ n ih =>
    intro x0 x3 x4 h0 h1 r hF
    unfold BX12_load_20 at hF
    refine xe_iload dX12_load_20 rfl ?_
    refine xe_aload_n dX12_load_22 rfl rfl ?_
    obtain ⟨a2, e3, t4, hF⟩ := gI_inv hF
    refine xq_getI dX12_load_23 fl_SeldomOpsModel_212 xk_11 e3 t4 rfl ?_
    refine xe_icmp_ge (tgt := 54) dX12_load_26 (by decide) (fun c5 => ?_) (fun c5 => ?_)
    · replace hF := if_p c5 hF
      refine xe_aload_n dX12_load_29 rfl rfl ?_
      obtain ⟨a7, e8, t9, hF⟩ := gR_inv hF
      refine xq_getR dX12_load_30 fl_SeldomOpsModel_90 xk_11 e8 t9 rfl ?_
      refine xe_iload dX12_load_33 rfl ?_
      refine xe_aload_n dX12_load_35 rfl rfl ?_
      obtain ⟨a11, e12, t13, hF⟩ := gR_inv hF
      refine xq_getR dX12_load_36 fl_SeldomOpsModel_84 xk_11 e12 t13 rfl ?_
      refine xe_bipush (v := 12) dX12_load_39 (by decide) ?_
      refine xe_iload_n dX12_load_41 rfl rfl ?_
      refine xe_imul dX12_load_42 ?_
      refine xe_iload dX12_load_43 rfl ?_
      refine xe_iadd dX12_load_45 ?_
      obtain ⟨a15, n16, e17, t18, b19, hF⟩ := aI_inv hF
      refine xq_iald dX12_load_46 e17 t18 b19 ?_
      obtain ⟨a21, n22, e23, t24, b25, hF⟩ := sI_inv hF
      refine xq_iast dX12_load_47 e23 t24 b25 ?_
      refine xe_iinc (v := _ + 1) dX12_load_48 rfl rfl (by decide) ?_
      refine xe_goto (tgt := 20) dX12_load_51 (by decide) ?_
      exact xv.lv (ih hF) (xsub_cons rfl (xsub_cons rfl (xsub_cons rfl xsub_nil)))
    · replace hF := if_n c5 hF
      refine xe_iconst (v := 0) dX12_load_54 (by decide) ?_
      refine xe_istore dX12_load_55 (by decide) ?_
      exact xv.lv (BX12_load_57_ok _ hF) (xsub_cons rfl (xsub_cons rfl (xsub_cons rfl xsub_nil)))
def FX12_load (p0 : Option Nat) (p1 : Int32) (p2 : Int32) (h0 : Hp) : Option (Unit × Hp) :=
  gR h0 p0 11 26 fun v1 =>
  aI h0 v1 .int ((60 * p1) + p2) fun v5 =>
  pI h0 p0 11 29 v5 fun h14 =>
  BX12_load_20 100000 p0 ((60 * p1) + p2) 0 h14
set_option maxRecDepth 100000 in
set_option maxHeartbeats 4000000 in
theorem FX12_load_ok {G : xG} {l : Launch} {p0 : Option Nat} {p1 : Int32} {p2 : Int32} {h0 h1 : Hp} {r : Unit} (hF : FX12_load p0 p1 p2 h0 = some (r, h1)) : xc G l mX12_load 1 0 0 [va_rf p0, .int p1, .int p2] h0 (xP mkV r h1) := by
  refine xo_V [.inr (.inr _), .inl _, .inl _] (by decide) (Nat.le_of_ble_eq_true rfl) rfl ?_
  show xv _ _ _ _ _ _ _ [(0, false, va_rf p0), (1, false, .int p1), (2, false, .int p2)] _ _ _
  unfold FX12_load at hF
  refine xe_bipush (v := 60) dX12_load_0 (by decide) ?_
  refine xe_iload_n dX12_load_2 rfl rfl ?_
  refine xe_imul dX12_load_3 ?_
  refine xe_iload_n dX12_load_4 rfl rfl ?_
  refine xe_iadd dX12_load_5 ?_
  refine xe_istore_n dX12_load_6 rfl (by decide) ?_
  refine xe_aload_n dX12_load_7 rfl rfl ?_
  refine xe_aload_n dX12_load_8 rfl rfl ?_
  obtain ⟨a2, e3, t4, hF⟩ := gR_inv hF
  refine xq_getR dX12_load_9 fl_SeldomOpsModel_81 xk_11 e3 t4 rfl ?_
  refine xe_iload_n dX12_load_12 rfl rfl ?_
  obtain ⟨a6, n7, e8, t9, b10, hF⟩ := aI_inv hF
  refine xq_iald dX12_load_13 e8 t9 b10 ?_
  obtain ⟨a11, e12, t13, hF⟩ := pI_inv hF
  refine xq_putI dX12_load_14 fl_SeldomOpsModel_212 xk_11 (by decide) (fun z => by cases z) e12 t13 (Or.inl rfl) ?_
  refine xe_iconst (v := 0) dX12_load_17 (by decide) ?_
  refine xe_istore dX12_load_18 (by decide) ?_
  exact xv.lv (BX12_load_20_ok _ hF) (xsub_cons rfl (xsub_cons rfl (xsub_cons rfl xsub_nil)))
/-! SeldomOpsModel.isType(I)Z -/
def FX12_isType (p0 : Int32) (h0 : Hp) : Option (Int32 × Hp) :=
  cl (FX12_in (Int32.toInt64 p0) 8 31 h0) fun v1 h2 =>
  if (v1 : Int32) = 0 then
    bz 0 (some (0, h2))
  else
    if ((p0 - p0 / 8 * 8) : Int32) = 4 then
      bz 0 (some (0, h2))
    else
      bz 1 (some (1, h2))
set_option maxRecDepth 100000 in
set_option maxHeartbeats 4000000 in
theorem FX12_isType_ok {G : xG} {l : Launch} {p0 : Int32} {h0 h1 : Hp} {r : Int32} (hF : FX12_isType p0 h0 = some (r, h1)) : xc G l mX12_isType 2 0 0 [.int p0] h0 (xPZ r h1) := by
  refine xo_Z [.inl _] (by decide) (Nat.le_of_ble_eq_true rfl) rfl ?_
  show xv _ _ _ _ _ _ _ [(0, false, .int p0)] _ _ _
  unfold FX12_isType at hF
  refine xe_iload_n dX12_isType_0 rfl rfl ?_
  refine xe_i2l dX12_isType_1 ?_
  refine xe_ldc2 (v := 8) dX12_isType_2 tw_1259 ?_
  refine xe_ldc2 (v := 31) dX12_isType_5 tw_1260 ?_
  obtain ⟨v1, h2, o3, hF⟩ := cl_inv hF
  refine xz (xq_callS (As := [.long _, .long _, .long _]) (rest := []) dX12_isType_8 mk_X12_in ⟨tw_1174, tw_1175⟩ (FX12_in_ok o3) xPZ_q (by decide) (by decide) rfl rfl ?_)
  refine xe_if_eq (tgt := 26) dX12_isType_11 (by decide) (fun c4 => ?_) (fun c4 => ?_)
  · replace hF := if_p c4 hF
    refine xe_iconst (v := 0) dX12_isType_26 (by decide) ?_
    obtain ⟨z5, hF⟩ := bz_inv hF
    exact xe_ireturn dX12_isType_27 (xPZ_ret z5 hF)
  · replace hF := if_n c4 hF
    refine xe_iload_n dX12_isType_14 rfl rfl ?_
    refine xe_bipush (v := 8) dX12_isType_15 (by decide) ?_
    refine xe_irem dX12_isType_17 (by decide) ?_
    refine xe_iconst (v := 4) dX12_isType_18 (by decide) ?_
    refine xe_icmp_eq (tgt := 26) dX12_isType_19 (by decide) (fun c7 => ?_) (fun c7 => ?_)
    · replace hF := if_p c7 hF
      refine xe_iconst (v := 0) dX12_isType_26 (by decide) ?_
      obtain ⟨z8, hF⟩ := bz_inv hF
      exact xe_ireturn dX12_isType_27 (xPZ_ret z8 hF)
    · replace hF := if_n c7 hF
      refine xe_iconst (v := 1) dX12_isType_22 (by decide) ?_
      refine xe_goto (tgt := 27) dX12_isType_23 (by decide) ?_
      obtain ⟨z9, hF⟩ := bz_inv hF
      exact xe_ireturn dX12_isType_27 (xPZ_ret z9 hF)
/-! SeldomOpsModel.isOdd(III)Z -/
def BX12_isOdd_156 (x0 : Option Nat) (x2 : Int32) (h0 : Hp) : Option (Int32 × Hp) :=
  gI h0 x0 11 15 fun v1 =>
  cl (FX12_in (Int32.toInt64 x2) 0 (Int32.toInt64 (v1 - 1)) h0) fun v5 h6 =>
  if (v5 : Int32) = 0 then
    bz 1 (some (1, h6))
  else
    bz 0 (some (0, h6))
set_option maxRecDepth 100000 in
set_option maxHeartbeats 4000000 in
theorem BX12_isOdd_156_ok {G : xG} {l : Launch} {x0 : Option Nat} {x2 : Int32} {h0 h1 : Hp} {r : Int32} (hF : BX12_isOdd_156 x0 x2 h0 = some (r, h1)) : xv G l mX12_isOdd 3 0 0 156 [(0, false, va_rf x0), (2, false, .int x2)] [] h0 (xPZ r h1) := by
  unfold BX12_isOdd_156 at hF
  refine xe_iload_n dX12_isOdd_156 rfl rfl ?_
  refine xe_i2l dX12_isOdd_157 ?_
  refine xe_lconst (v := 0) dX12_isOdd_158 (by decide) ?_
  refine xe_aload_n dX12_isOdd_159 rfl rfl ?_
  obtain ⟨a2, e3, t4, hF⟩ := gI_inv hF
  refine xq_getI dX12_isOdd_160 fl_SeldomOpsModel_184 xk_11 e3 t4 rfl ?_
  refine xe_iconst (v := 1) dX12_isOdd_163 (by decide) ?_
  refine xe_isub dX12_isOdd_164 ?_
  refine xe_i2l dX12_isOdd_165 ?_
  obtain ⟨v5, h6, o7, hF⟩ := cl_inv hF
  refine xz (xq_callS (As := [.long _, .long _, .long _]) (rest := []) dX12_isOdd_166 mk_X12_in ⟨tw_1174, tw_1175⟩ (FX12_in_ok o7) xPZ_q (by decide) (by decide) rfl rfl ?_)
  refine xe_if_ne (tgt := 176) dX12_isOdd_169 (by decide) (fun c8 => ?_) (fun c8 => ?_)
  · replace hF := if_p c8 hF
    refine xe_iconst (v := 1) dX12_isOdd_172 (by decide) ?_
    refine xe_goto (tgt := 177) dX12_isOdd_173 (by decide) ?_
    obtain ⟨z9, hF⟩ := bz_inv hF
    exact xe_ireturn dX12_isOdd_177 (xPZ_ret z9 hF)
  · replace hF := if_n c8 hF
    refine xe_iconst (v := 0) dX12_isOdd_176 (by decide) ?_
    obtain ⟨z10, hF⟩ := bz_inv hF
    exact xe_ireturn dX12_isOdd_177 (xPZ_ret z10 hF)
def BX12_isOdd_178 (x2 : Int32) (x3 : Int32) (h0 : Hp) : Option (Int32 × Hp) :=
  cl (FX12_in (Int32.toInt64 x3) 0 4 h0) fun v1 h2 =>
  if (v1 : Int32) = 0 then
    bz 1 (some (1, h2))
  else
    cl (FX12_wordsOf x3 h2) fun v6 h7 =>
    cl (FX12_in (Int32.toInt64 x2) 0 (Int32.toInt64 (16 - v6)) h7) fun v9 h10 =>
    if (v9 : Int32) = 0 then
      bz 1 (some (1, h10))
    else
      bz 0 (some (0, h10))
set_option maxRecDepth 100000 in
set_option maxHeartbeats 4000000 in
theorem BX12_isOdd_178_ok {G : xG} {l : Launch} {x2 : Int32} {x3 : Int32} {h0 h1 : Hp} {r : Int32} (hF : BX12_isOdd_178 x2 x3 h0 = some (r, h1)) : xv G l mX12_isOdd 3 0 0 178 [(2, false, .int x2), (3, false, .int x3)] [] h0 (xPZ r h1) := by
  unfold BX12_isOdd_178 at hF
  refine xe_iload_n dX12_isOdd_178 rfl rfl ?_
  refine xe_i2l dX12_isOdd_179 ?_
  refine xe_lconst (v := 0) dX12_isOdd_180 (by decide) ?_
  refine xe_ldc2 (v := 4) dX12_isOdd_181 tw_1189 ?_
  obtain ⟨v1, h2, o3, hF⟩ := cl_inv hF
  refine xz (xq_callS (As := [.long _, .long _, .long _]) (rest := []) dX12_isOdd_184 mk_X12_in ⟨tw_1174, tw_1175⟩ (FX12_in_ok o3) xPZ_q (by decide) (by decide) rfl rfl ?_)
  refine xe_if_eq (tgt := 207) dX12_isOdd_187 (by decide) (fun c4 => ?_) (fun c4 => ?_)
  · replace hF := if_p c4 hF
    refine xe_iconst (v := 1) dX12_isOdd_207 (by decide) ?_
    refine xe_goto (tgt := 212) dX12_isOdd_208 (by decide) ?_
    obtain ⟨z5, hF⟩ := bz_inv hF
    exact xe_ireturn dX12_isOdd_212 (xPZ_ret z5 hF)
  · replace hF := if_n c4 hF
    refine xe_iload_n dX12_isOdd_190 rfl rfl ?_
    refine xe_i2l dX12_isOdd_191 ?_
    refine xe_lconst (v := 0) dX12_isOdd_192 (by decide) ?_
    refine xe_bipush (v := 16) dX12_isOdd_193 (by decide) ?_
    refine xe_iload_n dX12_isOdd_195 rfl rfl ?_
    obtain ⟨v6, h7, o8, hF⟩ := cl_inv hF
    refine xz (xq_callS (As := [.int _]) (rest := [.int _, .long _, .long _]) dX12_isOdd_196 mk_X12_wordsOf ⟨tw_1190, tw_1191⟩ (FX12_wordsOf_ok o8) xP_q (by decide) (Nat.le_trans (cs_i (cs_l (cs_l cs_0))) (by decide)) rfl rfl ?_)
    refine xe_isub dX12_isOdd_199 ?_
    refine xe_i2l dX12_isOdd_200 ?_
    obtain ⟨v9, h10, o11, hF⟩ := cl_inv hF
    refine xz (xq_callS (As := [.long _, .long _, .long _]) (rest := []) dX12_isOdd_201 mk_X12_in ⟨tw_1174, tw_1175⟩ (FX12_in_ok o11) xPZ_q (by decide) (by decide) rfl rfl ?_)
    refine xe_if_ne (tgt := 211) dX12_isOdd_204 (by decide) (fun c12 => ?_) (fun c12 => ?_)
    · replace hF := if_p c12 hF
      refine xe_iconst (v := 1) dX12_isOdd_207 (by decide) ?_
      refine xe_goto (tgt := 212) dX12_isOdd_208 (by decide) ?_
      obtain ⟨z13, hF⟩ := bz_inv hF
      exact xe_ireturn dX12_isOdd_212 (xPZ_ret z13 hF)
    · replace hF := if_n c12 hF
      refine xe_iconst (v := 0) dX12_isOdd_211 (by decide) ?_
      obtain ⟨z14, hF⟩ := bz_inv hF
      exact xe_ireturn dX12_isOdd_212 (xPZ_ret z14 hF)
def BX12_isOdd_259 (x2 : Int32) (h0 : Hp) : Option (Int32 × Hp) :=
  cl (FX12_in (Int32.toInt64 x2) 0 4 h0) fun v1 h2 =>
  if (v1 : Int32) = 0 then
    bz 1 (some (1, h2))
  else
    bz 0 (some (0, h2))
set_option maxRecDepth 100000 in
set_option maxHeartbeats 4000000 in
theorem BX12_isOdd_259_ok {G : xG} {l : Launch} {x2 : Int32} {h0 h1 : Hp} {r : Int32} (hF : BX12_isOdd_259 x2 h0 = some (r, h1)) : xv G l mX12_isOdd 3 0 0 259 [(2, false, .int x2)] [] h0 (xPZ r h1) := by
  unfold BX12_isOdd_259 at hF
  refine xe_iload_n dX12_isOdd_259 rfl rfl ?_
  refine xe_i2l dX12_isOdd_260 ?_
  refine xe_lconst (v := 0) dX12_isOdd_261 (by decide) ?_
  refine xe_ldc2 (v := 4) dX12_isOdd_262 tw_1189 ?_
  obtain ⟨v1, h2, o3, hF⟩ := cl_inv hF
  refine xz (xq_callS (As := [.long _, .long _, .long _]) (rest := []) dX12_isOdd_265 mk_X12_in ⟨tw_1174, tw_1175⟩ (FX12_in_ok o3) xPZ_q (by decide) (by decide) rfl rfl ?_)
  refine xe_if_ne (tgt := 275) dX12_isOdd_268 (by decide) (fun c4 => ?_) (fun c4 => ?_)
  · replace hF := if_p c4 hF
    refine xe_iconst (v := 1) dX12_isOdd_271 (by decide) ?_
    refine xe_goto (tgt := 276) dX12_isOdd_272 (by decide) ?_
    obtain ⟨z5, hF⟩ := bz_inv hF
    exact xe_ireturn dX12_isOdd_276 (xPZ_ret z5 hF)
  · replace hF := if_n c4 hF
    refine xe_iconst (v := 0) dX12_isOdd_275 (by decide) ?_
    obtain ⟨z6, hF⟩ := bz_inv hF
    exact xe_ireturn dX12_isOdd_276 (xPZ_ret z6 hF)
def BX12_isOdd_360 (x3 : Int32) (h0 : Hp) : Option (Int32 × Hp) :=
  cl (FX12_in (Int32.toInt64 x3) 0 7 h0) fun v1 h2 =>
  if (v1 : Int32) = 0 then
    bz 1 (some (1, h2))
  else
    bz 0 (some (0, h2))
set_option maxRecDepth 100000 in
set_option maxHeartbeats 4000000 in
theorem BX12_isOdd_360_ok {G : xG} {l : Launch} {x3 : Int32} {h0 h1 : Hp} {r : Int32} (hF : BX12_isOdd_360 x3 h0 = some (r, h1)) : xv G l mX12_isOdd 3 0 0 360 [(3, false, .int x3)] [] h0 (xPZ r h1) := by
  unfold BX12_isOdd_360 at hF
  refine xe_iload_n dX12_isOdd_360 rfl rfl ?_
  refine xe_i2l dX12_isOdd_361 ?_
  refine xe_lconst (v := 0) dX12_isOdd_362 (by decide) ?_
  refine xe_ldc2 (v := 7) dX12_isOdd_363 tw_1261 ?_
  obtain ⟨v1, h2, o3, hF⟩ := cl_inv hF
  refine xz (xq_callS (As := [.long _, .long _, .long _]) (rest := []) dX12_isOdd_366 mk_X12_in ⟨tw_1174, tw_1175⟩ (FX12_in_ok o3) xPZ_q (by decide) (by decide) rfl rfl ?_)
  refine xe_if_ne (tgt := 376) dX12_isOdd_369 (by decide) (fun c4 => ?_) (fun c4 => ?_)
  · replace hF := if_p c4 hF
    refine xe_iconst (v := 1) dX12_isOdd_372 (by decide) ?_
    refine xe_goto (tgt := 377) dX12_isOdd_373 (by decide) ?_
    obtain ⟨z5, hF⟩ := bz_inv hF
    exact xe_ireturn dX12_isOdd_377 (xPZ_ret z5 hF)
  · replace hF := if_n c4 hF
    refine xe_iconst (v := 0) dX12_isOdd_376 (by decide) ?_
    obtain ⟨z6, hF⟩ := bz_inv hF
    exact xe_ireturn dX12_isOdd_377 (xPZ_ret z6 hF)
def BX12_isOdd_378 (x2 : Int32) (h0 : Hp) : Option (Int32 × Hp) :=
  cl (FX12_isType x2 h0) fun v1 h2 =>
  if (v1 : Int32) = 0 then
    bz 1 (some (1, h2))
  else
    bz 0 (some (0, h2))
set_option maxRecDepth 100000 in
set_option maxHeartbeats 4000000 in
theorem BX12_isOdd_378_ok {G : xG} {l : Launch} {x2 : Int32} {h0 h1 : Hp} {r : Int32} (hF : BX12_isOdd_378 x2 h0 = some (r, h1)) : xv G l mX12_isOdd 3 0 0 378 [(2, false, .int x2)] [] h0 (xPZ r h1) := by
  unfold BX12_isOdd_378 at hF
  refine xe_iload_n dX12_isOdd_378 rfl rfl ?_
  obtain ⟨v1, h2, o3, hF⟩ := cl_inv hF
  refine xz (xq_callS (As := [.int _]) (rest := []) dX12_isOdd_379 mk_X12_isType ⟨tw_1256, tw_1257⟩ (FX12_isType_ok o3) xPZ_q (by decide) (by decide) rfl rfl ?_)
  refine xe_if_ne (tgt := 389) dX12_isOdd_382 (by decide) (fun c4 => ?_) (fun c4 => ?_)
  · replace hF := if_p c4 hF
    refine xe_iconst (v := 1) dX12_isOdd_385 (by decide) ?_
    refine xe_goto (tgt := 390) dX12_isOdd_386 (by decide) ?_
    obtain ⟨z5, hF⟩ := bz_inv hF
    exact xe_ireturn dX12_isOdd_390 (xPZ_ret z5 hF)
  · replace hF := if_n c4 hF
    refine xe_iconst (v := 0) dX12_isOdd_389 (by decide) ?_
    obtain ⟨z6, hF⟩ := bz_inv hF
    exact xe_ireturn dX12_isOdd_390 (xPZ_ret z6 hF)
def FX12_isOdd (p0 : Option Nat) (p1 : Int32) (p2 : Int32) (p3 : Int32) (h0 : Hp) : Option (Int32 × Hp) :=
  if (p1 : Int32) = 1 then
    BX12_isOdd_156 p0 p2 h0
  else
  if (p1 : Int32) = 3 then
    BX12_isOdd_156 p0 p2 h0
  else
  if (p1 : Int32) = 5 then
    BX12_isOdd_178 p2 p3 h0
  else
  if (p1 : Int32) = 6 then
    BX12_isOdd_178 p2 p3 h0
  else
  if (p1 : Int32) = 7 then
    cl (FX12_in (Int32.toInt64 p2) 0 15 h0) fun v6 h7 =>
    if (v6 : Int32) = 0 then
      bz 1 (some (1, h7))
    else
      bz 0 (some (0, h7))
  else
  if (p1 : Int32) = 17 then
    cl (FX12_in (Int32.toInt64 p2) 0 11 h0) fun v13 h14 =>
    if (v13 : Int32) = 0 then
      bz 1 (some (1, h14))
    else
      cl (FX12_in (Int32.toInt64 p3) 0 1 h14) fun v18 h19 =>
      if (v18 : Int32) = 0 then
        bz 1 (some (1, h19))
      else
        bz 0 (some (0, h19))
  else
  if (p1 : Int32) = 18 then
    BX12_isOdd_259 p2 h0
  else
  if (p1 : Int32) = 19 then
    BX12_isOdd_259 p2 h0
  else
  if (p1 : Int32) = 21 then
    cl (FX12_in (Int32.toInt64 p3) 0 5 h0) fun v27 h28 =>
    if (v27 : Int32) = 0 then
      bz 1 (some (1, h28))
    else
      bz 0 (some (0, h28))
  else
  if (p1 : Int32) = 22 then
    cl (FX12_in (Int32.toInt64 p3) 0 1 h0) fun v34 h35 =>
    if (v34 : Int32) = 0 then
      bz 1 (some (1, h35))
    else
      bz 0 (some (0, h35))
  else
  if (p1 : Int32) = 23 then
    gI h0 p0 11 17 fun v41 =>
    cl (FX12_in (Int32.toInt64 p2) 0 (Int32.toInt64 (v41 - 1)) h0) fun v45 h46 =>
    if (v45 : Int32) = 0 then
      bz 1 (some (1, h46))
    else
      bz 0 (some (0, h46))
  else
  if (p1 : Int32) = 24 then
    cl (FX12_isType p2 h0) fun v52 h53 =>
    if (v52 : Int32) = 0 then
      bz 1 (some (1, h53))
    else
      cl (FX12_in (Int32.toInt64 p3) 1 (Int32.toInt64 (p2 / 8)) h53) fun v58 h59 =>
      if (v58 : Int32) = 0 then
        bz 1 (some (1, h59))
      else
        bz 0 (some (0, h59))
  else
  if (p1 : Int32) = 25 then
    BX12_isOdd_360 p3 h0
  else
  if (p1 : Int32) = 26 then
    BX12_isOdd_360 p3 h0
  else
  if (p1 : Int32) = 28 then
    BX12_isOdd_378 p2 h0
  else
  if (p1 : Int32) = 29 then
    BX12_isOdd_378 p2 h0
  else
  if (p1 : Int32) = 30 then
    cl (FX12_in (Int32.toInt64 p2) 0 15 h0) fun v69 h70 =>
    if (v69 : Int32) = 0 then
      bz 1 (some (1, h70))
    else
      bz 0 (some (0, h70))
  else
  if (p1 : Int32) = 34 then
    cl (FX12_in (Int32.toInt64 p2) 0 5 h0) fun v76 h77 =>
    if (v76 : Int32) = 0 then
      bz 1 (some (1, h77))
    else
      bz 0 (some (0, h77))
  else
  if (p1 : Int32) = 35 then
    rcv h0 p0 11 <|
    cl (FX12_isMethod p0 p2 h0) fun v83 h84 =>
    if (v83 : Int32) = 0 then
      bz 1 (some (1, h84))
    else
      bz 0 (some (0, h84))
  else
  bz 0 (some (0, h0))
set_option maxRecDepth 100000 in
set_option maxHeartbeats 4000000 in
theorem FX12_isOdd_ok {G : xG} {l : Launch} {p0 : Option Nat} {p1 : Int32} {p2 : Int32} {p3 : Int32} {h0 h1 : Hp} {r : Int32} (hF : FX12_isOdd p0 p1 p2 p3 h0 = some (r, h1)) : xc G l mX12_isOdd 3 0 0 [va_rf p0, .int p1, .int p2, .int p3] h0 (xPZ r h1) := by
  refine xo_Z [.inr (.inr _), .inl _, .inl _, .inl _] (by decide) (Nat.le_of_ble_eq_true rfl) rfl ?_
  show xv _ _ _ _ _ _ _ [(0, false, va_rf p0), (1, false, .int p1), (2, false, .int p2), (3, false, .int p3)] _ _ _
  unfold FX12_isOdd at hF
  refine xe_iload_n dX12_isOdd_0 rfl rfl ?_
  refine xs_case (j := 1) (tgt := 156) dX12_isOdd_1 (by decide) (by decide) rfl (by decide) (fun c1 => ?_) (fun c1 => ?_)
  · replace hF := if_p c1 hF
    exact xv.lv (BX12_isOdd_156_ok hF) (xsub_cons rfl (xsub_cons rfl xsub_nil))
  replace hF := if_n c1 hF
  refine xs_case (j := 3) (tgt := 156) dX12_isOdd_1 (by decide) (by decide) rfl (by decide) (fun c2 => ?_) (fun c2 => ?_)
  · replace hF := if_p c2 hF
    exact xv.lv (BX12_isOdd_156_ok hF) (xsub_cons rfl (xsub_cons rfl xsub_nil))
  replace hF := if_n c2 hF
  refine xs_case (j := 5) (tgt := 178) dX12_isOdd_1 (by decide) (by decide) rfl (by decide) (fun c3 => ?_) (fun c3 => ?_)
  · replace hF := if_p c3 hF
    exact xv.lv (BX12_isOdd_178_ok hF) (xsub_cons rfl (xsub_cons rfl xsub_nil))
  replace hF := if_n c3 hF
  refine xs_case (j := 6) (tgt := 178) dX12_isOdd_1 (by decide) (by decide) rfl (by decide) (fun c4 => ?_) (fun c4 => ?_)
  · replace hF := if_p c4 hF
    exact xv.lv (BX12_isOdd_178_ok hF) (xsub_cons rfl (xsub_cons rfl xsub_nil))
  replace hF := if_n c4 hF
  refine xs_case (j := 7) (tgt := 213) dX12_isOdd_1 (by decide) (by decide) rfl (by decide) (fun c5 => ?_) (fun c5 => ?_)
  · replace hF := if_p c5 hF
    refine xe_iload_n dX12_isOdd_213 rfl rfl ?_
    refine xe_i2l dX12_isOdd_214 ?_
    refine xe_lconst (v := 0) dX12_isOdd_215 (by decide) ?_
    refine xe_ldc2 (v := 15) dX12_isOdd_216 tw_1210 ?_
    obtain ⟨v6, h7, o8, hF⟩ := cl_inv hF
    refine xz (xq_callS (As := [.long _, .long _, .long _]) (rest := []) dX12_isOdd_219 mk_X12_in ⟨tw_1174, tw_1175⟩ (FX12_in_ok o8) xPZ_q (by decide) (by decide) rfl rfl ?_)
    refine xe_if_ne (tgt := 229) dX12_isOdd_222 (by decide) (fun c9 => ?_) (fun c9 => ?_)
    · replace hF := if_p c9 hF
      refine xe_iconst (v := 1) dX12_isOdd_225 (by decide) ?_
      refine xe_goto (tgt := 230) dX12_isOdd_226 (by decide) ?_
      obtain ⟨z10, hF⟩ := bz_inv hF
      exact xe_ireturn dX12_isOdd_230 (xPZ_ret z10 hF)
    · replace hF := if_n c9 hF
      refine xe_iconst (v := 0) dX12_isOdd_229 (by decide) ?_
      obtain ⟨z11, hF⟩ := bz_inv hF
      exact xe_ireturn dX12_isOdd_230 (xPZ_ret z11 hF)
  replace hF := if_n c5 hF
  refine xs_case (j := 17) (tgt := 231) dX12_isOdd_1 (by decide) (by decide) rfl (by decide) (fun c12 => ?_) (fun c12 => ?_)
  · replace hF := if_p c12 hF
    refine xe_iload_n dX12_isOdd_231 rfl rfl ?_
    refine xe_i2l dX12_isOdd_232 ?_
    refine xe_lconst (v := 0) dX12_isOdd_233 (by decide) ?_
    refine xe_ldc2 (v := 11) dX12_isOdd_234 tw_1255 ?_
    obtain ⟨v13, h14, o15, hF⟩ := cl_inv hF
    refine xz (xq_callS (As := [.long _, .long _, .long _]) (rest := []) dX12_isOdd_237 mk_X12_in ⟨tw_1174, tw_1175⟩ (FX12_in_ok o15) xPZ_q (by decide) (by decide) rfl rfl ?_)
    refine xe_if_eq (tgt := 253) dX12_isOdd_240 (by decide) (fun c16 => ?_) (fun c16 => ?_)
    · replace hF := if_p c16 hF
      refine xe_iconst (v := 1) dX12_isOdd_253 (by decide) ?_
      refine xe_goto (tgt := 258) dX12_isOdd_254 (by decide) ?_
      obtain ⟨z17, hF⟩ := bz_inv hF
      exact xe_ireturn dX12_isOdd_258 (xPZ_ret z17 hF)
    · replace hF := if_n c16 hF
      refine xe_iload_n dX12_isOdd_243 rfl rfl ?_
      refine xe_i2l dX12_isOdd_244 ?_
      refine xe_lconst (v := 0) dX12_isOdd_245 (by decide) ?_
      refine xe_lconst (v := 1) dX12_isOdd_246 (by decide) ?_
      obtain ⟨v18, h19, o20, hF⟩ := cl_inv hF
      refine xz (xq_callS (As := [.long _, .long _, .long _]) (rest := []) dX12_isOdd_247 mk_X12_in ⟨tw_1174, tw_1175⟩ (FX12_in_ok o20) xPZ_q (by decide) (by decide) rfl rfl ?_)
      refine xe_if_ne (tgt := 257) dX12_isOdd_250 (by decide) (fun c21 => ?_) (fun c21 => ?_)
      · replace hF := if_p c21 hF
        refine xe_iconst (v := 1) dX12_isOdd_253 (by decide) ?_
        refine xe_goto (tgt := 258) dX12_isOdd_254 (by decide) ?_
        obtain ⟨z22, hF⟩ := bz_inv hF
        exact xe_ireturn dX12_isOdd_258 (xPZ_ret z22 hF)
      · replace hF := if_n c21 hF
        refine xe_iconst (v := 0) dX12_isOdd_257 (by decide) ?_
        obtain ⟨z23, hF⟩ := bz_inv hF
        exact xe_ireturn dX12_isOdd_258 (xPZ_ret z23 hF)
  replace hF := if_n c12 hF
  refine xs_case (j := 18) (tgt := 259) dX12_isOdd_1 (by decide) (by decide) rfl (by decide) (fun c24 => ?_) (fun c24 => ?_)
  · replace hF := if_p c24 hF
    exact xv.lv (BX12_isOdd_259_ok hF) (xsub_cons rfl xsub_nil)
  replace hF := if_n c24 hF
  refine xs_case (j := 19) (tgt := 259) dX12_isOdd_1 (by decide) (by decide) rfl (by decide) (fun c25 => ?_) (fun c25 => ?_)
  · replace hF := if_p c25 hF
    exact xv.lv (BX12_isOdd_259_ok hF) (xsub_cons rfl xsub_nil)
  replace hF := if_n c25 hF
  refine xs_case (j := 21) (tgt := 277) dX12_isOdd_1 (by decide) (by decide) rfl (by decide) (fun c26 => ?_) (fun c26 => ?_)
  · replace hF := if_p c26 hF
    refine xe_iload_n dX12_isOdd_277 rfl rfl ?_
    refine xe_i2l dX12_isOdd_278 ?_
    refine xe_lconst (v := 0) dX12_isOdd_279 (by decide) ?_
    refine xe_ldc2 (v := 5) dX12_isOdd_280 tw_1173 ?_
    obtain ⟨v27, h28, o29, hF⟩ := cl_inv hF
    refine xz (xq_callS (As := [.long _, .long _, .long _]) (rest := []) dX12_isOdd_283 mk_X12_in ⟨tw_1174, tw_1175⟩ (FX12_in_ok o29) xPZ_q (by decide) (by decide) rfl rfl ?_)
    refine xe_if_ne (tgt := 293) dX12_isOdd_286 (by decide) (fun c30 => ?_) (fun c30 => ?_)
    · replace hF := if_p c30 hF
      refine xe_iconst (v := 1) dX12_isOdd_289 (by decide) ?_
      refine xe_goto (tgt := 294) dX12_isOdd_290 (by decide) ?_
      obtain ⟨z31, hF⟩ := bz_inv hF
      exact xe_ireturn dX12_isOdd_294 (xPZ_ret z31 hF)
    · replace hF := if_n c30 hF
      refine xe_iconst (v := 0) dX12_isOdd_293 (by decide) ?_
      obtain ⟨z32, hF⟩ := bz_inv hF
      exact xe_ireturn dX12_isOdd_294 (xPZ_ret z32 hF)
  replace hF := if_n c26 hF
  refine xs_case (j := 22) (tgt := 295) dX12_isOdd_1 (by decide) (by decide) rfl (by decide) (fun c33 => ?_) (fun c33 => ?_)
  · replace hF := if_p c33 hF
    refine xe_iload_n dX12_isOdd_295 rfl rfl ?_
    refine xe_i2l dX12_isOdd_296 ?_
    refine xe_lconst (v := 0) dX12_isOdd_297 (by decide) ?_
    refine xe_lconst (v := 1) dX12_isOdd_298 (by decide) ?_
    obtain ⟨v34, h35, o36, hF⟩ := cl_inv hF
    refine xz (xq_callS (As := [.long _, .long _, .long _]) (rest := []) dX12_isOdd_299 mk_X12_in ⟨tw_1174, tw_1175⟩ (FX12_in_ok o36) xPZ_q (by decide) (by decide) rfl rfl ?_)
    refine xe_if_ne (tgt := 309) dX12_isOdd_302 (by decide) (fun c37 => ?_) (fun c37 => ?_)
    · replace hF := if_p c37 hF
      refine xe_iconst (v := 1) dX12_isOdd_305 (by decide) ?_
      refine xe_goto (tgt := 310) dX12_isOdd_306 (by decide) ?_
      obtain ⟨z38, hF⟩ := bz_inv hF
      exact xe_ireturn dX12_isOdd_310 (xPZ_ret z38 hF)
    · replace hF := if_n c37 hF
      refine xe_iconst (v := 0) dX12_isOdd_309 (by decide) ?_
      obtain ⟨z39, hF⟩ := bz_inv hF
      exact xe_ireturn dX12_isOdd_310 (xPZ_ret z39 hF)
  replace hF := if_n c33 hF
  refine xs_case (j := 23) (tgt := 311) dX12_isOdd_1 (by decide) (by decide) rfl (by decide) (fun c40 => ?_) (fun c40 => ?_)
  · replace hF := if_p c40 hF
    refine xe_iload_n dX12_isOdd_311 rfl rfl ?_
    refine xe_i2l dX12_isOdd_312 ?_
    refine xe_lconst (v := 0) dX12_isOdd_313 (by decide) ?_
    refine xe_aload_n dX12_isOdd_314 rfl rfl ?_
    obtain ⟨a42, e43, t44, hF⟩ := gI_inv hF
    refine xq_getI dX12_isOdd_315 fl_SeldomOpsModel_187 xk_11 e43 t44 rfl ?_
    refine xe_iconst (v := 1) dX12_isOdd_318 (by decide) ?_
    refine xe_isub dX12_isOdd_319 ?_
    refine xe_i2l dX12_isOdd_320 ?_
    obtain ⟨v45, h46, o47, hF⟩ := cl_inv hF
    refine xz (xq_callS (As := [.long _, .long _, .long _]) (rest := []) dX12_isOdd_321 mk_X12_in ⟨tw_1174, tw_1175⟩ (FX12_in_ok o47) xPZ_q (by decide) (by decide) rfl rfl ?_)
    refine xe_if_ne (tgt := 331) dX12_isOdd_324 (by decide) (fun c48 => ?_) (fun c48 => ?_)
    · replace hF := if_p c48 hF
      refine xe_iconst (v := 1) dX12_isOdd_327 (by decide) ?_
      refine xe_goto (tgt := 332) dX12_isOdd_328 (by decide) ?_
      obtain ⟨z49, hF⟩ := bz_inv hF
      exact xe_ireturn dX12_isOdd_332 (xPZ_ret z49 hF)
    · replace hF := if_n c48 hF
      refine xe_iconst (v := 0) dX12_isOdd_331 (by decide) ?_
      obtain ⟨z50, hF⟩ := bz_inv hF
      exact xe_ireturn dX12_isOdd_332 (xPZ_ret z50 hF)
  replace hF := if_n c40 hF
  refine xs_case (j := 24) (tgt := 333) dX12_isOdd_1 (by decide) (by decide) rfl (by decide) (fun c51 => ?_) (fun c51 => ?_)
  · replace hF := if_p c51 hF
    refine xe_iload_n dX12_isOdd_333 rfl rfl ?_
    obtain ⟨v52, h53, o54, hF⟩ := cl_inv hF
    refine xz (xq_callS (As := [.int _]) (rest := []) dX12_isOdd_334 mk_X12_isType ⟨tw_1256, tw_1257⟩ (FX12_isType_ok o54) xPZ_q (by decide) (by decide) rfl rfl ?_)
    refine xe_if_eq (tgt := 354) dX12_isOdd_337 (by decide) (fun c55 => ?_) (fun c55 => ?_)
    · replace hF := if_p c55 hF
      refine xe_iconst (v := 1) dX12_isOdd_354 (by decide) ?_
      refine xe_goto (tgt := 359) dX12_isOdd_355 (by decide) ?_
      obtain ⟨z56, hF⟩ := bz_inv hF
      exact xe_ireturn dX12_isOdd_359 (xPZ_ret z56 hF)
    · replace hF := if_n c55 hF
      refine xe_iload_n dX12_isOdd_340 rfl rfl ?_
      refine xe_i2l dX12_isOdd_341 ?_
      refine xe_lconst (v := 1) dX12_isOdd_342 (by decide) ?_
      refine xe_iload_n dX12_isOdd_343 rfl rfl ?_
      refine xe_bipush (v := 8) dX12_isOdd_344 (by decide) ?_
      refine xe_idiv dX12_isOdd_346 (by decide) ?_
      refine xe_i2l dX12_isOdd_347 ?_
      obtain ⟨v58, h59, o60, hF⟩ := cl_inv hF
      refine xz (xq_callS (As := [.long _, .long _, .long _]) (rest := []) dX12_isOdd_348 mk_X12_in ⟨tw_1174, tw_1175⟩ (FX12_in_ok o60) xPZ_q (by decide) (by decide) rfl rfl ?_)
      refine xe_if_ne (tgt := 358) dX12_isOdd_351 (by decide) (fun c61 => ?_) (fun c61 => ?_)
      · replace hF := if_p c61 hF
        refine xe_iconst (v := 1) dX12_isOdd_354 (by decide) ?_
        refine xe_goto (tgt := 359) dX12_isOdd_355 (by decide) ?_
        obtain ⟨z62, hF⟩ := bz_inv hF
        exact xe_ireturn dX12_isOdd_359 (xPZ_ret z62 hF)
      · replace hF := if_n c61 hF
        refine xe_iconst (v := 0) dX12_isOdd_358 (by decide) ?_
        obtain ⟨z63, hF⟩ := bz_inv hF
        exact xe_ireturn dX12_isOdd_359 (xPZ_ret z63 hF)
  replace hF := if_n c51 hF
  refine xs_case (j := 25) (tgt := 360) dX12_isOdd_1 (by decide) (by decide) rfl (by decide) (fun c64 => ?_) (fun c64 => ?_)
  · replace hF := if_p c64 hF
    exact xv.lv (BX12_isOdd_360_ok hF) (xsub_cons rfl xsub_nil)
  replace hF := if_n c64 hF
  refine xs_case (j := 26) (tgt := 360) dX12_isOdd_1 (by decide) (by decide) rfl (by decide) (fun c65 => ?_) (fun c65 => ?_)
  · replace hF := if_p c65 hF
    exact xv.lv (BX12_isOdd_360_ok hF) (xsub_cons rfl xsub_nil)
  replace hF := if_n c65 hF
  refine xs_case (j := 28) (tgt := 378) dX12_isOdd_1 (by decide) (by decide) rfl (by decide) (fun c66 => ?_) (fun c66 => ?_)
  · replace hF := if_p c66 hF
    exact xv.lv (BX12_isOdd_378_ok hF) (xsub_cons rfl xsub_nil)
  replace hF := if_n c66 hF
  refine xs_case (j := 29) (tgt := 378) dX12_isOdd_1 (by decide) (by decide) rfl (by decide) (fun c67 => ?_) (fun c67 => ?_)
  · replace hF := if_p c67 hF
    exact xv.lv (BX12_isOdd_378_ok hF) (xsub_cons rfl xsub_nil)
  replace hF := if_n c67 hF
  refine xs_case (j := 30) (tgt := 391) dX12_isOdd_1 (by decide) (by decide) rfl (by decide) (fun c68 => ?_) (fun c68 => ?_)
  · replace hF := if_p c68 hF
    refine xe_iload_n dX12_isOdd_391 rfl rfl ?_
    refine xe_i2l dX12_isOdd_392 ?_
    refine xe_lconst (v := 0) dX12_isOdd_393 (by decide) ?_
    refine xe_ldc2 (v := 15) dX12_isOdd_394 tw_1210 ?_
    obtain ⟨v69, h70, o71, hF⟩ := cl_inv hF
    refine xz (xq_callS (As := [.long _, .long _, .long _]) (rest := []) dX12_isOdd_397 mk_X12_in ⟨tw_1174, tw_1175⟩ (FX12_in_ok o71) xPZ_q (by decide) (by decide) rfl rfl ?_)
    refine xe_if_ne (tgt := 407) dX12_isOdd_400 (by decide) (fun c72 => ?_) (fun c72 => ?_)
    · replace hF := if_p c72 hF
      refine xe_iconst (v := 1) dX12_isOdd_403 (by decide) ?_
      refine xe_goto (tgt := 408) dX12_isOdd_404 (by decide) ?_
      obtain ⟨z73, hF⟩ := bz_inv hF
      exact xe_ireturn dX12_isOdd_408 (xPZ_ret z73 hF)
    · replace hF := if_n c72 hF
      refine xe_iconst (v := 0) dX12_isOdd_407 (by decide) ?_
      obtain ⟨z74, hF⟩ := bz_inv hF
      exact xe_ireturn dX12_isOdd_408 (xPZ_ret z74 hF)
  replace hF := if_n c68 hF
  refine xs_case (j := 34) (tgt := 409) dX12_isOdd_1 (by decide) (by decide) rfl (by decide) (fun c75 => ?_) (fun c75 => ?_)
  · replace hF := if_p c75 hF
    refine xe_iload_n dX12_isOdd_409 rfl rfl ?_
    refine xe_i2l dX12_isOdd_410 ?_
    refine xe_lconst (v := 0) dX12_isOdd_411 (by decide) ?_
    refine xe_ldc2 (v := 5) dX12_isOdd_412 tw_1173 ?_
    obtain ⟨v76, h77, o78, hF⟩ := cl_inv hF
    refine xz (xq_callS (As := [.long _, .long _, .long _]) (rest := []) dX12_isOdd_415 mk_X12_in ⟨tw_1174, tw_1175⟩ (FX12_in_ok o78) xPZ_q (by decide) (by decide) rfl rfl ?_)
    refine xe_if_ne (tgt := 425) dX12_isOdd_418 (by decide) (fun c79 => ?_) (fun c79 => ?_)
    · replace hF := if_p c79 hF
      refine xe_iconst (v := 1) dX12_isOdd_421 (by decide) ?_
      refine xe_goto (tgt := 426) dX12_isOdd_422 (by decide) ?_
      obtain ⟨z80, hF⟩ := bz_inv hF
      exact xe_ireturn dX12_isOdd_426 (xPZ_ret z80 hF)
    · replace hF := if_n c79 hF
      refine xe_iconst (v := 0) dX12_isOdd_425 (by decide) ?_
      obtain ⟨z81, hF⟩ := bz_inv hF
      exact xe_ireturn dX12_isOdd_426 (xPZ_ret z81 hF)
  replace hF := if_n c75 hF
  refine xs_case (j := 35) (tgt := 427) dX12_isOdd_1 (by decide) (by decide) rfl (by decide) (fun c82 => ?_) (fun c82 => ?_)
  · replace hF := if_p c82 hF
    refine xe_aload_n dX12_isOdd_427 rfl rfl ?_
    refine xe_iload_n dX12_isOdd_428 rfl rfl ?_
    obtain ⟨a88, e86, t87, hF⟩ := rcv_inv hF
    obtain ⟨v83, h84, o85, hF⟩ := cl_inv hF
    refine xz (xq_callV (As := [.int _]) (rest := []) dX12_isOdd_429 mk_X12_isMethod ⟨tw_1185, tw_1187, ts_38⟩ (ci := 11) rfl e86 t87 (FX12_isMethod_ok o85) xPZ_q (by decide) (by decide) rfl rfl ?_)
    refine xe_if_ne (tgt := 439) dX12_isOdd_432 (by decide) (fun c89 => ?_) (fun c89 => ?_)
    · replace hF := if_p c89 hF
      refine xe_iconst (v := 1) dX12_isOdd_435 (by decide) ?_
      refine xe_goto (tgt := 440) dX12_isOdd_436 (by decide) ?_
      obtain ⟨z90, hF⟩ := bz_inv hF
      exact xe_ireturn dX12_isOdd_440 (xPZ_ret z90 hF)
    · replace hF := if_n c89 hF
      refine xe_iconst (v := 0) dX12_isOdd_439 (by decide) ?_
      obtain ⟨z91, hF⟩ := bz_inv hF
      exact xe_ireturn dX12_isOdd_440 (xPZ_ret z91 hF)
  replace hF := if_n c82 hF
  refine xs_rest (tgt := 441) [1, 3, 5, 6, 7, 17, 18, 19, 21, 22, 23, 24, 25, 26, 28, 29, 30, 34, 35] dX12_isOdd_1 (by decide) (List.forall_mem_cons.mpr ⟨c1, List.forall_mem_cons.mpr ⟨c2, List.forall_mem_cons.mpr ⟨c3, List.forall_mem_cons.mpr ⟨c4, List.forall_mem_cons.mpr ⟨c5, List.forall_mem_cons.mpr ⟨c12, List.forall_mem_cons.mpr ⟨c24, List.forall_mem_cons.mpr ⟨c25, List.forall_mem_cons.mpr ⟨c26, List.forall_mem_cons.mpr ⟨c33, List.forall_mem_cons.mpr ⟨c40, List.forall_mem_cons.mpr ⟨c51, List.forall_mem_cons.mpr ⟨c64, List.forall_mem_cons.mpr ⟨c65, List.forall_mem_cons.mpr ⟨c66, List.forall_mem_cons.mpr ⟨c67, List.forall_mem_cons.mpr ⟨c68, List.forall_mem_cons.mpr ⟨c75, List.forall_mem_cons.mpr ⟨c82, fun _ h => by cases h⟩⟩⟩⟩⟩⟩⟩⟩⟩⟩⟩⟩⟩⟩⟩⟩⟩⟩⟩) (by decide) ?_
  refine xe_iconst (v := 0) dX12_isOdd_441 (by decide) ?_
  obtain ⟨z92, hF⟩ := bz_inv hF
  exact xe_ireturn dX12_isOdd_442 (xPZ_ret z92 hF)
/-! SeldomOpsModel.wrong(III)I -/
def FX12_wrong (p0 : Option Nat) (p1 : Int32) (p2 : Int32) (p3 : Int32) (h0 : Hp) : Option (Int32 × Hp) :=
  pI h0 p0 11 32 p1 fun h4 =>
  pI h4 p0 11 33 p2 fun h9 =>
  some (((-10) - p3), h9)
set_option maxRecDepth 100000 in
set_option maxHeartbeats 4000000 in
theorem FX12_wrong_ok {G : xG} {l : Launch} {p0 : Option Nat} {p1 : Int32} {p2 : Int32} {p3 : Int32} {h0 h1 : Hp} {r : Int32} (hF : FX12_wrong p0 p1 p2 p3 h0 = some (r, h1)) : xc G l mX12_wrong 1 0 0 [va_rf p0, .int p1, .int p2, .int p3] h0 (xP mkI r h1) := by
  refine xo_I [.inr (.inr _), .inl _, .inl _, .inl _] (by decide) (Nat.le_of_ble_eq_true rfl) rfl ?_
  show xv _ _ _ _ _ _ _ [(0, false, va_rf p0), (1, false, .int p1), (2, false, .int p2), (3, false, .int p3)] _ _ _
  unfold FX12_wrong at hF
  refine xe_aload_n dX12_wrong_0 rfl rfl ?_
  refine xe_iload_n dX12_wrong_1 rfl rfl ?_
  obtain ⟨a1, e2, t3, hF⟩ := pI_inv hF
  refine xq_putI dX12_wrong_2 fl_SeldomOpsModel_96 xk_11 (by decide) (fun z => by cases z) e2 t3 (Or.inl rfl) ?_
  refine xe_aload_n dX12_wrong_5 rfl rfl ?_
  refine xe_iload_n dX12_wrong_6 rfl rfl ?_
  obtain ⟨a6, e7, t8, hF⟩ := pI_inv hF
  refine xq_putI dX12_wrong_7 fl_SeldomOpsModel_100 xk_11 (by decide) (fun z => by cases z) e7 t8 (Or.inl rfl) ?_
  refine xe_bipush (v := (-10)) dX12_wrong_10 (by decide) ?_
  refine xe_iload_n dX12_wrong_12 rfl rfl ?_
  refine xe_isub dX12_wrong_13 ?_
  exact xe_ireturn dX12_wrong_14 (xP_ret (mk := mkI) hF)
/-! SeldomOpsModel.isLost(IIII)Z -/
def BX12_isLost_174 (k126 : Option Nat → Int32 → Int32 → Int32 → Int32 → Int32 → Hp → Option (Int32 × Hp)) (x0 : Option Nat) (x1 : Int32) (x2 : Int32) (x5 : Int32) (x7 : Int32) (s0 : Int32) (h0 : Hp) : Option (Int32 × Hp) :=
  k126 x0 x1 x2 x5 s0 (x7 + 1) h0
set_option maxRecDepth 100000 in
set_option maxHeartbeats 4000000 in
theorem BX12_isLost_174_ok {G : xG} {l : Launch} {k126 : Option Nat → Int32 → Int32 → Int32 → Int32 → Int32 → Hp → Option (Int32 × Hp)} (hk126 : ∀ {x0 : Option Nat} {x1 : Int32} {x2 : Int32} {x5 : Int32} {x6 : Int32} {x7 : Int32} {h0 h1 : Hp} {r : Int32}, k126 x0 x1 x2 x5 x6 x7 h0 = some (r, h1) → xv G l mX12_isLost 3 0 0 126 [(0, false, va_rf x0), (1, false, .int x1), (2, false, .int x2), (5, false, .int x5), (6, false, .int x6), (7, false, .int x7)] [] h0 (xPZ r h1)) {x0 : Option Nat} {x1 : Int32} {x2 : Int32} {x5 : Int32} {x7 : Int32} {s0 : Int32} {h0 h1 : Hp} {r : Int32} (hF : BX12_isLost_174 k126 x0 x1 x2 x5 x7 s0 h0 = some (r, h1)) : xv G l mX12_isLost 3 0 0 174 [(0, false, va_rf x0), (1, false, .int x1), (2, false, .int x2), (5, false, .int x5), (7, false, .int x7)] [.int s0] h0 (xPZ r h1) := by
  unfold BX12_isLost_174 at hF
  refine xe_istore dX12_isLost_174 (by decide) ?_
  refine xe_iinc (v := _ + 1) dX12_isLost_176 rfl rfl (by decide) ?_
  refine xe_goto (tgt := 126) dX12_isLost_179 (by decide) ?_
  exact xv.lv (hk126 hF) (xsub_cons rfl (xsub_cons rfl (xsub_cons rfl (xsub_cons rfl (xsub_cons rfl (xsub_cons rfl xsub_nil))))))
def BX12_isLost_173 (k126 : Option Nat → Int32 → Int32 → Int32 → Int32 → Int32 → Hp → Option (Int32 × Hp)) (x0 : Option Nat) (x1 : Int32) (x2 : Int32) (x5 : Int32) (x7 : Int32) (h0 : Hp) : Option (Int32 × Hp) :=
  BX12_isLost_174 k126 x0 x1 x2 x5 x7 0 h0
set_option maxRecDepth 100000 in
set_option maxHeartbeats 4000000 in
theorem BX12_isLost_173_ok {G : xG} {l : Launch} {k126 : Option Nat → Int32 → Int32 → Int32 → Int32 → Int32 → Hp → Option (Int32 × Hp)} (hk126 : ∀ {x0 : Option Nat} {x1 : Int32} {x2 : Int32} {x5 : Int32} {x6 : Int32} {x7 : Int32} {h0 h1 : Hp} {r : Int32}, k126 x0 x1 x2 x5 x6 x7 h0 = some (r, h1) → xv G l mX12_isLost 3 0 0 126 [(0, false, va_rf x0), (1, false, .int x1), (2, false, .int x2), (5, false, .int x5), (6, false, .int x6), (7, false, .int x7)] [] h0 (xPZ r h1)) {x0 : Option Nat} {x1 : Int32} {x2 : Int32} {x5 : Int32} {x7 : Int32} {h0 h1 : Hp} {r : Int32} (hF : BX12_isLost_173 k126 x0 x1 x2 x5 x7 h0 = some (r, h1)) : xv G l mX12_isLost 3 0 0 173 [(0, false, va_rf x0), (1, false, .int x1), (2, false, .int x2), (5, false, .int x5), (7, false, .int x7)] [] h0 (xPZ r h1) := by
  unfold BX12_isLost_173 at hF
  refine xe_iconst (v := 0) dX12_isLost_173 (by decide) ?_
  exact xv.lv (BX12_isLost_174_ok hk126 hF) (xsub_cons rfl (xsub_cons rfl (xsub_cons rfl (xsub_cons rfl (xsub_cons rfl xsub_nil)))))
def BX12_isLost_169 (k126 : Option Nat → Int32 → Int32 → Int32 → Int32 → Int32 → Hp → Option (Int32 × Hp)) (x0 : Option Nat) (x1 : Int32) (x2 : Int32) (x5 : Int32) (x7 : Int32) (h0 : Hp) : Option (Int32 × Hp) :=
  BX12_isLost_174 k126 x0 x1 x2 x5 x7 1 h0
set_option maxRecDepth 100000 in
set_option maxHeartbeats 4000000 in
theorem BX12_isLost_169_ok {G : xG} {l : Launch} {k126 : Option Nat → Int32 → Int32 → Int32 → Int32 → Int32 → Hp → Option (Int32 × Hp)} (hk126 : ∀ {x0 : Option Nat} {x1 : Int32} {x2 : Int32} {x5 : Int32} {x6 : Int32} {x7 : Int32} {h0 h1 : Hp} {r : Int32}, k126 x0 x1 x2 x5 x6 x7 h0 = some (r, h1) → xv G l mX12_isLost 3 0 0 126 [(0, false, va_rf x0), (1, false, .int x1), (2, false, .int x2), (5, false, .int x5), (6, false, .int x6), (7, false, .int x7)] [] h0 (xPZ r h1)) {x0 : Option Nat} {x1 : Int32} {x2 : Int32} {x5 : Int32} {x7 : Int32} {h0 h1 : Hp} {r : Int32} (hF : BX12_isLost_169 k126 x0 x1 x2 x5 x7 h0 = some (r, h1)) : xv G l mX12_isLost 3 0 0 169 [(0, false, va_rf x0), (1, false, .int x1), (2, false, .int x2), (5, false, .int x5), (7, false, .int x7)] [] h0 (xPZ r h1) := by
  unfold BX12_isLost_169 at hF
  refine xe_iconst (v := 1) dX12_isLost_169 (by decide) ?_
  refine xe_goto (tgt := 174) dX12_isLost_170 (by decide) ?_
  exact xv.lv (BX12_isLost_174_ok hk126 hF) (xsub_cons rfl (xsub_cons rfl (xsub_cons rfl (xsub_cons rfl (xsub_cons rfl xsub_nil)))))
def BX12_isLost_126 : Nat → Option Nat → Int32 → Int32 → Int32 → Int32 → Int32 → Hp → Option (Int32 × Hp)
  | 0, _, _, _, _, _, _, _ => none
  | n + 1, x0, x1, x2, x5, x6, x7, h0 =>
    gR h0 x0 11 9 fun v1 =>
    aI h0 v1 .int x1 fun v5 =>
    if (x7 : Int32) < ((6 * x1) + v5) then
      if (x6 : Int32) = 0 then
        rcv h0 x0 11 <|
        cl (FX12_covers x0 x7 x2 h0) fun v13 h14 =>
        if (v13 : Int32) = 0 then
          BX12_isLost_173 (BX12_isLost_126 n) x0 x1 x2 x5 x7 h14
        else
          gR h14 x0 11 12 fun v20 =>
          aI h14 v20 .int x7 fun v24 =>
          if (v24 : Int32) < x5 then
            BX12_isLost_173 (BX12_isLost_126 n) x0 x1 x2 x5 x7 h14
          else
            BX12_isLost_169 (BX12_isLost_126 n) x0 x1 x2 x5 x7 h14
      else
        BX12_isLost_169 (BX12_isLost_126 n) x0 x1 x2 x5 x7 h0
    else
      bz x6 (some (x6, h0))
set_option maxRecDepth 100000 in
set_option maxHeartbeats 4000000 in
theorem BX12_isLost_126_ok {G : xG} {l : Launch} : ∀ (n : Nat) {x0 : Option Nat} {x1 : Int32} {x2 : Int32} {x5 : Int32} {x6 : Int32} {x7 : Int32} {h0 h1 : Hp} {r : Int32} (hF : BX12_isLost_126 n x0 x1 x2 x5 x6 x7 h0 = some (r, h1)), xv G l mX12_isLost 3 0 0 126 [(0, false, va_rf x0), (1, false, .int x1), (2, false, .int x2), (5, false, .int x5), (6, false, .int x6), (7, false, .int x7)] [] h0 (xPZ r h1) := by
  intro n
  induction n with
  | zero => intro x0 x1 x2 x5 x6 x7 h0 h1 r hF; cases hF
  | succ n ih =>
    intro x0 x1 x2 x5 x6 x7 h0 h1 r hF
    unfold BX12_isLost_126 at hF
    refine xe_iload dX12_isLost_126 rfl ?_
    refine xe_bipush (v := 6) dX12_isLost_128 (by decide) ?_
    refine xe_iload_n dX12_isLost_130 rfl rfl ?_
    refine xe_imul dX12_isLost_131 ?_
    refine xe_aload_n dX12_isLost_132 rfl rfl ?_
    obtain ⟨a2, e3, t4, hF⟩ := gR_inv hF
    refine xq_getR dX12_isLost_133 fl_SeldomOpsModel_34 xk_11 e3 t4 rfl ?_
    refine xe_iload_n dX12_isLost_136 rfl rfl ?_
    obtain ⟨a6, n7, e8, t9, b10, hF⟩ := aI_inv hF
    refine xq_iald dX12_isLost_137 e8 t9 b10 ?_
    refine xe_iadd dX12_isLost_138 ?_
    refine xe_icmp_ge (tgt := 182) dX12_isLost_139 (by decide) (fun c11 => ?_) (fun c11 => ?_)
    · replace hF := if_p c11 hF
      refine xe_iload dX12_isLost_142 rfl ?_
      refine xe_if_ne (tgt := 169) dX12_isLost_144 (by decide) (fun c12 => ?_) (fun c12 => ?_)
      · replace hF := if_p c12 hF
        refine xe_aload_n dX12_isLost_147 rfl rfl ?_
        refine xe_iload dX12_isLost_148 rfl ?_
        refine xe_iload_n dX12_isLost_150 rfl rfl ?_
        obtain ⟨a18, e16, t17, hF⟩ := rcv_inv hF
        obtain ⟨v13, h14, o15, hF⟩ := cl_inv hF
        refine xz (xq_callV (As := [.int _, .int _]) (rest := []) dX12_isLost_151 mk_X12_covers ⟨tw_1268, tw_1270, ts_46⟩ (ci := 11) rfl e16 t17 (FX12_covers_ok o15) xPZ_q (by decide) (by decide) rfl rfl ?_)
        refine xe_if_eq (tgt := 173) dX12_isLost_154 (by decide) (fun c19 => ?_) (fun c19 => ?_)
        · replace hF := if_p c19 hF
          exact xv.lv (BX12_isLost_173_ok ih hF) (xsub_cons rfl (xsub_cons rfl (xsub_cons rfl (xsub_cons rfl (xsub_cons rfl xsub_nil)))))
        · replace hF := if_n c19 hF
          refine xe_aload_n dX12_isLost_157 rfl rfl ?_
          obtain ⟨a21, e22, t23, hF⟩ := gR_inv hF
          refine xq_getR dX12_isLost_158 fl_SeldomOpsModel_43 xk_11 e22 t23 rfl ?_
          refine xe_iload dX12_isLost_161 rfl ?_
          obtain ⟨a25, n26, e27, t28, b29, hF⟩ := aI_inv hF
          refine xq_iald dX12_isLost_163 e27 t28 b29 ?_
          refine xe_iload dX12_isLost_164 rfl ?_
          refine xe_icmp_lt (tgt := 173) dX12_isLost_166 (by decide) (fun c30 => ?_) (fun c30 => ?_)
          · replace hF := if_p c30 hF
            exact xv.lv (BX12_isLost_173_ok ih hF) (xsub_cons rfl (xsub_cons rfl (xsub_cons rfl (xsub_cons rfl (xsub_cons rfl xsub_nil)))))
          · replace hF := if_n c30 hF
            exact xv.lv (BX12_isLost_169_ok ih hF) (xsub_cons rfl (xsub_cons rfl (xsub_cons rfl (xsub_cons rfl (xsub_cons rfl xsub_nil)))))
      · replace hF := if_n c12 hF
        exact xv.lv (BX12_isLost_169_ok ih hF) (xsub_cons rfl (xsub_cons rfl (xsub_cons rfl (xsub_cons rfl (xsub_cons rfl xsub_nil)))))
    · replace hF := if_n c11 hF
      refine xe_iload dX12_isLost_182 rfl ?_
      obtain ⟨z31, hF⟩ := bz_inv hF
      exact xe_ireturn dX12_isLost_184 (xPZ_ret z31 hF)
def BX12_isLost_120 (x0 : Option Nat) (x1 : Int32) (x2 : Int32) (x5 : Int32) (x6 : Int32) (h0 : Hp) : Option (Int32 × Hp) :=
  BX12_isLost_126 100000 x0 x1 x2 x5 x6 (6 * x1) h0
set_option maxRecDepth 100000 in
set_option maxHeartbeats 4000000 in
theorem BX12_isLost_120_ok {G : xG} {l : Launch} {x0 : Option Nat} {x1 : Int32} {x2 : Int32} {x5 : Int32} {x6 : Int32} {h0 h1 : Hp} {r : Int32} (hF : BX12_isLost_120 x0 x1 x2 x5 x6 h0 = some (r, h1)) : xv G l mX12_isLost 3 0 0 120 [(0, false, va_rf x0), (1, false, .int x1), (2, false, .int x2), (5, false, .int x5), (6, false, .int x6)] [] h0 (xPZ r h1) := by
  unfold BX12_isLost_120 at hF
  refine xe_bipush (v := 6) dX12_isLost_120 (by decide) ?_
  refine xe_iload_n dX12_isLost_122 rfl rfl ?_
  refine xe_imul dX12_isLost_123 ?_
  refine xe_istore dX12_isLost_124 (by decide) ?_
  exact xv.lv (BX12_isLost_126_ok _ hF) (xsub_cons rfl (xsub_cons rfl (xsub_cons rfl (xsub_cons rfl (xsub_cons rfl (xsub_cons rfl xsub_nil))))))
def BX12_isLost_112 (k72 : Option Nat → Int32 → Int32 → Int32 → Int32 → Int32 → Int32 → Hp → Option (Int32 × Hp)) (x0 : Option Nat) (x1 : Int32) (x2 : Int32) (x4 : Int32) (x5 : Int32) (x7 : Int32) (s0 : Int32) (h0 : Hp) : Option (Int32 × Hp) :=
  k72 x0 x1 x2 x4 x5 s0 (x7 + 1) h0
set_option maxRecDepth 100000 in
set_option maxHeartbeats 4000000 in
theorem BX12_isLost_112_ok {G : xG} {l : Launch} {k72 : Option Nat → Int32 → Int32 → Int32 → Int32 → Int32 → Int32 → Hp → Option (Int32 × Hp)} (hk72 : ∀ {x0 : Option Nat} {x1 : Int32} {x2 : Int32} {x4 : Int32} {x5 : Int32} {x6 : Int32} {x7 : Int32} {h0 h1 : Hp} {r : Int32}, k72 x0 x1 x2 x4 x5 x6 x7 h0 = some (r, h1) → xv G l mX12_isLost 3 0 0 72 [(0, false, va_rf x0), (1, false, .int x1), (2, false, .int x2), (4, false, .int x4), (5, false, .int x5), (6, false, .int x6), (7, false, .int x7)] [] h0 (xPZ r h1)) {x0 : Option Nat} {x1 : Int32} {x2 : Int32} {x4 : Int32} {x5 : Int32} {x7 : Int32} {s0 : Int32} {h0 h1 : Hp} {r : Int32} (hF : BX12_isLost_112 k72 x0 x1 x2 x4 x5 x7 s0 h0 = some (r, h1)) : xv G l mX12_isLost 3 0 0 112 [(0, false, va_rf x0), (1, false, .int x1), (2, false, .int x2), (4, false, .int x4), (5, false, .int x5), (7, false, .int x7)] [.int s0] h0 (xPZ r h1) := by
  unfold BX12_isLost_112 at hF
  refine xe_istore dX12_isLost_112 (by decide) ?_
  refine xe_iinc (v := _ + 1) dX12_isLost_114 rfl rfl (by decide) ?_
  refine xe_goto (tgt := 72) dX12_isLost_117 (by decide) ?_
  exact xv.lv (hk72 hF) (xsub_cons rfl (xsub_cons rfl (xsub_cons rfl (xsub_cons rfl (xsub_cons rfl (xsub_cons rfl (xsub_cons rfl xsub_nil)))))))
def BX12_isLost_107 (k72 : Option Nat → Int32 → Int32 → Int32 → Int32 → Int32 → Int32 → Hp → Option (Int32 × Hp)) (x0 : Option Nat) (x1 : Int32) (x2 : Int32) (x4 : Int32) (x5 : Int32) (x7 : Int32) (h0 : Hp) : Option (Int32 × Hp) :=
  BX12_isLost_112 k72 x0 x1 x2 x4 x5 x7 1 h0
set_option maxRecDepth 100000 in
set_option maxHeartbeats 4000000 in
theorem BX12_isLost_107_ok {G : xG} {l : Launch} {k72 : Option Nat → Int32 → Int32 → Int32 → Int32 → Int32 → Int32 → Hp → Option (Int32 × Hp)} (hk72 : ∀ {x0 : Option Nat} {x1 : Int32} {x2 : Int32} {x4 : Int32} {x5 : Int32} {x6 : Int32} {x7 : Int32} {h0 h1 : Hp} {r : Int32}, k72 x0 x1 x2 x4 x5 x6 x7 h0 = some (r, h1) → xv G l mX12_isLost 3 0 0 72 [(0, false, va_rf x0), (1, false, .int x1), (2, false, .int x2), (4, false, .int x4), (5, false, .int x5), (6, false, .int x6), (7, false, .int x7)] [] h0 (xPZ r h1)) {x0 : Option Nat} {x1 : Int32} {x2 : Int32} {x4 : Int32} {x5 : Int32} {x7 : Int32} {h0 h1 : Hp} {r : Int32} (hF : BX12_isLost_107 k72 x0 x1 x2 x4 x5 x7 h0 = some (r, h1)) : xv G l mX12_isLost 3 0 0 107 [(0, false, va_rf x0), (1, false, .int x1), (2, false, .int x2), (4, false, .int x4), (5, false, .int x5), (7, false, .int x7)] [] h0 (xPZ r h1) := by
  unfold BX12_isLost_107 at hF
  refine xe_iconst (v := 1) dX12_isLost_107 (by decide) ?_
  refine xe_goto (tgt := 112) dX12_isLost_108 (by decide) ?_
  exact xv.lv (BX12_isLost_112_ok hk72 hF) (xsub_cons rfl (xsub_cons rfl (xsub_cons rfl (xsub_cons rfl (xsub_cons rfl (xsub_cons rfl xsub_nil))))))
def BX12_isLost_72 : Nat → Option Nat → Int32 → Int32 → Int32 → Int32 → Int32 → Int32 → Hp → Option (Int32 × Hp)
  | 0, _, _, _, _, _, _, _, _ => none
  | n + 1, x0, x1, x2, x4, x5, x6, x7, h0 =>
    gR h0 x0 11 21 fun v1 =>
    aI h0 v1 .int x4 fun v5 =>
    if (x7 : Int32) < v5 then
      if (x6 : Int32) = 0 then
        gR h0 x0 11 23 fun v13 =>
        aI h0 v13 .int ((8 * x4) + x7) fun v17 =>
        if (v17 : Int32) < x5 then
          BX12_isLost_112 (BX12_isLost_72 n) x0 x1 x2 x4 x5 x7 0 h0
        else
          BX12_isLost_107 (BX12_isLost_72 n) x0 x1 x2 x4 x5 x7 h0
      else
        BX12_isLost_107 (BX12_isLost_72 n) x0 x1 x2 x4 x5 x7 h0
    else
      BX12_isLost_120 x0 x1 x2 x5 x6 h0
set_option maxRecDepth 100000 in
set_option maxHeartbeats 4000000 in
theorem BX12_isLost_72_ok {G : xG} {l : Launch} : ∀ (n : Nat) {x0 : Option Nat} {x1 : Int32} {x2 : Int32} {x4 : Int32} {x5 : Int32} {x6 : Int32} {x7 : Int32} {h0 h1 : Hp} {r : Int32} (hF : BX12_isLost_72 n x0 x1 x2 x4 x5 x6 x7 h0 = some (r, h1)), xv G l mX12_isLost 3 0 0 72 [(0, false, va_rf x0), (1, false, .int x1), (2, false, .int x2), (4, false, .int x4), (5, false, .int x5), (6, false, .int x6), (7, false, .int x7)] [] h0 (xPZ r h1) := by
  intro n
  induction n with
  | zero => intro x0 x1 x2 x4 x5 x6 x7 h0 h1 r hF; cases hF
  | succ n ih =>
    intro x0 x1 x2 x4 x5 x6 x7 h0 h1 r hF
    unfold BX12_isLost_72 at hF
    refine xe_iload dX12_isLost_72 rfl ?_
    refine xe_aload_n dX12_isLost_74 rfl rfl ?_
    obtain ⟨a2, e3, t4, hF⟩ := gR_inv hF
    refine xq_getR dX12_isLost_75 fl_SeldomOpsModel_66 xk_11 e3 t4 rfl ?_
    refine xe_iload dX12_isLost_78 rfl ?_
    obtain ⟨a6, n7, e8, t9, b10, hF⟩ := aI_inv hF
    refine xq_iald dX12_isLost_80 e8 t9 b10 ?_
    refine xe_icmp_ge (tgt := 120) dX12_isLost_81 (by decide) (fun c11 => ?_) (fun c11 => ?_)
    · replace hF := if_p c11 hF
      refine xe_iload dX12_isLost_84 rfl ?_
      refine xe_if_ne (tgt := 107) dX12_isLost_86 (by decide) (fun c12 => ?_) (fun c12 => ?_)
      · replace hF := if_p c12 hF
        refine xe_aload_n dX12_isLost_89 rfl rfl ?_
        obtain ⟨a14, e15, t16, hF⟩ := gR_inv hF
        refine xq_getR dX12_isLost_90 fl_SeldomOpsModel_72 xk_11 e15 t16 rfl ?_
        refine xe_bipush (v := 8) dX12_isLost_93 (by decide) ?_
        refine xe_iload dX12_isLost_95 rfl ?_
        refine xe_imul dX12_isLost_97 ?_
        refine xe_iload dX12_isLost_98 rfl ?_
        refine xe_iadd dX12_isLost_100 ?_
        obtain ⟨a18, n19, e20, t21, b22, hF⟩ := aI_inv hF
        refine xq_iald dX12_isLost_101 e20 t21 b22 ?_
        refine xe_iload dX12_isLost_102 rfl ?_
        refine xe_icmp_lt (tgt := 111) dX12_isLost_104 (by decide) (fun c23 => ?_) (fun c23 => ?_)
        · replace hF := if_p c23 hF
          refine xe_iconst (v := 0) dX12_isLost_111 (by decide) ?_
          exact xv.lv (BX12_isLost_112_ok ih hF) (xsub_cons rfl (xsub_cons rfl (xsub_cons rfl (xsub_cons rfl (xsub_cons rfl (xsub_cons rfl xsub_nil))))))
        · replace hF := if_n c23 hF
          exact xv.lv (BX12_isLost_107_ok ih hF) (xsub_cons rfl (xsub_cons rfl (xsub_cons rfl (xsub_cons rfl (xsub_cons rfl (xsub_cons rfl xsub_nil))))))
      · replace hF := if_n c12 hF
        exact xv.lv (BX12_isLost_107_ok ih hF) (xsub_cons rfl (xsub_cons rfl (xsub_cons rfl (xsub_cons rfl (xsub_cons rfl (xsub_cons rfl xsub_nil))))))
    · replace hF := if_n c11 hF
      exact xv.lv (BX12_isLost_120_ok hF) (xsub_cons rfl (xsub_cons rfl (xsub_cons rfl (xsub_cons rfl (xsub_cons rfl xsub_nil)))))
def BX12_isLost_67 (x0 : Option Nat) (x1 : Int32) (x2 : Int32) (x4 : Int32) (x5 : Int32) (s0 : Int32) (h0 : Hp) : Option (Int32 × Hp) :=
  BX12_isLost_72 100000 x0 x1 x2 x4 x5 s0 0 h0
set_option maxRecDepth 100000 in
set_option maxHeartbeats 4000000 in
theorem BX12_isLost_67_ok {G : xG} {l : Launch} {x0 : Option Nat} {x1 : Int32} {x2 : Int32} {x4 : Int32} {x5 : Int32} {s0 : Int32} {h0 h1 : Hp} {r : Int32} (hF : BX12_isLost_67 x0 x1 x2 x4 x5 s0 h0 = some (r, h1)) : xv G l mX12_isLost 3 0 0 67 [(0, false, va_rf x0), (1, false, .int x1), (2, false, .int x2), (4, false, .int x4), (5, false, .int x5)] [.int s0] h0 (xPZ r h1) := by
  unfold BX12_isLost_67 at hF
  refine xe_istore dX12_isLost_67 (by decide) ?_
  refine xe_iconst (v := 0) dX12_isLost_69 (by decide) ?_
  refine xe_istore dX12_isLost_70 (by decide) ?_
  exact xv.lv (BX12_isLost_72_ok _ hF) (xsub_cons rfl (xsub_cons rfl (xsub_cons rfl (xsub_cons rfl (xsub_cons rfl (xsub_cons rfl (xsub_cons rfl xsub_nil)))))))
def BX12_isLost_42 (x0 : Option Nat) (x1 : Int32) (x2 : Int32) (x3 : Int32) (x4 : Int32) (x5 : Int32) (s0 : Int32) (h0 : Hp) : Option (Int32 × Hp) :=
  if (x3 : Int32) = 23 then
    gR h0 x0 11 20 fun v2 =>
    aI h0 v2 .int x4 fun v6 =>
    if (v6 : Int32) < x5 then
      BX12_isLost_67 x0 x1 x2 x4 x5 0 h0
    else
      BX12_isLost_67 x0 x1 x2 x4 x5 1 h0
  else
    BX12_isLost_120 x0 x1 x2 x5 s0 h0
set_option maxRecDepth 100000 in
set_option maxHeartbeats 4000000 in
theorem BX12_isLost_42_ok {G : xG} {l : Launch} {x0 : Option Nat} {x1 : Int32} {x2 : Int32} {x3 : Int32} {x4 : Int32} {x5 : Int32} {s0 : Int32} {h0 h1 : Hp} {r : Int32} (hF : BX12_isLost_42 x0 x1 x2 x3 x4 x5 s0 h0 = some (r, h1)) : xv G l mX12_isLost 3 0 0 42 [(0, false, va_rf x0), (1, false, .int x1), (2, false, .int x2), (3, false, .int x3), (4, false, .int x4), (5, false, .int x5)] [.int s0] h0 (xPZ r h1) := by
  unfold BX12_isLost_42 at hF
  refine xe_istore dX12_isLost_42 (by decide) ?_
  refine xe_iload_n dX12_isLost_44 rfl rfl ?_
  refine xe_bipush (v := 23) dX12_isLost_45 (by decide) ?_
  refine xe_icmp_ne (tgt := 120) dX12_isLost_47 (by decide) (fun c1 => ?_) (fun c1 => ?_)
  · replace hF := if_p c1 hF
    refine xe_aload_n dX12_isLost_50 rfl rfl ?_
    obtain ⟨a3, e4, t5, hF⟩ := gR_inv hF
    refine xq_getR dX12_isLost_51 fl_SeldomOpsModel_63 xk_11 e4 t5 rfl ?_
    refine xe_iload dX12_isLost_54 rfl ?_
    obtain ⟨a7, n8, e9, t10, b11, hF⟩ := aI_inv hF
    refine xq_iald dX12_isLost_56 e9 t10 b11 ?_
    refine xe_iload dX12_isLost_57 rfl ?_
    refine xe_icmp_lt (tgt := 66) dX12_isLost_59 (by decide) (fun c12 => ?_) (fun c12 => ?_)
    · replace hF := if_p c12 hF
      refine xe_iconst (v := 0) dX12_isLost_66 (by decide) ?_
      exact xv.lv (BX12_isLost_67_ok hF) (xsub_cons rfl (xsub_cons rfl (xsub_cons rfl (xsub_cons rfl (xsub_cons rfl xsub_nil)))))
    · replace hF := if_n c12 hF
      refine xe_iconst (v := 1) dX12_isLost_62 (by decide) ?_
      refine xe_goto (tgt := 67) dX12_isLost_63 (by decide) ?_
      exact xv.lv (BX12_isLost_67_ok hF) (xsub_cons rfl (xsub_cons rfl (xsub_cons rfl (xsub_cons rfl (xsub_cons rfl xsub_nil)))))
  · replace hF := if_n c1 hF
    exact xv.lv (BX12_isLost_120_ok hF) (xsub_cons rfl (xsub_cons rfl (xsub_cons rfl (xsub_cons rfl (xsub_cons rfl xsub_nil)))))
def BX12_isLost_41 (x0 : Option Nat) (x1 : Int32) (x2 : Int32) (x3 : Int32) (x4 : Int32) (x5 : Int32) (h0 : Hp) : Option (Int32 × Hp) :=
  BX12_isLost_42 x0 x1 x2 x3 x4 x5 0 h0
set_option maxRecDepth 100000 in
set_option maxHeartbeats 4000000 in
theorem BX12_isLost_41_ok {G : xG} {l : Launch} {x0 : Option Nat} {x1 : Int32} {x2 : Int32} {x3 : Int32} {x4 : Int32} {x5 : Int32} {h0 h1 : Hp} {r : Int32} (hF : BX12_isLost_41 x0 x1 x2 x3 x4 x5 h0 = some (r, h1)) : xv G l mX12_isLost 3 0 0 41 [(0, false, va_rf x0), (1, false, .int x1), (2, false, .int x2), (3, false, .int x3), (4, false, .int x4), (5, false, .int x5)] [] h0 (xPZ r h1) := by
  unfold BX12_isLost_41 at hF
  refine xe_iconst (v := 0) dX12_isLost_41 (by decide) ?_
  exact xv.lv (BX12_isLost_42_ok hF) (xsub_cons rfl (xsub_cons rfl (xsub_cons rfl (xsub_cons rfl (xsub_cons rfl (xsub_cons rfl xsub_nil))))))
def FX12_isLost (p0 : Option Nat) (p1 : Int32) (p2 : Int32) (p3 : Int32) (p4 : Int32) (h0 : Hp) : Option (Int32 × Hp) :=
  gR h0 p0 11 5 fun v1 =>
  aI h0 v1 .int p1 fun v5 =>
  cl (FX12_in (Int32.toInt64 p3) 20 22 h0) fun v11 h12 =>
  if (v11 : Int32) = 0 then
    BX12_isLost_41 p0 p1 p2 p3 p4 v5 h12
  else
    cl (FX12_in (Int32.toInt64 p4) 0 (Int32.toInt64 (v5 - 1)) h12) fun v15 h16 =>
    if (v15 : Int32) = 0 then
      BX12_isLost_42 p0 p1 p2 p3 p4 v5 1 h16
    else
      BX12_isLost_41 p0 p1 p2 p3 p4 v5 h16
set_option maxRecDepth 100000 in
set_option maxHeartbeats 4000000 in
theorem FX12_isLost_ok {G : xG} {l : Launch} {p0 : Option Nat} {p1 : Int32} {p2 : Int32} {p3 : Int32} {p4 : Int32} {h0 h1 : Hp} {r : Int32} (hF : FX12_isLost p0 p1 p2 p3 p4 h0 = some (r, h1)) : xc G l mX12_isLost 3 0 0 [va_rf p0, .int p1, .int p2, .int p3, .int p4] h0 (xPZ r h1) := by
  refine xo_Z [.inr (.inr _), .inl _, .inl _, .inl _, .inl _] (by decide) (Nat.le_of_ble_eq_true rfl) rfl ?_
  show xv _ _ _ _ _ _ _ [(0, false, va_rf p0), (1, false, .int p1), (2, false, .int p2), (3, false, .int p3), (4, false, .int p4)] _ _ _
  unfold FX12_isLost at hF
  refine xe_aload_n dX12_isLost_0 rfl rfl ?_
  obtain ⟨a2, e3, t4, hF⟩ := gR_inv hF
  refine xq_getR dX12_isLost_1 fl_SeldomOpsModel_22 xk_11 e3 t4 rfl ?_
  refine xe_iload_n dX12_isLost_4 rfl rfl ?_
  obtain ⟨a6, n7, e8, t9, b10, hF⟩ := aI_inv hF
  refine xq_iald dX12_isLost_5 e8 t9 b10 ?_
  refine xe_istore dX12_isLost_6 (by decide) ?_
  refine xe_iload_n dX12_isLost_8 rfl rfl ?_
  refine xe_i2l dX12_isLost_9 ?_
  refine xe_ldc2 (v := 20) dX12_isLost_10 tw_1266 ?_
  refine xe_ldc2 (v := 22) dX12_isLost_13 tw_1267 ?_
  obtain ⟨v11, h12, o13, hF⟩ := cl_inv hF
  refine xz (xq_callS (As := [.long _, .long _, .long _]) (rest := []) dX12_isLost_16 mk_X12_in ⟨tw_1174, tw_1175⟩ (FX12_in_ok o13) xPZ_q (by decide) (by decide) rfl rfl ?_)
  refine xe_if_eq (tgt := 41) dX12_isLost_19 (by decide) (fun c14 => ?_) (fun c14 => ?_)
  · replace hF := if_p c14 hF
    exact xv.lv (BX12_isLost_41_ok hF) (xsub_cons rfl (xsub_cons rfl (xsub_cons rfl (xsub_cons rfl (xsub_cons rfl (xsub_cons rfl xsub_nil))))))
  · replace hF := if_n c14 hF
    refine xe_iload dX12_isLost_22 rfl ?_
    refine xe_i2l dX12_isLost_24 ?_
    refine xe_lconst (v := 0) dX12_isLost_25 (by decide) ?_
    refine xe_iload dX12_isLost_26 rfl ?_
    refine xe_iconst (v := 1) dX12_isLost_28 (by decide) ?_
    refine xe_isub dX12_isLost_29 ?_
    refine xe_i2l dX12_isLost_30 ?_
    obtain ⟨v15, h16, o17, hF⟩ := cl_inv hF
    refine xz (xq_callS (As := [.long _, .long _, .long _]) (rest := []) dX12_isLost_31 mk_X12_in ⟨tw_1174, tw_1175⟩ (FX12_in_ok o17) xPZ_q (by decide) (by decide) rfl rfl ?_)
    refine xe_if_ne (tgt := 41) dX12_isLost_34 (by decide) (fun c18 => ?_) (fun c18 => ?_)
    · replace hF := if_p c18 hF
      refine xe_iconst (v := 1) dX12_isLost_37 (by decide) ?_
      refine xe_goto (tgt := 42) dX12_isLost_38 (by decide) ?_
      exact xv.lv (BX12_isLost_42_ok hF) (xsub_cons rfl (xsub_cons rfl (xsub_cons rfl (xsub_cons rfl (xsub_cons rfl (xsub_cons rfl xsub_nil))))))
    · replace hF := if_n c18 hF
      exact xv.lv (BX12_isLost_41_ok hF) (xsub_cons rfl (xsub_cons rfl (xsub_cons rfl (xsub_cons rfl (xsub_cons rfl (xsub_cons rfl xsub_nil))))))
/-! SeldomOpsModel.moves(I)Z -/
def BX12_moves_48 (x0 : Option Nat) (x1 : Int32) (h0 : Hp) : Option (Int32 × Hp) :=
  rcv h0 x0 11 <|
  cl (FX12_isWhole x0 (x1 - 7) h0) fun v1 h2 =>
  if (v1 : Int32) = 0 then
    bz 0 (some (0, h2))
  else
    gI h2 x0 11 29 fun v9 =>
    pI h2 x0 11 29 (v9 - (x1 - 7)) fun h16 =>
    bz 1 (some (1, h16))
set_option maxRecDepth 100000 in
set_option maxHeartbeats 4000000 in
theorem BX12_moves_48_ok {G : xG} {l : Launch} {x0 : Option Nat} {x1 : Int32} {h0 h1 : Hp} {r : Int32} (hF : BX12_moves_48 x0 x1 h0 = some (r, h1)) : xv G l mX12_moves 3 0 0 48 [(0, false, va_rf x0), (1, false, .int x1)] [] h0 (xPZ r h1) := by
  unfold BX12_moves_48 at hF
  refine xe_aload_n dX12_moves_48 rfl rfl ?_
  refine xe_iload_n dX12_moves_49 rfl rfl ?_
  refine xe_bipush (v := 7) dX12_moves_50 (by decide) ?_
  refine xe_isub dX12_moves_52 ?_
  obtain ⟨a6, e4, t5, hF⟩ := rcv_inv hF
  obtain ⟨v1, h2, o3, hF⟩ := cl_inv hF
  refine xz (xq_callV (As := [.int _]) (rest := []) dX12_moves_53 mk_X12_isWhole ⟨tw_1277, tw_1279, ts_48⟩ (ci := 11) rfl e4 t5 (FX12_isWhole_ok o3) xPZ_q (by decide) (by decide) rfl rfl ?_)
  refine xe_if_ne (tgt := 61) dX12_moves_56 (by decide) (fun c7 => ?_) (fun c7 => ?_)
  · replace hF := if_p c7 hF
    refine xe_iconst (v := 0) dX12_moves_59 (by decide) ?_
    obtain ⟨z8, hF⟩ := bz_inv hF
    exact xe_ireturn dX12_moves_60 (xPZ_ret z8 hF)
  · replace hF := if_n c7 hF
    refine xe_aload_n dX12_moves_61 rfl rfl ?_
    refine xe_dup dX12_moves_62 (va_rf_cat _) ?_
    obtain ⟨a10, e11, t12, hF⟩ := gI_inv hF
    refine xq_getI dX12_moves_63 fl_SeldomOpsModel_212 xk_11 e11 t12 rfl ?_
    refine xe_iload_n dX12_moves_66 rfl rfl ?_
    refine xe_bipush (v := 7) dX12_moves_67 (by decide) ?_
    refine xe_isub dX12_moves_69 ?_
    refine xe_isub dX12_moves_70 ?_
    obtain ⟨a13, e14, t15, hF⟩ := pI_inv hF
    refine xq_putI dX12_moves_71 fl_SeldomOpsModel_212 xk_11 (by decide) (fun z => by cases z) e14 t15 (Or.inl rfl) ?_
    refine xe_iconst (v := 1) dX12_moves_74 (by decide) ?_
    obtain ⟨z18, hF⟩ := bz_inv hF
    exact xe_ireturn dX12_moves_75 (xPZ_ret z18 hF)
def FX12_moves (p0 : Option Nat) (p1 : Int32) (h0 : Hp) : Option (Int32 × Hp) :=
  if (p1 : Int32) = 8 then
    BX12_moves_48 p0 p1 h0
  else
  if (p1 : Int32) = 9 then
    BX12_moves_48 p0 p1 h0
  else
  if (p1 : Int32) = 10 then
    rcv h0 p0 11 <|
    cl (FX12_copies p0 1 0 h0) fun v4 h5 =>
    bz v4 (some (v4, h5))
  else
  if (p1 : Int32) = 11 then
    rcv h0 p0 11 <|
    cl (FX12_copies p0 1 1 h0) fun v12 h13 =>
    bz v12 (some (v12, h13))
  else
  if (p1 : Int32) = 12 then
    rcv h0 p0 11 <|
    cl (FX12_copies p0 1 2 h0) fun v20 h21 =>
    bz v20 (some (v20, h21))
  else
  if (p1 : Int32) = 13 then
    rcv h0 p0 11 <|
    cl (FX12_copies p0 2 0 h0) fun v28 h29 =>
    bz v28 (some (v28, h29))
  else
  if (p1 : Int32) = 14 then
    rcv h0 p0 11 <|
    cl (FX12_copies p0 2 1 h0) fun v36 h37 =>
    bz v36 (some (v36, h37))
  else
  if (p1 : Int32) = 15 then
    rcv h0 p0 11 <|
    cl (FX12_copies p0 2 2 h0) fun v44 h45 =>
    bz v44 (some (v44, h45))
  else
  rcv h0 p0 11 <|
  cl (FX12_isWhole p0 1 h0) fun v51 h52 =>
  if (v51 : Int32) = 0 then
    bz 0 (some (0, h52))
  else
    rcv h52 p0 11 <|
    cl (FX12_isWhole p0 2 h52) fun v59 h60 =>
    if (v59 : Int32) = 0 then
      bz 0 (some (0, h60))
    else
      gR h60 p0 11 30 fun v67 =>
      gI h60 p0 11 29 fun v71 =>
      aI h60 v67 .int (v71 - 1) fun v75 =>
      gR h60 p0 11 30 fun v81 =>
      gI h60 p0 11 29 fun v85 =>
      gR h60 p0 11 30 fun v89 =>
      gI h60 p0 11 29 fun v93 =>
      aI h60 v89 .int (v93 - 2) fun v97 =>
      sI h60 v81 (v85 - 1) v97 fun h103 =>
      gR h103 p0 11 30 fun v110 =>
      gI h103 p0 11 29 fun v114 =>
      sI h103 v110 (v114 - 2) v75 fun h118 =>
      bz 1 (some (1, h118))
set_option maxRecDepth 100000 in
set_option maxHeartbeats 4000000 in
theorem FX12_moves_ok {G : xG} {l : Launch} {p0 : Option Nat} {p1 : Int32} {h0 h1 : Hp} {r : Int32} (hF : FX12_moves p0 p1 h0 = some (r, h1)) : xc G l mX12_moves 3 0 0 [va_rf p0, .int p1] h0 (xPZ r h1) := by
  refine xo_Z [.inr (.inr _), .inl _] (by decide) (Nat.le_of_ble_eq_true rfl) rfl ?_
  show xv _ _ _ _ _ _ _ [(0, false, va_rf p0), (1, false, .int p1)] _ _ _
  unfold FX12_moves at hF
  refine xe_iload_n dX12_moves_0 rfl rfl ?_
  refine xs_case (j := 8) (tgt := 48) dX12_moves_1 (by decide) (by decide) rfl (by decide) (fun c1 => ?_) (fun c1 => ?_)
  · replace hF := if_p c1 hF
    exact xv.lv (BX12_moves_48_ok hF) (xsub_cons rfl (xsub_cons rfl xsub_nil))
  replace hF := if_n c1 hF
  refine xs_case (j := 9) (tgt := 48) dX12_moves_1 (by decide) (by decide) rfl (by decide) (fun c2 => ?_) (fun c2 => ?_)
  · replace hF := if_p c2 hF
    exact xv.lv (BX12_moves_48_ok hF) (xsub_cons rfl (xsub_cons rfl xsub_nil))
  replace hF := if_n c2 hF
  refine xs_case (j := 10) (tgt := 76) dX12_moves_1 (by decide) (by decide) rfl (by decide) (fun c3 => ?_) (fun c3 => ?_)
  · replace hF := if_p c3 hF
    refine xe_aload_n dX12_moves_76 rfl rfl ?_
    refine xe_iconst (v := 1) dX12_moves_77 (by decide) ?_
    refine xe_iconst (v := 0) dX12_moves_78 (by decide) ?_
    obtain ⟨a9, e7, t8, hF⟩ := rcv_inv hF
    obtain ⟨v4, h5, o6, hF⟩ := cl_inv hF
    refine xz (xq_callV (As := [.int _, .int _]) (rest := []) dX12_moves_79 mk_X12_copies ⟨tw_1281, tw_1283, ts_49⟩ (ci := 11) rfl e7 t8 (FX12_copies_ok o6) xPZ_q (by decide) (by decide) rfl rfl ?_)
    obtain ⟨z10, hF⟩ := bz_inv hF
    exact xe_ireturn dX12_moves_82 (xPZ_ret z10 hF)
  replace hF := if_n c3 hF
  refine xs_case (j := 11) (tgt := 83) dX12_moves_1 (by decide) (by decide) rfl (by decide) (fun c11 => ?_) (fun c11 => ?_)
  · replace hF := if_p c11 hF
    refine xe_aload_n dX12_moves_83 rfl rfl ?_
    refine xe_iconst (v := 1) dX12_moves_84 (by decide) ?_
    refine xe_iconst (v := 1) dX12_moves_85 (by decide) ?_
    obtain ⟨a17, e15, t16, hF⟩ := rcv_inv hF
    obtain ⟨v12, h13, o14, hF⟩ := cl_inv hF
    refine xz (xq_callV (As := [.int _, .int _]) (rest := []) dX12_moves_86 mk_X12_copies ⟨tw_1281, tw_1283, ts_49⟩ (ci := 11) rfl e15 t16 (FX12_copies_ok o14) xPZ_q (by decide) (by decide) rfl rfl ?_)
    obtain ⟨z18, hF⟩ := bz_inv hF
    exact xe_ireturn dX12_moves_89 (xPZ_ret z18 hF)
  replace hF := if_n c11 hF
  refine xs_case (j := 12) (tgt := 90) dX12_moves_1 (by decide) (by decide) rfl (by decide) (fun c19 => ?_) (fun c19 => ?_)
  · replace hF := if_p c19 hF
    refine xe_aload_n dX12_moves_90 rfl rfl ?_
    refine xe_iconst (v := 1) dX12_moves_91 (by decide) ?_
    refine xe_iconst (v := 2) dX12_moves_92 (by decide) ?_
    obtain ⟨a25, e23, t24, hF⟩ := rcv_inv hF
    obtain ⟨v20, h21, o22, hF⟩ := cl_inv hF
    refine xz (xq_callV (As := [.int _, .int _]) (rest := []) dX12_moves_93 mk_X12_copies ⟨tw_1281, tw_1283, ts_49⟩ (ci := 11) rfl e23 t24 (FX12_copies_ok o22) xPZ_q (by decide) (by decide) rfl rfl ?_)
    obtain ⟨z26, hF⟩ := bz_inv hF
    exact xe_ireturn dX12_moves_96 (xPZ_ret z26 hF)
  replace hF := if_n c19 hF
  refine xs_case (j := 13) (tgt := 97) dX12_moves_1 (by decide) (by decide) rfl (by decide) (fun c27 => ?_) (fun c27 => ?_)
  · replace hF := if_p c27 hF
    refine xe_aload_n dX12_moves_97 rfl rfl ?_
    refine xe_iconst (v := 2) dX12_moves_98 (by decide) ?_
    refine xe_iconst (v := 0) dX12_moves_99 (by decide) ?_
    obtain ⟨a33, e31, t32, hF⟩ := rcv_inv hF
    obtain ⟨v28, h29, o30, hF⟩ := cl_inv hF
    refine xz (xq_callV (As := [.int _, .int _]) (rest := []) dX12_moves_100 mk_X12_copies ⟨tw_1281, tw_1283, ts_49⟩ (ci := 11) rfl e31 t32 (FX12_copies_ok o30) xPZ_q (by decide) (by decide) rfl rfl ?_)
    obtain ⟨z34, hF⟩ := bz_inv hF
    exact xe_ireturn dX12_moves_103 (xPZ_ret z34 hF)
  replace hF := if_n c27 hF
  refine xs_case (j := 14) (tgt := 104) dX12_moves_1 (by decide) (by decide) rfl (by decide) (fun c35 => ?_) (fun c35 => ?_)
  · replace hF := if_p c35 hF
    refine xe_aload_n dX12_moves_104 rfl rfl ?_
    refine xe_iconst (v := 2) dX12_moves_105 (by decide) ?_
    refine xe_iconst (v := 1) dX12_moves_106 (by decide) ?_
    obtain ⟨a41, e39, t40, hF⟩ := rcv_inv hF
    obtain ⟨v36, h37, o38, hF⟩ := cl_inv hF
    refine xz (xq_callV (As := [.int _, .int _]) (rest := []) dX12_moves_107 mk_X12_copies ⟨tw_1281, tw_1283, ts_49⟩ (ci := 11) rfl e39 t40 (FX12_copies_ok o38) xPZ_q (by decide) (by decide) rfl rfl ?_)
    obtain ⟨z42, hF⟩ := bz_inv hF
    exact xe_ireturn dX12_moves_110 (xPZ_ret z42 hF)
  replace hF := if_n c35 hF
  refine xs_case (j := 15) (tgt := 111) dX12_moves_1 (by decide) (by decide) rfl (by decide) (fun c43 => ?_) (fun c43 => ?_)
  · replace hF := if_p c43 hF
    refine xe_aload_n dX12_moves_111 rfl rfl ?_
    refine xe_iconst (v := 2) dX12_moves_112 (by decide) ?_
    refine xe_iconst (v := 2) dX12_moves_113 (by decide) ?_
    obtain ⟨a49, e47, t48, hF⟩ := rcv_inv hF
    obtain ⟨v44, h45, o46, hF⟩ := cl_inv hF
    refine xz (xq_callV (As := [.int _, .int _]) (rest := []) dX12_moves_114 mk_X12_copies ⟨tw_1281, tw_1283, ts_49⟩ (ci := 11) rfl e47 t48 (FX12_copies_ok o46) xPZ_q (by decide) (by decide) rfl rfl ?_)
    obtain ⟨z50, hF⟩ := bz_inv hF
    exact xe_ireturn dX12_moves_117 (xPZ_ret z50 hF)
  replace hF := if_n c43 hF
  refine xs_rest (tgt := 118) [8, 9, 10, 11, 12, 13, 14, 15] dX12_moves_1 (by decide) (List.forall_mem_cons.mpr ⟨c1, List.forall_mem_cons.mpr ⟨c2, List.forall_mem_cons.mpr ⟨c3, List.forall_mem_cons.mpr ⟨c11, List.forall_mem_cons.mpr ⟨c19, List.forall_mem_cons.mpr ⟨c27, List.forall_mem_cons.mpr ⟨c35, List.forall_mem_cons.mpr ⟨c43, fun _ h => by cases h⟩⟩⟩⟩⟩⟩⟩⟩) (by decide) ?_
  refine xe_aload_n dX12_moves_118 rfl rfl ?_
  refine xe_iconst (v := 1) dX12_moves_119 (by decide) ?_
  obtain ⟨a56, e54, t55, hF⟩ := rcv_inv hF
  obtain ⟨v51, h52, o53, hF⟩ := cl_inv hF
  refine xz (xq_callV (As := [.int _]) (rest := []) dX12_moves_120 mk_X12_isWhole ⟨tw_1277, tw_1279, ts_48⟩ (ci := 11) rfl e54 t55 (FX12_isWhole_ok o53) xPZ_q (by decide) (by decide) rfl rfl ?_)
  refine xe_if_eq (tgt := 134) dX12_moves_123 (by decide) (fun c57 => ?_) (fun c57 => ?_)
  · replace hF := if_p c57 hF
    refine xe_iconst (v := 0) dX12_moves_134 (by decide) ?_
    obtain ⟨z58, hF⟩ := bz_inv hF
    exact xe_ireturn dX12_moves_135 (xPZ_ret z58 hF)
  · replace hF := if_n c57 hF
    refine xe_aload_n dX12_moves_126 rfl rfl ?_
    refine xe_iconst (v := 2) dX12_moves_127 (by decide) ?_
    obtain ⟨a64, e62, t63, hF⟩ := rcv_inv hF
    obtain ⟨v59, h60, o61, hF⟩ := cl_inv hF
    refine xz (xq_callV (As := [.int _]) (rest := []) dX12_moves_128 mk_X12_isWhole ⟨tw_1277, tw_1279, ts_48⟩ (ci := 11) rfl e62 t63 (FX12_isWhole_ok o61) xPZ_q (by decide) (by decide) rfl rfl ?_)
    refine xe_if_ne (tgt := 136) dX12_moves_131 (by decide) (fun c65 => ?_) (fun c65 => ?_)
    · replace hF := if_p c65 hF
      refine xe_iconst (v := 0) dX12_moves_134 (by decide) ?_
      obtain ⟨z66, hF⟩ := bz_inv hF
      exact xe_ireturn dX12_moves_135 (xPZ_ret z66 hF)
    · replace hF := if_n c65 hF
      refine xe_aload_n dX12_moves_136 rfl rfl ?_
      obtain ⟨a68, e69, t70, hF⟩ := gR_inv hF
      refine xq_getR dX12_moves_137 fl_SeldomOpsModel_90 xk_11 e69 t70 rfl ?_
      refine xe_aload_n dX12_moves_140 rfl rfl ?_
      obtain ⟨a72, e73, t74, hF⟩ := gI_inv hF
      refine xq_getI dX12_moves_141 fl_SeldomOpsModel_212 xk_11 e73 t74 rfl ?_
      refine xe_iconst (v := 1) dX12_moves_144 (by decide) ?_
      refine xe_isub dX12_moves_145 ?_
      obtain ⟨a76, n77, e78, t79, b80, hF⟩ := aI_inv hF
      refine xq_iald dX12_moves_146 e78 t79 b80 ?_
      refine xe_istore_n dX12_moves_147 rfl (by decide) ?_
      refine xe_aload_n dX12_moves_148 rfl rfl ?_
      obtain ⟨a82, e83, t84, hF⟩ := gR_inv hF
      refine xq_getR dX12_moves_149 fl_SeldomOpsModel_90 xk_11 e83 t84 rfl ?_
      refine xe_aload_n dX12_moves_152 rfl rfl ?_
      obtain ⟨a86, e87, t88, hF⟩ := gI_inv hF
      refine xq_getI dX12_moves_153 fl_SeldomOpsModel_212 xk_11 e87 t88 rfl ?_
      refine xe_iconst (v := 1) dX12_moves_156 (by decide) ?_
      refine xe_isub dX12_moves_157 ?_
      refine xe_aload_n dX12_moves_158 rfl rfl ?_
      obtain ⟨a90, e91, t92, hF⟩ := gR_inv hF
      refine xq_getR dX12_moves_159 fl_SeldomOpsModel_90 xk_11 e91 t92 rfl ?_
      refine xe_aload_n dX12_moves_162 rfl rfl ?_
      obtain ⟨a94, e95, t96, hF⟩ := gI_inv hF
      refine xq_getI dX12_moves_163 fl_SeldomOpsModel_212 xk_11 e95 t96 rfl ?_
      refine xe_iconst (v := 2) dX12_moves_166 (by decide) ?_
      refine xe_isub dX12_moves_167 ?_
      obtain ⟨a98, n99, e100, t101, b102, hF⟩ := aI_inv hF
      refine xq_iald dX12_moves_168 e100 t101 b102 ?_
      obtain ⟨a104, n105, e106, t107, b108, hF⟩ := sI_inv hF
      refine xq_iast dX12_moves_169 e106 t107 b108 ?_
      refine xe_aload_n dX12_moves_170 rfl rfl ?_
      obtain ⟨a111, e112, t113, hF⟩ := gR_inv hF
      refine xq_getR dX12_moves_171 fl_SeldomOpsModel_90 xk_11 e112 t113 rfl ?_
      refine xe_aload_n dX12_moves_174 rfl rfl ?_
      obtain ⟨a115, e116, t117, hF⟩ := gI_inv hF
      refine xq_getI dX12_moves_175 fl_SeldomOpsModel_212 xk_11 e116 t117 rfl ?_
      refine xe_iconst (v := 2) dX12_moves_178 (by decide) ?_
      refine xe_isub dX12_moves_179 ?_
      refine xe_iload_n dX12_moves_180 rfl rfl ?_
      obtain ⟨a119, n120, e121, t122, b123, hF⟩ := sI_inv hF
      refine xq_iast dX12_moves_181 e121 t122 b123 ?_
      refine xe_iconst (v := 1) dX12_moves_182 (by decide) ?_
      obtain ⟨z125, hF⟩ := bz_inv hF
      exact xe_ireturn dX12_moves_183 (xPZ_ret z125 hF)
/-! SeldomOpsModel.isIn(II)Z -/
def BX12_isIn_38 (s0 : Int32) (s1 : Int32) (h0 : Hp) : Option (Int32 × Hp) :=
  if (s0 : Int32) = s1 then
    bz 1 (some (1, h0))
  else
    bz 0 (some (0, h0))
set_option maxRecDepth 100000 in
set_option maxHeartbeats 4000000 in
theorem BX12_isIn_38_ok {G : xG} {l : Launch} {s0 : Int32} {s1 : Int32} {h0 h1 : Hp} {r : Int32} (hF : BX12_isIn_38 s0 s1 h0 = some (r, h1)) : xv G l mX12_isIn 2 0 0 38 [] [.int s1, .int s0] h0 (xPZ r h1) := by
  unfold BX12_isIn_38 at hF
  refine xe_icmp_ne (tgt := 45) dX12_isIn_38 (by decide) (fun c1 => ?_) (fun c1 => ?_)
  · replace hF := if_p c1 hF
    refine xe_iconst (v := 1) dX12_isIn_41 (by decide) ?_
    refine xe_goto (tgt := 46) dX12_isIn_42 (by decide) ?_
    obtain ⟨z2, hF⟩ := bz_inv hF
    exact xe_ireturn dX12_isIn_46 (xPZ_ret z2 hF)
  · replace hF := if_n c1 hF
    refine xe_iconst (v := 0) dX12_isIn_45 (by decide) ?_
    obtain ⟨z3, hF⟩ := bz_inv hF
    exact xe_ireturn dX12_isIn_46 (xPZ_ret z3 hF)
def FX12_isIn (p0 : Option Nat) (p1 : Int32) (p2 : Int32) (h0 : Hp) : Option (Int32 × Hp) :=
  gR h0 p0 11 31 fun v1 =>
  aI h0 v1 .int p1 fun v5 =>
  if (v5 : Int32) = p2 then
    cl (FX12_wordsOf p2 h0) fun v12 h13 =>
    if (v12 : Int32) = 1 then
      bz 1 (some (1, h13))
    else
      gR h13 p0 11 31 fun v17 =>
      aI h13 v17 .int (p1 + 1) fun v21 =>
      if (p2 : Int32) = 1 then
        BX12_isIn_38 v21 6 h13
      else
        BX12_isIn_38 v21 7 h13
  else
    bz 0 (some (0, h0))
set_option maxRecDepth 100000 in
set_option maxHeartbeats 4000000 in
theorem FX12_isIn_ok {G : xG} {l : Launch} {p0 : Option Nat} {p1 : Int32} {p2 : Int32} {h0 h1 : Hp} {r : Int32} (hF : FX12_isIn p0 p1 p2 h0 = some (r, h1)) : xc G l mX12_isIn 2 0 0 [va_rf p0, .int p1, .int p2] h0 (xPZ r h1) := by
  refine xo_Z [.inr (.inr _), .inl _, .inl _] (by decide) (Nat.le_of_ble_eq_true rfl) rfl ?_
  show xv _ _ _ _ _ _ _ [(0, false, va_rf p0), (1, false, .int p1), (2, false, .int p2)] _ _ _
  unfold FX12_isIn at hF
  refine xe_aload_n dX12_isIn_0 rfl rfl ?_
  obtain ⟨a2, e3, t4, hF⟩ := gR_inv hF
  refine xq_getR dX12_isIn_1 fl_SeldomOpsModel_93 xk_11 e3 t4 rfl ?_
  refine xe_iload_n dX12_isIn_4 rfl rfl ?_
  obtain ⟨a6, n7, e8, t9, b10, hF⟩ := aI_inv hF
  refine xq_iald dX12_isIn_5 e8 t9 b10 ?_
  refine xe_iload_n dX12_isIn_6 rfl rfl ?_
  refine xe_icmp_ne (tgt := 45) dX12_isIn_7 (by decide) (fun c11 => ?_) (fun c11 => ?_)
  · replace hF := if_p c11 hF
    refine xe_iload_n dX12_isIn_10 rfl rfl ?_
    obtain ⟨v12, h13, o14, hF⟩ := cl_inv hF
    refine xz (xq_callS (As := [.int _]) (rest := []) dX12_isIn_11 mk_X12_wordsOf ⟨tw_1190, tw_1191⟩ (FX12_wordsOf_ok o14) xP_q (by decide) (by decide) rfl rfl ?_)
    refine xe_iconst (v := 1) dX12_isIn_14 (by decide) ?_
    refine xe_icmp_eq (tgt := 41) dX12_isIn_15 (by decide) (fun c15 => ?_) (fun c15 => ?_)
    · replace hF := if_p c15 hF
      refine xe_iconst (v := 1) dX12_isIn_41 (by decide) ?_
      refine xe_goto (tgt := 46) dX12_isIn_42 (by decide) ?_
      obtain ⟨z16, hF⟩ := bz_inv hF
      exact xe_ireturn dX12_isIn_46 (xPZ_ret z16 hF)
    · replace hF := if_n c15 hF
      refine xe_aload_n dX12_isIn_18 rfl rfl ?_
      obtain ⟨a18, e19, t20, hF⟩ := gR_inv hF
      refine xq_getR dX12_isIn_19 fl_SeldomOpsModel_93 xk_11 e19 t20 rfl ?_
      refine xe_iload_n dX12_isIn_22 rfl rfl ?_
      refine xe_iconst (v := 1) dX12_isIn_23 (by decide) ?_
      refine xe_iadd dX12_isIn_24 ?_
      obtain ⟨a22, n23, e24, t25, b26, hF⟩ := aI_inv hF
      refine xq_iald dX12_isIn_25 e24 t25 b26 ?_
      refine xe_iload_n dX12_isIn_26 rfl rfl ?_
      refine xe_iconst (v := 1) dX12_isIn_27 (by decide) ?_
      refine xe_icmp_ne (tgt := 36) dX12_isIn_28 (by decide) (fun c27 => ?_) (fun c27 => ?_)
      · replace hF := if_p c27 hF
        refine xe_bipush (v := 6) dX12_isIn_31 (by decide) ?_
        refine xe_goto (tgt := 38) dX12_isIn_33 (by decide) ?_
        exact xv.lv (BX12_isIn_38_ok hF) xsub_nil
      · replace hF := if_n c27 hF
        refine xe_bipush (v := 7) dX12_isIn_36 (by decide) ?_
        exact xv.lv (BX12_isIn_38_ok hF) xsub_nil
  · replace hF := if_n c11 hF
    refine xe_iconst (v := 0) dX12_isIn_45 (by decide) ?_
    obtain ⟨z28, hF⟩ := bz_inv hF
    exact xe_ireturn dX12_isIn_46 (xPZ_ret z28 hF)
/-! SeldomOpsModel.store(II)V -/
def BX12_store_79 (x0 : Option Nat) (x1 : Int32) (x2 : Int32) (x3 : Int32) (h0 : Hp) : Option (Unit × Hp) :=
  gR h0 x0 11 31 fun v1 =>
  sI h0 v1 x1 x2 fun h5 =>
  if (x1 : Int32) < x3 then
    gR h5 x0 11 31 fun v13 =>
    if (x2 : Int32) = 1 then
      sI h5 v13 x3 6 fun h18 =>
      some ((), h18)
    else
      sI h5 v13 x3 7 fun h25 =>
      some ((), h25)
  else
    some ((), h5)
set_option maxRecDepth 100000 in
set_option maxHeartbeats 4000000 in
theorem BX12_store_79_ok {G : xG} {l : Launch} {x0 : Option Nat} {x1 : Int32} {x2 : Int32} {x3 : Int32} {h0 h1 : Hp} {r : Unit} (hF : BX12_store_79 x0 x1 x2 x3 h0 = some (r, h1)) : xv G l mX12_store 2 0 0 79 [(0, false, va_rf x0), (1, false, .int x1), (2, false, .int x2), (3, false, .int x3)] [] h0 (xP mkV r h1) := by
  unfold BX12_store_79 at hF
  refine xe_aload_n dX12_store_79 rfl rfl ?_
  obtain ⟨a2, e3, t4, hF⟩ := gR_inv hF
  refine xq_getR dX12_store_80 fl_SeldomOpsModel_93 xk_11 e3 t4 rfl ?_
  refine xe_iload_n dX12_store_83 rfl rfl ?_
  refine xe_iload_n dX12_store_84 rfl rfl ?_
  obtain ⟨a6, n7, e8, t9, b10, hF⟩ := sI_inv hF
  refine xq_iast dX12_store_85 e8 t9 b10 ?_
  refine xe_iload_n dX12_store_86 rfl rfl ?_
  refine xe_iload_n dX12_store_87 rfl rfl ?_
  refine xe_icmp_le (tgt := 109) dX12_store_88 (by decide) (fun c12 => ?_) (fun c12 => ?_)
  · replace hF := if_p c12 hF
    refine xe_aload_n dX12_store_91 rfl rfl ?_
    obtain ⟨a14, e15, t16, hF⟩ := gR_inv hF
    refine xq_getR dX12_store_92 fl_SeldomOpsModel_93 xk_11 e15 t16 rfl ?_
    refine xe_iload_n dX12_store_95 rfl rfl ?_
    refine xe_iload_n dX12_store_96 rfl rfl ?_
    refine xe_iconst (v := 1) dX12_store_97 (by decide) ?_
    refine xe_icmp_ne (tgt := 106) dX12_store_98 (by decide) (fun c17 => ?_) (fun c17 => ?_)
    · replace hF := if_p c17 hF
      refine xe_bipush (v := 6) dX12_store_101 (by decide) ?_
      refine xe_goto (tgt := 108) dX12_store_103 (by decide) ?_
      obtain ⟨a19, n20, e21, t22, b23, hF⟩ := sI_inv hF
      refine xq_iast dX12_store_108 e21 t22 b23 ?_
      exact xe_return dX12_store_109 (xP_ret (mk := mkV) hF)
    · replace hF := if_n c17 hF
      refine xe_bipush (v := 7) dX12_store_106 (by decide) ?_
      obtain ⟨a26, n27, e28, t29, b30, hF⟩ := sI_inv hF
      refine xq_iast dX12_store_108 e28 t29 b30 ?_
      exact xe_return dX12_store_109 (xP_ret (mk := mkV) hF)
  · replace hF := if_n c12 hF
    exact xe_return dX12_store_109 (xP_ret (mk := mkV) hF)
def BX12_store_70 (x0 : Option Nat) (x1 : Int32) (x2 : Int32) (x3 : Int32) (h0 : Hp) : Option (Unit × Hp) :=
  gR h0 x0 11 31 fun v1 =>
  sI h0 v1 (x3 + 1) 5 fun h5 =>
  BX12_store_79 x0 x1 x2 x3 h5
set_option maxRecDepth 100000 in
set_option maxHeartbeats 4000000 in
theorem BX12_store_70_ok {G : xG} {l : Launch} {x0 : Option Nat} {x1 : Int32} {x2 : Int32} {x3 : Int32} {h0 h1 : Hp} {r : Unit} (hF : BX12_store_70 x0 x1 x2 x3 h0 = some (r, h1)) : xv G l mX12_store 2 0 0 70 [(0, false, va_rf x0), (1, false, .int x1), (2, false, .int x2), (3, false, .int x3)] [] h0 (xP mkV r h1) := by
  unfold BX12_store_70 at hF
  refine xe_aload_n dX12_store_70 rfl rfl ?_
  obtain ⟨a2, e3, t4, hF⟩ := gR_inv hF
  refine xq_getR dX12_store_71 fl_SeldomOpsModel_93 xk_11 e3 t4 rfl ?_
  refine xe_iload_n dX12_store_74 rfl rfl ?_
  refine xe_iconst (v := 1) dX12_store_75 (by decide) ?_
  refine xe_iadd dX12_store_76 ?_
  refine xe_iconst (v := 5) dX12_store_77 (by decide) ?_
  obtain ⟨a6, n7, e8, t9, b10, hF⟩ := sI_inv hF
  refine xq_iast dX12_store_78 e8 t9 b10 ?_
  exact xv.lv (BX12_store_79_ok hF) (xsub_cons rfl (xsub_cons rfl (xsub_cons rfl (xsub_cons rfl xsub_nil))))
def BX12_store_44 (x0 : Option Nat) (x1 : Int32) (x2 : Int32) (x3 : Int32) (h0 : Hp) : Option (Unit × Hp) :=
  if (x3 : Int32) < 15 then
    gR h0 x0 11 31 fun v2 =>
    aI h0 v2 .int x3 fun v6 =>
    if (v6 : Int32) = 1 then
      BX12_store_70 x0 x1 x2 x3 h0
    else
      gR h0 x0 11 31 fun v13 =>
      aI h0 v13 .int x3 fun v17 =>
      if (v17 : Int32) = 3 then
        BX12_store_70 x0 x1 x2 x3 h0
      else
        BX12_store_79 x0 x1 x2 x3 h0
  else
    BX12_store_79 x0 x1 x2 x3 h0
set_option maxRecDepth 100000 in
set_option maxHeartbeats 4000000 in
theorem BX12_store_44_ok {G : xG} {l : Launch} {x0 : Option Nat} {x1 : Int32} {x2 : Int32} {x3 : Int32} {h0 h1 : Hp} {r : Unit} (hF : BX12_store_44 x0 x1 x2 x3 h0 = some (r, h1)) : xv G l mX12_store 2 0 0 44 [(0, false, va_rf x0), (1, false, .int x1), (2, false, .int x2), (3, false, .int x3)] [] h0 (xP mkV r h1) := by
  unfold BX12_store_44 at hF
  refine xe_iload_n dX12_store_44 rfl rfl ?_
  refine xe_bipush (v := 15) dX12_store_45 (by decide) ?_
  refine xe_icmp_ge (tgt := 79) dX12_store_47 (by decide) (fun c1 => ?_) (fun c1 => ?_)
  · replace hF := if_p c1 hF
    refine xe_aload_n dX12_store_50 rfl rfl ?_
    obtain ⟨a3, e4, t5, hF⟩ := gR_inv hF
    refine xq_getR dX12_store_51 fl_SeldomOpsModel_93 xk_11 e4 t5 rfl ?_
    refine xe_iload_n dX12_store_54 rfl rfl ?_
    obtain ⟨a7, n8, e9, t10, b11, hF⟩ := aI_inv hF
    refine xq_iald dX12_store_55 e9 t10 b11 ?_
    refine xe_iconst (v := 1) dX12_store_56 (by decide) ?_
    refine xe_icmp_eq (tgt := 70) dX12_store_57 (by decide) (fun c12 => ?_) (fun c12 => ?_)
    · replace hF := if_p c12 hF
      exact xv.lv (BX12_store_70_ok hF) (xsub_cons rfl (xsub_cons rfl (xsub_cons rfl (xsub_cons rfl xsub_nil))))
    · replace hF := if_n c12 hF
      refine xe_aload_n dX12_store_60 rfl rfl ?_
      obtain ⟨a14, e15, t16, hF⟩ := gR_inv hF
      refine xq_getR dX12_store_61 fl_SeldomOpsModel_93 xk_11 e15 t16 rfl ?_
      refine xe_iload_n dX12_store_64 rfl rfl ?_
      obtain ⟨a18, n19, e20, t21, b22, hF⟩ := aI_inv hF
      refine xq_iald dX12_store_65 e20 t21 b22 ?_
      refine xe_iconst (v := 3) dX12_store_66 (by decide) ?_
      refine xe_icmp_ne (tgt := 79) dX12_store_67 (by decide) (fun c23 => ?_) (fun c23 => ?_)
      · replace hF := if_p c23 hF
        exact xv.lv (BX12_store_70_ok hF) (xsub_cons rfl (xsub_cons rfl (xsub_cons rfl (xsub_cons rfl xsub_nil))))
      · replace hF := if_n c23 hF
        exact xv.lv (BX12_store_79_ok hF) (xsub_cons rfl (xsub_cons rfl (xsub_cons rfl (xsub_cons rfl xsub_nil))))
  · replace hF := if_n c1 hF
    exact xv.lv (BX12_store_79_ok hF) (xsub_cons rfl (xsub_cons rfl (xsub_cons rfl (xsub_cons rfl xsub_nil))))
def BX12_store_35 (x0 : Option Nat) (x1 : Int32) (x2 : Int32) (x3 : Int32) (h0 : Hp) : Option (Unit × Hp) :=
  gR h0 x0 11 31 fun v1 =>
  sI h0 v1 (x1 - 1) 5 fun h5 =>
  BX12_store_44 x0 x1 x2 x3 h5
set_option maxRecDepth 100000 in
set_option maxHeartbeats 4000000 in
theorem BX12_store_35_ok {G : xG} {l : Launch} {x0 : Option Nat} {x1 : Int32} {x2 : Int32} {x3 : Int32} {h0 h1 : Hp} {r : Unit} (hF : BX12_store_35 x0 x1 x2 x3 h0 = some (r, h1)) : xv G l mX12_store 2 0 0 35 [(0, false, va_rf x0), (1, false, .int x1), (2, false, .int x2), (3, false, .int x3)] [] h0 (xP mkV r h1) := by
  unfold BX12_store_35 at hF
  refine xe_aload_n dX12_store_35 rfl rfl ?_
  obtain ⟨a2, e3, t4, hF⟩ := gR_inv hF
  refine xq_getR dX12_store_36 fl_SeldomOpsModel_93 xk_11 e3 t4 rfl ?_
  refine xe_iload_n dX12_store_39 rfl rfl ?_
  refine xe_iconst (v := 1) dX12_store_40 (by decide) ?_
  refine xe_isub dX12_store_41 ?_
  refine xe_iconst (v := 5) dX12_store_42 (by decide) ?_
  obtain ⟨a6, n7, e8, t9, b10, hF⟩ := sI_inv hF
  refine xq_iast dX12_store_43 e8 t9 b10 ?_
  exact xv.lv (BX12_store_44_ok hF) (xsub_cons rfl (xsub_cons rfl (xsub_cons rfl (xsub_cons rfl xsub_nil))))
def FX12_store (p0 : Option Nat) (p1 : Int32) (p2 : Int32) (h0 : Hp) : Option (Unit × Hp) :=
  cl (FX12_wordsOf p2 h0) fun v1 h2 =>
  if (0 : Int32) < p1 then
    gR h2 p0 11 31 fun v5 =>
    aI h2 v5 .int p1 fun v9 =>
    if (v9 : Int32) = 6 then
      BX12_store_35 p0 p1 p2 ((p1 + v1) - 1) h2
    else
      gR h2 p0 11 31 fun v16 =>
      aI h2 v16 .int p1 fun v20 =>
      if (v20 : Int32) = 7 then
        BX12_store_35 p0 p1 p2 ((p1 + v1) - 1) h2
      else
        BX12_store_44 p0 p1 p2 ((p1 + v1) - 1) h2
  else
    BX12_store_44 p0 p1 p2 ((p1 + v1) - 1) h2
set_option maxRecDepth 100000 in
set_option maxHeartbeats 4000000 in
theorem FX12_store_ok {G : xG} {l : Launch} {p0 : Option Nat} {p1 : Int32} {p2 : Int32} {h0 h1 : Hp} {r : Unit} (hF : FX12_store p0 p1 p2 h0 = some (r, h1)) : xc G l mX12_store 2 0 0 [va_rf p0, .int p1, .int p2] h0 (xP mkV r h1) := by
  refine xo_V [.inr (.inr _), .inl _, .inl _] (by decide) (Nat.le_of_ble_eq_true rfl) rfl ?_
  show xv _ _ _ _ _ _ _ [(0, false, va_rf p0), (1, false, .int p1), (2, false, .int p2)] _ _ _
  unfold FX12_store at hF
  refine xe_iload_n dX12_store_0 rfl rfl ?_
  refine xe_iload_n dX12_store_1 rfl rfl ?_
  obtain ⟨v1, h2, o3, hF⟩ := cl_inv hF
  refine xz (xq_callS (As := [.int _]) (rest := [.int _]) dX12_store_2 mk_X12_wordsOf ⟨tw_1190, tw_1191⟩ (FX12_wordsOf_ok o3) xP_q (by decide) (Nat.le_trans (cs_i cs_0) (by decide)) rfl rfl ?_)
  refine xe_iadd dX12_store_5 ?_
  refine xe_iconst (v := 1) dX12_store_6 (by decide) ?_
  refine xe_isub dX12_store_7 ?_
  refine xe_istore_n dX12_store_8 rfl (by decide) ?_
  refine xe_iload_n dX12_store_9 rfl rfl ?_
  refine xe_if_le (tgt := 44) dX12_store_10 (by decide) (fun c4 => ?_) (fun c4 => ?_)
  · replace hF := if_p c4 hF
    refine xe_aload_n dX12_store_13 rfl rfl ?_
    obtain ⟨a6, e7, t8, hF⟩ := gR_inv hF
    refine xq_getR dX12_store_14 fl_SeldomOpsModel_93 xk_11 e7 t8 rfl ?_
    refine xe_iload_n dX12_store_17 rfl rfl ?_
    obtain ⟨a10, n11, e12, t13, b14, hF⟩ := aI_inv hF
    refine xq_iald dX12_store_18 e12 t13 b14 ?_
    refine xe_bipush (v := 6) dX12_store_19 (by decide) ?_
    refine xe_icmp_eq (tgt := 35) dX12_store_21 (by decide) (fun c15 => ?_) (fun c15 => ?_)
    · replace hF := if_p c15 hF
      exact xv.lv (BX12_store_35_ok hF) (xsub_cons rfl (xsub_cons rfl (xsub_cons rfl (xsub_cons rfl xsub_nil))))
    · replace hF := if_n c15 hF
      refine xe_aload_n dX12_store_24 rfl rfl ?_
      obtain ⟨a17, e18, t19, hF⟩ := gR_inv hF
      refine xq_getR dX12_store_25 fl_SeldomOpsModel_93 xk_11 e18 t19 rfl ?_
      refine xe_iload_n dX12_store_28 rfl rfl ?_
      obtain ⟨a21, n22, e23, t24, b25, hF⟩ := aI_inv hF
      refine xq_iald dX12_store_29 e23 t24 b25 ?_
      refine xe_bipush (v := 7) dX12_store_30 (by decide) ?_
      refine xe_icmp_ne (tgt := 44) dX12_store_32 (by decide) (fun c26 => ?_) (fun c26 => ?_)
      · replace hF := if_p c26 hF
        exact xv.lv (BX12_store_35_ok hF) (xsub_cons rfl (xsub_cons rfl (xsub_cons rfl (xsub_cons rfl xsub_nil))))
      · replace hF := if_n c26 hF
        exact xv.lv (BX12_store_44_ok hF) (xsub_cons rfl (xsub_cons rfl (xsub_cons rfl (xsub_cons rfl xsub_nil))))
  · replace hF := if_n c4 hF
    exact xv.lv (BX12_store_44_ok hF) (xsub_cons rfl (xsub_cons rfl (xsub_cons rfl (xsub_cons rfl xsub_nil))))
/-! SeldomOpsModel.keep()V -/
def BX12_keep_38 : Nat → Option Nat → Int32 → Hp → Option (Unit × Hp)
  | 0, _, _, _ => none
  | n + 1, x0, x1, h0 =>
    if (x1 : Int32) < 16 then
      gR h0 x0 11 39 fun v2 =>
      gR h0 x0 11 31 fun v6 =>
      aI h0 v6 .int x1 fun v10 =>
      sI h0 v2 x1 v10 fun h16 =>
      BX12_keep_38 n x0 (x1 + 1) h16
    else
      some ((), h0)
set_option maxRecDepth 100000 in
set_option maxHeartbeats 4000000 in
theorem BX12_keep_38_ok {G : xG} {l : Launch} : ∀ (n : Nat) {x0 : Option Nat} {x1 : Int32} {h0 h1 : Hp} {r : Unit} (hF : BX12_keep_38 n x0 x1 h0 = some (r, h1)), xv G l mX12_keep 1 0 0 38 [(0, false, va_rf x0), (1, false, .int x1)] [] h0 (xP mkV r h1) := by
  intro n
  induction n with
  | zero => intro x0 x1 h0 h1 r hF; cases hF
  | succ n ih =>
    intro x0 x1 h0 h1 r hF
    unfold BX12_keep_38 at hF
    refine xe_iload_n dX12_keep_38 rfl rfl ?_
    refine xe_bipush (v := 16) dX12_keep_39 (by decide) ?_
    refine xe_icmp_ge (tgt := 62) dX12_keep_41 (by decide) (fun c1 => ?_) (fun c1 => ?_)
    · replace hF := if_p c1 hF
      refine xe_aload_n dX12_keep_44 rfl rfl ?_
      obtain ⟨a3, e4, t5, hF⟩ := gR_inv hF
      refine xq_getR dX12_keep_45 fl_SeldomOpsModel_112 xk_11 e4 t5 rfl ?_
      refine xe_iload_n dX12_keep_48 rfl rfl ?_
      refine xe_aload_n dX12_keep_49 rfl rfl ?_
      obtain ⟨a7, e8, t9, hF⟩ := gR_inv hF
      refine xq_getR dX12_keep_50 fl_SeldomOpsModel_93 xk_11 e8 t9 rfl ?_
      refine xe_iload_n dX12_keep_53 rfl rfl ?_
      obtain ⟨a11, n12, e13, t14, b15, hF⟩ := aI_inv hF
      refine xq_iald dX12_keep_54 e13 t14 b15 ?_
      obtain ⟨a17, n18, e19, t20, b21, hF⟩ := sI_inv hF
      refine xq_iast dX12_keep_55 e19 t20 b21 ?_
      refine xe_iinc (v := _ + 1) dX12_keep_56 rfl rfl (by decide) ?_
      refine xe_goto (tgt := 38) dX12_keep_59 (by decide) ?_
      exact xv.lv (ih hF) (xsub_cons rfl (xsub_cons rfl xsub_nil))
    · replace hF := if_n c1 hF
      exact xe_return dX12_keep_62 (xP_ret (mk := mkV) hF)
def BX12_keep_10 : Nat → Option Nat → Int32 → Hp → Option (Unit × Hp)
  | 0, _, _, _ => none
  | n + 1, x0, x1, h0 =>
    gI h0 x0 11 29 fun v1 =>
    if (x1 : Int32) < v1 then
      gR h0 x0 11 38 fun v6 =>
      gR h0 x0 11 30 fun v10 =>
      aI h0 v10 .int x1 fun v14 =>
      sI h0 v6 x1 v14 fun h20 =>
      BX12_keep_10 n x0 (x1 + 1) h20
    else
      BX12_keep_38 100000 x0 0 h0
set_option maxRecDepth 100000 in
set_option maxHeartbeats 4000000 in
theorem BX12_keep_10_ok {G : xG} {l : Launch} : ∀ (n : Nat) {x0 : Option Nat} {x1 : Int32} {h0 h1 : Hp} {r : Unit} (hF : BX12_keep_10 n x0 x1 h0 = some (r, h1)), xv G l mX12_keep 1 0 0 10 [(0, false, va_rf x0), (1, false, .int x1)] [] h0 (xP mkV r h1) := by
  intro n
  induction n with
  | zero => intro x0 x1 h0 h1 r hF; cases hF
  | succ n ih =>
    intro x0 x1 h0 h1 r hF
    unfold BX12_keep_10 at hF
    refine xe_iload_n dX12_keep_10 rfl rfl ?_
    refine xe_aload_n dX12_keep_11 rfl rfl ?_
    obtain ⟨a2, e3, t4, hF⟩ := gI_inv hF
    refine xq_getI dX12_keep_12 fl_SeldomOpsModel_212 xk_11 e3 t4 rfl ?_
    refine xe_icmp_ge (tgt := 36) dX12_keep_15 (by decide) (fun c5 => ?_) (fun c5 => ?_)
    · replace hF := if_p c5 hF
      refine xe_aload_n dX12_keep_18 rfl rfl ?_
      obtain ⟨a7, e8, t9, hF⟩ := gR_inv hF
      refine xq_getR dX12_keep_19 fl_SeldomOpsModel_109 xk_11 e8 t9 rfl ?_
      refine xe_iload_n dX12_keep_22 rfl rfl ?_
      refine xe_aload_n dX12_keep_23 rfl rfl ?_
      obtain ⟨a11, e12, t13, hF⟩ := gR_inv hF
      refine xq_getR dX12_keep_24 fl_SeldomOpsModel_90 xk_11 e12 t13 rfl ?_
      refine xe_iload_n dX12_keep_27 rfl rfl ?_
      obtain ⟨a15, n16, e17, t18, b19, hF⟩ := aI_inv hF
      refine xq_iald dX12_keep_28 e17 t18 b19 ?_
      obtain ⟨a21, n22, e23, t24, b25, hF⟩ := sI_inv hF
      refine xq_iast dX12_keep_29 e23 t24 b25 ?_
      refine xe_iinc (v := _ + 1) dX12_keep_30 rfl rfl (by decide) ?_
      refine xe_goto (tgt := 10) dX12_keep_33 (by decide) ?_
      exact xv.lv (ih hF) (xsub_cons rfl (xsub_cons rfl xsub_nil))
    · replace hF := if_n c5 hF
      refine xe_iconst (v := 0) dX12_keep_36 (by decide) ?_
      refine xe_istore_n dX12_keep_37 rfl (by decide) ?_
      exact xv.lv (BX12_keep_38_ok _ hF) (xsub_cons rfl (xsub_cons rfl xsub_nil))
def FX12_keep (p0 : Option Nat) (h0 : Hp) : Option (Unit × Hp) :=
  gI h0 p0 11 29 fun v1 =>
  pI h0 p0 11 37 v1 fun h8 =>
  BX12_keep_10 100000 p0 0 h8
set_option maxRecDepth 100000 in
set_option maxHeartbeats 4000000 in
theorem FX12_keep_ok {G : xG} {l : Launch} {p0 : Option Nat} {h0 h1 : Hp} {r : Unit} (hF : FX12_keep p0 h0 = some (r, h1)) : xc G l mX12_keep 1 0 0 [va_rf p0] h0 (xP mkV r h1) := by
  refine xo_V [.inr (.inr _)] (by decide) (Nat.le_of_ble_eq_true rfl) rfl ?_
  show xv _ _ _ _ _ _ _ [(0, false, va_rf p0)] _ _ _
  unfold FX12_keep at hF
  refine xe_aload_n dX12_keep_0 rfl rfl ?_
  refine xe_aload_n dX12_keep_1 rfl rfl ?_
  obtain ⟨a2, e3, t4, hF⟩ := gI_inv hF
  refine xq_getI dX12_keep_2 fl_SeldomOpsModel_212 xk_11 e3 t4 rfl ?_
  obtain ⟨a5, e6, t7, hF⟩ := pI_inv hF
  refine xq_putI dX12_keep_5 fl_SeldomOpsModel_272 xk_11 (by decide) (fun z => by cases z) e6 t7 (Or.inl rfl) ?_
  refine xe_iconst (v := 0) dX12_keep_8 (by decide) ?_
  refine xe_istore_n dX12_keep_9 rfl (by decide) ?_
  exact xv.lv (BX12_keep_10_ok _ hF) (xsub_cons rfl (xsub_cons rfl xsub_nil))
/-! SeldomOpsModel.goOn(II)I -/
def BX12_goOn_38 : Nat → Option Nat → Int32 → Int32 → Int32 → Hp → Option (Int32 × Hp)
  | 0, _, _, _, _, _ => none
  | n + 1, x0, x1, x2, x3, h0 =>
    if (x3 : Int32) < 16 then
      gR h0 x0 11 31 fun v2 =>
      gR h0 x0 11 39 fun v6 =>
      aI h0 v6 .int x3 fun v10 =>
      sI h0 v2 x3 v10 fun h16 =>
      BX12_goOn_38 n x0 x1 x2 (x3 + 1) h16
    else
      rcv h0 x0 11 <|
      cl (FX12_come x0 x1 x2 h0) fun v23 h24 =>
      if (v23 : Int32) = 0 then
        some (0, h24)
      else
        rcv h24 x0 11 <|
        cl (FX12_wrong x0 x1 x2 6 h24) fun v30 h31 =>
        some (v30, h31)
set_option maxRecDepth 100000 in
set_option maxHeartbeats 4000000 in
theorem BX12_goOn_38_ok {G : xG} {l : Launch} : ∀ (n : Nat) {x0 : Option Nat} {x1 : Int32} {x2 : Int32} {x3 : Int32} {h0 h1 : Hp} {r : Int32} (hF : BX12_goOn_38 n x0 x1 x2 x3 h0 = some (r, h1)), xv G l mX12_goOn 2 0 0 38 [(0, false, va_rf x0), (1, false, .int x1), (2, false, .int x2), (3, false, .int x3)] [] h0 (xP mkI r h1) := by
  intro n
  induction n with
  | zero => intro x0 x1 x2 x3 h0 h1 r hF; cases hF
  | succ n ih =>
    intro x0 x1 x2 x3 h0 h1 r hF
    unfold BX12_goOn_38 at hF
    refine xe_iload_n dX12_goOn_38 rfl rfl ?_
    refine xe_bipush (v := 16) dX12_goOn_39 (by decide) ?_
    refine xe_icmp_ge (tgt := 62) dX12_goOn_41 (by decide) (fun c1 => ?_) (fun c1 => ?_)
    · replace hF := if_p c1 hF
      refine xe_aload_n dX12_goOn_44 rfl rfl ?_
      obtain ⟨a3, e4, t5, hF⟩ := gR_inv hF
      refine xq_getR dX12_goOn_45 fl_SeldomOpsModel_93 xk_11 e4 t5 rfl ?_
      refine xe_iload_n dX12_goOn_48 rfl rfl ?_
      refine xe_aload_n dX12_goOn_49 rfl rfl ?_
      obtain ⟨a7, e8, t9, hF⟩ := gR_inv hF
      refine xq_getR dX12_goOn_50 fl_SeldomOpsModel_112 xk_11 e8 t9 rfl ?_
      refine xe_iload_n dX12_goOn_53 rfl rfl ?_
      obtain ⟨a11, n12, e13, t14, b15, hF⟩ := aI_inv hF
      refine xq_iald dX12_goOn_54 e13 t14 b15 ?_
      obtain ⟨a17, n18, e19, t20, b21, hF⟩ := sI_inv hF
      refine xq_iast dX12_goOn_55 e19 t20 b21 ?_
      refine xe_iinc (v := _ + 1) dX12_goOn_56 rfl rfl (by decide) ?_
      refine xe_goto (tgt := 38) dX12_goOn_59 (by decide) ?_
      exact xv.lv (ih hF) (xsub_cons rfl (xsub_cons rfl (xsub_cons rfl (xsub_cons rfl xsub_nil))))
    · replace hF := if_n c1 hF
      refine xe_aload_n dX12_goOn_62 rfl rfl ?_
      refine xe_iload_n dX12_goOn_63 rfl rfl ?_
      refine xe_iload_n dX12_goOn_64 rfl rfl ?_
      obtain ⟨a28, e26, t27, hF⟩ := rcv_inv hF
      obtain ⟨v23, h24, o25, hF⟩ := cl_inv hF
      refine xz (xq_callV (As := [.int _, .int _]) (rest := []) dX12_goOn_65 mk_X12_come ⟨tw_1239, tw_1241, ts_41⟩ (ci := 11) rfl e26 t27 (FX12_come_ok o25) xP_q (by decide) (by decide) rfl rfl ?_)
      refine xe_if_ne (tgt := 75) dX12_goOn_68 (by decide) (fun c29 => ?_) (fun c29 => ?_)
      · replace hF := if_p c29 hF
        refine xe_iconst (v := 0) dX12_goOn_71 (by decide) ?_
        refine xe_goto (tgt := 83) dX12_goOn_72 (by decide) ?_
        exact xe_ireturn dX12_goOn_83 (xP_ret (mk := mkI) hF)
      · replace hF := if_n c29 hF
        refine xe_aload_n dX12_goOn_75 rfl rfl ?_
        refine xe_iload_n dX12_goOn_76 rfl rfl ?_
        refine xe_iload_n dX12_goOn_77 rfl rfl ?_
        refine xe_bipush (v := 6) dX12_goOn_78 (by decide) ?_
        obtain ⟨a35, e33, t34, hF⟩ := rcv_inv hF
        obtain ⟨v30, h31, o32, hF⟩ := cl_inv hF
        refine xz (xq_callV (As := [.int _, .int _, .int _]) (rest := []) dX12_goOn_80 mk_X12_wrong ⟨tw_1231, tw_1233, ts_39⟩ (ci := 11) rfl e33 t34 (FX12_wrong_ok o32) xP_q (by decide) (by decide) rfl rfl ?_)
        exact xe_ireturn dX12_goOn_83 (xP_ret (mk := mkI) hF)
def BX12_goOn_10 : Nat → Option Nat → Int32 → Int32 → Int32 → Hp → Option (Int32 × Hp)
  | 0, _, _, _, _, _ => none
  | n + 1, x0, x1, x2, x3, h0 =>
    gI h0 x0 11 29 fun v1 =>
    if (x3 : Int32) < v1 then
      gR h0 x0 11 30 fun v6 =>
      gR h0 x0 11 38 fun v10 =>
      aI h0 v10 .int x3 fun v14 =>
      sI h0 v6 x3 v14 fun h20 =>
      BX12_goOn_10 n x0 x1 x2 (x3 + 1) h20
    else
      BX12_goOn_38 100000 x0 x1 x2 0 h0
set_option maxRecDepth 100000 in
set_option maxHeartbeats 4000000 in
theorem BX12_goOn_10_ok {G : xG} {l : Launch} : ∀ (n : Nat) {x0 : Option Nat} {x1 : Int32} {x2 : Int32} {x3 : Int32} {h0 h1 : Hp} {r : Int32} (hF : BX12_goOn_10 n x0 x1 x2 x3 h0 = some (r, h1)), xv G l mX12_goOn 2 0 0 10 [(0, false, va_rf x0), (1, false, .int x1), (2, false, .int x2), (3, false, .int x3)] [] h0 (xP mkI r h1) := by
  intro n
  induction n with
  | zero => intro x0 x1 x2 x3 h0 h1 r hF; cases hF
  | succ n ih =>
    intro x0 x1 x2 x3 h0 h1 r hF
    unfold BX12_goOn_10 at hF
    refine xe_iload_n dX12_goOn_10 rfl rfl ?_
    refine xe_aload_n dX12_goOn_11 rfl rfl ?_
    obtain ⟨a2, e3, t4, hF⟩ := gI_inv hF
    refine xq_getI dX12_goOn_12 fl_SeldomOpsModel_212 xk_11 e3 t4 rfl ?_
    refine xe_icmp_ge (tgt := 36) dX12_goOn_15 (by decide) (fun c5 => ?_) (fun c5 => ?_)
    · replace hF := if_p c5 hF
      refine xe_aload_n dX12_goOn_18 rfl rfl ?_
      obtain ⟨a7, e8, t9, hF⟩ := gR_inv hF
      refine xq_getR dX12_goOn_19 fl_SeldomOpsModel_90 xk_11 e8 t9 rfl ?_
      refine xe_iload_n dX12_goOn_22 rfl rfl ?_
      refine xe_aload_n dX12_goOn_23 rfl rfl ?_
      obtain ⟨a11, e12, t13, hF⟩ := gR_inv hF
      refine xq_getR dX12_goOn_24 fl_SeldomOpsModel_109 xk_11 e12 t13 rfl ?_
      refine xe_iload_n dX12_goOn_27 rfl rfl ?_
      obtain ⟨a15, n16, e17, t18, b19, hF⟩ := aI_inv hF
      refine xq_iald dX12_goOn_28 e17 t18 b19 ?_
      obtain ⟨a21, n22, e23, t24, b25, hF⟩ := sI_inv hF
      refine xq_iast dX12_goOn_29 e23 t24 b25 ?_
      refine xe_iinc (v := _ + 1) dX12_goOn_30 rfl rfl (by decide) ?_
      refine xe_goto (tgt := 10) dX12_goOn_33 (by decide) ?_
      exact xv.lv (ih hF) (xsub_cons rfl (xsub_cons rfl (xsub_cons rfl (xsub_cons rfl xsub_nil))))
    · replace hF := if_n c5 hF
      refine xe_iconst (v := 0) dX12_goOn_36 (by decide) ?_
      refine xe_istore_n dX12_goOn_37 rfl (by decide) ?_
      exact xv.lv (BX12_goOn_38_ok _ hF) (xsub_cons rfl (xsub_cons rfl (xsub_cons rfl (xsub_cons rfl xsub_nil))))
def FX12_goOn (p0 : Option Nat) (p1 : Int32) (p2 : Int32) (h0 : Hp) : Option (Int32 × Hp) :=
  gI h0 p0 11 37 fun v1 =>
  pI h0 p0 11 29 v1 fun h8 =>
  BX12_goOn_10 100000 p0 p1 p2 0 h8
set_option maxRecDepth 100000 in
set_option maxHeartbeats 4000000 in
theorem FX12_goOn_ok {G : xG} {l : Launch} {p0 : Option Nat} {p1 : Int32} {p2 : Int32} {h0 h1 : Hp} {r : Int32} (hF : FX12_goOn p0 p1 p2 h0 = some (r, h1)) : xc G l mX12_goOn 2 0 0 [va_rf p0, .int p1, .int p2] h0 (xP mkI r h1) := by
  refine xo_I [.inr (.inr _), .inl _, .inl _] (by decide) (Nat.le_of_ble_eq_true rfl) rfl ?_
  show xv _ _ _ _ _ _ _ [(0, false, va_rf p0), (1, false, .int p1), (2, false, .int p2)] _ _ _
  unfold FX12_goOn at hF
  refine xe_aload_n dX12_goOn_0 rfl rfl ?_
  refine xe_aload_n dX12_goOn_1 rfl rfl ?_
  obtain ⟨a2, e3, t4, hF⟩ := gI_inv hF
  refine xq_getI dX12_goOn_2 fl_SeldomOpsModel_272 xk_11 e3 t4 rfl ?_
  obtain ⟨a5, e6, t7, hF⟩ := pI_inv hF
  refine xq_putI dX12_goOn_5 fl_SeldomOpsModel_212 xk_11 (by decide) (fun z => by cases z) e6 t7 (Or.inl rfl) ?_
  refine xe_iconst (v := 0) dX12_goOn_8 (by decide) ?_
  refine xe_istore_n dX12_goOn_9 rfl (by decide) ?_
  exact xv.lv (BX12_goOn_10_ok _ hF) (xsub_cons rfl (xsub_cons rfl (xsub_cons rfl (xsub_cons rfl xsub_nil))))
