/-! SeldomOps$Things.mayStore(II)Z -/
def FX8_mayStore (p0 : Option Nat) (p1 : Int32) (p2 : Int32) (h0 : Hp) : Option (Int32 × Hp) :=
  if (p2 : Int32) = (-1) then
    bz 1 (some (1, h0))
  else
    rcv h0 p0 7 <|
    cl (FX8_isArray p0 p1 h0) fun v3 h4 =>
    if (v3 : Int32) = 0 then
      bz 0 (some (0, h4))
    else
      gR h4 p0 7 0 fun v11 =>
      aI h4 v11 .int p1 fun v15 =>
      rcv h4 p0 7 <|
      cl (FX8_isOfType p0 p2 (v15 - 8) h4) fun v21 h22 =>
      if (v21 : Int32) = 0 then
        bz 0 (some (0, h22))
      else
        bz 1 (some (1, h22))
set_option maxRecDepth 100000 in
set_option maxHeartbeats 4000000 in
theorem FX8_mayStore_ok {G : xG} {l : Launch} {p0 : Option Nat} {p1 : Int32} {p2 : Int32} {h0 h1 : Hp} {r : Int32} (hF : FX8_mayStore p0 p1 p2 h0 = some (r, h1)) : xc G l mX8_mayStore 3 0 0 [va_rf p0, .int p1, .int p2] h0 (xPZ r h1) := by
  refine xo_Z [.inr (.inr _), .inl _, .inl _] (by decide) (Nat.le_of_ble_eq_true rfl) rfl ?_
  show xv _ _ _ _ _ _ _ [(0, false, va_rf p0), (1, false, .int p1), (2, false, .int p2)] _ _ _
  unfold FX8_mayStore at hF
  refine xe_iload_n dX8_mayStore_0 rfl rfl ?_
  refine xe_iconst (v := (-1)) dX8_mayStore_1 (by decide) ?_
  refine xe_icmp_eq (tgt := 30) dX8_mayStore_2 (by decide) (fun c1 => ?_) (fun c1 => ?_)
  · replace hF := if_p c1 hF
    refine xe_iconst (v := 1) dX8_mayStore_30 (by decide) ?_
    refine xe_goto (tgt := 35) dX8_mayStore_31 (by decide) ?_
    obtain ⟨z2, hF⟩ := bz_inv hF
    exact xe_ireturn dX8_mayStore_35 (xPZ_ret z2 hF)
  · replace hF := if_n c1 hF
    refine xe_aload_n dX8_mayStore_5 rfl rfl ?_
    refine xe_iload_n dX8_mayStore_6 rfl rfl ?_
    obtain ⟨a8, e6, t7, hF⟩ := rcv_inv hF
    obtain ⟨v3, h4, o5, hF⟩ := cl_inv hF
    refine xz (xq_callV (As := [.int _]) (rest := []) dX8_mayStore_7 mk_X8_isArray ⟨tw_863, tw_864, tw_865⟩ (ci := 7) rfl e6 t7 (FX8_isArray_ok o5) xPZ_q (by decide) (by decide) rfl rfl ?_)
    refine xe_if_eq (tgt := 34) dX8_mayStore_10 (by decide) (fun c9 => ?_) (fun c9 => ?_)
    · replace hF := if_p c9 hF
      refine xe_iconst (v := 0) dX8_mayStore_34 (by decide) ?_
      obtain ⟨z10, hF⟩ := bz_inv hF
      exact xe_ireturn dX8_mayStore_35 (xPZ_ret z10 hF)
    · replace hF := if_n c9 hF
      refine xe_aload_n dX8_mayStore_13 rfl rfl ?_
      refine xe_iload_n dX8_mayStore_14 rfl rfl ?_
      refine xe_aload_n dX8_mayStore_15 rfl rfl ?_
      obtain ⟨a12, e13, t14, hF⟩ := gR_inv hF
      refine xq_getR dX8_mayStore_16 fl_Things_9 xk_7 e13 t14 rfl ?_
      refine xe_iload_n dX8_mayStore_19 rfl rfl ?_
      obtain ⟨a16, n17, e18, t19, b20, hF⟩ := aI_inv hF
      refine xq_iald dX8_mayStore_20 e18 t19 b20 ?_
      refine xe_bipush (v := 8) dX8_mayStore_21 (by decide) ?_
      refine xe_isub dX8_mayStore_23 ?_
      obtain ⟨a26, e24, t25, hF⟩ := rcv_inv hF
      obtain ⟨v21, h22, o23, hF⟩ := cl_inv hF
      refine xz (xq_callV (As := [.int _, .int _]) (rest := []) dX8_mayStore_24 mk_X8_isOfType ⟨tw_881, tw_882, tw_883⟩ (ci := 7) rfl e24 t25 (FX8_isOfType_ok o23) xPZ_q (by decide) (by decide) rfl rfl ?_)
      refine xe_if_eq (tgt := 34) dX8_mayStore_27 (by decide) (fun c27 => ?_) (fun c27 => ?_)
      · replace hF := if_p c27 hF
        refine xe_iconst (v := 0) dX8_mayStore_34 (by decide) ?_
        obtain ⟨z28, hF⟩ := bz_inv hF
        exact xe_ireturn dX8_mayStore_35 (xPZ_ret z28 hF)
      · replace hF := if_n c27 hF
        refine xe_iconst (v := 1) dX8_mayStore_30 (by decide) ?_
        refine xe_goto (tgt := 35) dX8_mayStore_31 (by decide) ?_
        obtain ⟨z29, hF⟩ := bz_inv hF
        exact xe_ireturn dX8_mayStore_35 (xPZ_ret z29 hF)
/-! SeldomOps$Things.read(II)J -/
def FX8_read (p0 : Option Nat) (p1 : Int32) (p2 : Int32) (h0 : Hp) : Option (Int64 × Hp) :=
  rcv h0 p0 7 <|
  cl (FX8_hasCell p0 p1 p2 h0) fun v1 h2 =>
  if (v1 : Int32) = 0 then
    some (0, h2)
  else
    gR h2 p0 7 3 fun v8 =>
    aL h2 v8 ((p1 * 100) + p2) fun v12 =>
    some (v12, h2)
set_option maxRecDepth 100000 in
set_option maxHeartbeats 4000000 in
theorem FX8_read_ok {G : xG} {l : Launch} {p0 : Option Nat} {p1 : Int32} {p2 : Int32} {h0 h1 : Hp} {r : Int64} (hF : FX8_read p0 p1 p2 h0 = some (r, h1)) : xc G l mX8_read 2 0 0 [va_rf p0, .int p1, .int p2] h0 (xP mkL r h1) := by
  refine xo_L [.inr (.inr _), .inl _, .inl _] (by decide) (Nat.le_of_ble_eq_true rfl) rfl ?_
  show xv _ _ _ _ _ _ _ [(0, false, va_rf p0), (1, false, .int p1), (2, false, .int p2)] _ _ _
  unfold FX8_read at hF
  refine xe_aload_n dX8_read_0 rfl rfl ?_
  refine xe_iload_n dX8_read_1 rfl rfl ?_
  refine xe_iload_n dX8_read_2 rfl rfl ?_
  obtain ⟨a6, e4, t5, hF⟩ := rcv_inv hF
  obtain ⟨v1, h2, o3, hF⟩ := cl_inv hF
  refine xz (xq_callV (As := [.int _, .int _]) (rest := []) dX8_read_3 mk_X8_hasCell ⟨tw_851, tw_852, tw_853⟩ (ci := 7) rfl e4 t5 (FX8_hasCell_ok o3) xPZ_q (by decide) (by decide) rfl rfl ?_)
  refine xe_if_eq (tgt := 23) dX8_read_6 (by decide) (fun c7 => ?_) (fun c7 => ?_)
  · replace hF := if_p c7 hF
    refine xe_lconst (v := 0) dX8_read_23 (by decide) ?_
    exact xe_lreturn dX8_read_24 (xP_ret (mk := mkL) hF)
  · replace hF := if_n c7 hF
    refine xe_aload_n dX8_read_9 rfl rfl ?_
    obtain ⟨a9, e10, t11, hF⟩ := gR_inv hF
    refine xq_getR dX8_read_10 fl_Things_21 xk_7 e10 t11 rfl ?_
    refine xe_iload_n dX8_read_13 rfl rfl ?_
    refine xe_bipush (v := 100) dX8_read_14 (by decide) ?_
    refine xe_imul dX8_read_16 ?_
    refine xe_iload_n dX8_read_17 rfl rfl ?_
    refine xe_iadd dX8_read_18 ?_
    obtain ⟨a13, n14, e15, t16, b17, hF⟩ := aL_inv hF
    refine xq_lald dX8_read_19 e15 t16 b17 ?_
    refine xe_goto (tgt := 24) dX8_read_20 (by decide) ?_
    exact xe_lreturn dX8_read_24 (xP_ret (mk := mkL) hF)
/-! SeldomOps$Things.refuseCell(III)I -/
def FX8_refuseCell (p0 : Option Nat) (p1 : Int32) (p2 : Int32) (p3 : Int32) (h0 : Hp) : Option (Int32 × Hp) :=
  if (p1 : Int32) = (-1) then
    some (1, h0)
  else
    rcv h0 p0 7 <|
    cl (FX8_isArray p0 p1 h0) fun v2 h3 =>
    if (v2 : Int32) = 0 then
      some (5, h3)
    else
      gR h3 p0 7 0 fun v9 =>
      aI h3 v9 .int p1 fun v13 =>
      cl (FX8_cellSort v13 h3) fun v19 h20 =>
      if (v19 : Int32) = p3 then
        rcv h20 p0 7 <|
        cl (FX8_hasCell p0 p1 p2 h20) fun v23 h24 =>
        if (v23 : Int32) = 0 then
          some (2, h24)
        else
          some ((-1), h24)
      else
        some (5, h20)
set_option maxRecDepth 100000 in
set_option maxHeartbeats 4000000 in
theorem FX8_refuseCell_ok {G : xG} {l : Launch} {p0 : Option Nat} {p1 : Int32} {p2 : Int32} {p3 : Int32} {h0 h1 : Hp} {r : Int32} (hF : FX8_refuseCell p0 p1 p2 p3 h0 = some (r, h1)) : xc G l mX8_refuseCell 3 0 0 [va_rf p0, .int p1, .int p2, .int p3] h0 (xP mkI r h1) := by
  refine xo_I [.inr (.inr _), .inl _, .inl _, .inl _] (by decide) (Nat.le_of_ble_eq_true rfl) rfl ?_
  show xv _ _ _ _ _ _ _ [(0, false, va_rf p0), (1, false, .int p1), (2, false, .int p2), (3, false, .int p3)] _ _ _
  unfold FX8_refuseCell at hF
  refine xe_iload_n dX8_refuseCell_0 rfl rfl ?_
  refine xe_iconst (v := (-1)) dX8_refuseCell_1 (by decide) ?_
  refine xe_icmp_ne (tgt := 7) dX8_refuseCell_2 (by decide) (fun c1 => ?_) (fun c1 => ?_)
  · replace hF := if_p c1 hF
    refine xe_iconst (v := 1) dX8_refuseCell_5 (by decide) ?_
    exact xe_ireturn dX8_refuseCell_6 (xP_ret (mk := mkI) hF)
  · replace hF := if_n c1 hF
    refine xe_aload_n dX8_refuseCell_7 rfl rfl ?_
    refine xe_iload_n dX8_refuseCell_8 rfl rfl ?_
    obtain ⟨a7, e5, t6, hF⟩ := rcv_inv hF
    obtain ⟨v2, h3, o4, hF⟩ := cl_inv hF
    refine xz (xq_callV (As := [.int _]) (rest := []) dX8_refuseCell_9 mk_X8_isArray ⟨tw_863, tw_864, tw_865⟩ (ci := 7) rfl e5 t6 (FX8_isArray_ok o4) xPZ_q (by decide) (by decide) rfl rfl ?_)
    refine xe_if_eq (tgt := 28) dX8_refuseCell_12 (by decide) (fun c8 => ?_) (fun c8 => ?_)
    · replace hF := if_p c8 hF
      refine xe_iconst (v := 5) dX8_refuseCell_28 (by decide) ?_
      exact xe_ireturn dX8_refuseCell_29 (xP_ret (mk := mkI) hF)
    · replace hF := if_n c8 hF
      refine xe_aload_n dX8_refuseCell_15 rfl rfl ?_
      obtain ⟨a10, e11, t12, hF⟩ := gR_inv hF
      refine xq_getR dX8_refuseCell_16 fl_Things_9 xk_7 e11 t12 rfl ?_
      refine xe_iload_n dX8_refuseCell_19 rfl rfl ?_
      obtain ⟨a14, n15, e16, t17, b18, hF⟩ := aI_inv hF
      refine xq_iald dX8_refuseCell_20 e16 t17 b18 ?_
      obtain ⟨v19, h20, o21, hF⟩ := cl_inv hF
      refine xz (xq_callS (As := [.int _]) (rest := []) dX8_refuseCell_21 mk_X8_cellSort ⟨tw_843, tw_844⟩ (FX8_cellSort_ok o21) xP_q (by decide) (by decide) rfl rfl ?_)
      refine xe_iload_n dX8_refuseCell_24 rfl rfl ?_
      refine xe_icmp_eq (tgt := 30) dX8_refuseCell_25 (by decide) (fun c22 => ?_) (fun c22 => ?_)
      · replace hF := if_p c22 hF
        refine xe_aload_n dX8_refuseCell_30 rfl rfl ?_
        refine xe_iload_n dX8_refuseCell_31 rfl rfl ?_
        refine xe_iload_n dX8_refuseCell_32 rfl rfl ?_
        obtain ⟨a28, e26, t27, hF⟩ := rcv_inv hF
        obtain ⟨v23, h24, o25, hF⟩ := cl_inv hF
        refine xz (xq_callV (As := [.int _, .int _]) (rest := []) dX8_refuseCell_33 mk_X8_hasCell ⟨tw_851, tw_852, tw_853⟩ (ci := 7) rfl e26 t27 (FX8_hasCell_ok o25) xPZ_q (by decide) (by decide) rfl rfl ?_)
        refine xe_if_eq (tgt := 43) dX8_refuseCell_36 (by decide) (fun c29 => ?_) (fun c29 => ?_)
        · replace hF := if_p c29 hF
          refine xe_iconst (v := 2) dX8_refuseCell_43 (by decide) ?_
          exact xe_ireturn dX8_refuseCell_44 (xP_ret (mk := mkI) hF)
        · replace hF := if_n c29 hF
          refine xe_iconst (v := (-1)) dX8_refuseCell_39 (by decide) ?_
          refine xe_goto (tgt := 44) dX8_refuseCell_40 (by decide) ?_
          exact xe_ireturn dX8_refuseCell_44 (xP_ret (mk := mkI) hF)
      · replace hF := if_n c22 hF
        refine xe_iconst (v := 5) dX8_refuseCell_28 (by decide) ?_
        exact xe_ireturn dX8_refuseCell_29 (xP_ret (mk := mkI) hF)
/-! SeldomOps$Walker.asArgument(IJ)J -/
def FX9_asArgument (p0 : Int32) (p1 : Int64) (h0 : Hp) : Option (Int64 × Hp) :=
  if (p0 : Int32) = 4 then
    some ((-1), h0)
  else
    cl (FX11_isWide p0 h0) fun v2 h3 =>
    if (v2 : Int32) = 0 then
      some ((Int32.toInt64 (Int64.toInt32 p1)), h3)
    else
      some (p1, h3)
set_option maxRecDepth 100000 in
set_option maxHeartbeats 4000000 in
theorem FX9_asArgument_ok {G : xG} {l : Launch} {p0 : Int32} {p1 : Int64} {h0 h1 : Hp} {r : Int64} (hF : FX9_asArgument p0 p1 h0 = some (r, h1)) : xc G l mX9_asArgument 2 0 0 [.int p0, .long p1] h0 (xP mkL r h1) := by
  refine xo_L [.inl _, .inr (.inl _)] (by decide) (Nat.le_of_ble_eq_true rfl) rfl ?_
  show xv _ _ _ _ _ _ _ [(0, false, .int p0), (1, true, .long p1)] _ _ _
  unfold FX9_asArgument at hF
  refine xe_iload_n dX9_asArgument_0 rfl rfl ?_
  refine xe_iconst (v := 4) dX9_asArgument_1 (by decide) ?_
  refine xe_icmp_ne (tgt := 9) dX9_asArgument_2 (by decide) (fun c1 => ?_) (fun c1 => ?_)
  · replace hF := if_p c1 hF
    refine xe_ldc2 (v := (-1)) dX9_asArgument_5 tw_730 ?_
    exact xe_lreturn dX9_asArgument_8 (xP_ret (mk := mkL) hF)
  · replace hF := if_n c1 hF
    refine xe_iload_n dX9_asArgument_9 rfl rfl ?_
    obtain ⟨v2, h3, o4, hF⟩ := cl_inv hF
    refine xz (xq_callSN (As := [.int _]) (rest := []) dX9_asArgument_10 mk_X11_isWide ⟨tn_731, tw_390⟩ (FX11_isWide_ok o4) xPZ_q (by decide) (by decide) rfl rfl ?_)
    refine xe_if_eq (tgt := 20) dX9_asArgument_13 (by decide) (fun c5 => ?_) (fun c5 => ?_)
    · replace hF := if_p c5 hF
      refine xe_lload_n dX9_asArgument_20 rfl rfl ?_
      refine xe_l2i dX9_asArgument_21 ?_
      refine xe_i2l dX9_asArgument_22 ?_
      exact xe_lreturn dX9_asArgument_23 (xP_ret (mk := mkL) hF)
    · replace hF := if_n c5 hF
      refine xe_lload_n dX9_asArgument_16 rfl rfl ?_
      refine xe_goto (tgt := 23) dX9_asArgument_17 (by decide) ?_
      exact xe_lreturn dX9_asArgument_23 (xP_ret (mk := mkL) hF)
/-! SeldomOps$Walker.calculate(LSeldomOps$Words;II)I -/
def BX9_calculate_52 (x1 : Option Nat) (x2 : Int32) (x3 : Int32) (x4 : Int64) (x6 : Int64) (h0 : Hp) : Option (Int32 × Hp) :=
  if (x3 : Int32) = 1 then
    cl (FX3_calculateLong x2 x6 x4 h0) fun v2 h3 =>
    rcv h3 x1 9 <|
    cl (FX10_pushBits x1 1 v2 h3) fun v5 h6 =>
    some ((-1), h6)
  else
    cl (FX3_calculateInt x2 (Int64.toInt32 x6) (Int64.toInt32 x4) h0) fun v11 h12 =>
    rcv h12 x1 9 <|
    cl (FX10_push x1 (Int32.toInt64 v11) h12) fun v14 h15 =>
    some ((-1), h15)
set_option maxRecDepth 100000 in
set_option maxHeartbeats 4000000 in
theorem BX9_calculate_52_ok {G : xG} {l : Launch} {x1 : Option Nat} {x2 : Int32} {x3 : Int32} {x4 : Int64} {x6 : Int64} {h0 h1 : Hp} {r : Int32} (hF : BX9_calculate_52 x1 x2 x3 x4 x6 h0 = some (r, h1)) : xv G l mX9_calculate 3 0 0 52 [(1, false, va_rf x1), (2, false, .int x2), (3, false, .int x3), (4, true, .long x4), (6, true, .long x6)] [] h0 (xP mkI r h1) := by
  unfold BX9_calculate_52 at hF
  refine xe_iload_n dX9_calculate_52 rfl rfl ?_
  refine xe_iconst (v := 1) dX9_calculate_53 (by decide) ?_
  refine xe_icmp_ne (tgt := 73) dX9_calculate_54 (by decide) (fun c1 => ?_) (fun c1 => ?_)
  · replace hF := if_p c1 hF
    refine xe_aload_n dX9_calculate_57 rfl rfl ?_
    refine xe_iconst (v := 1) dX9_calculate_58 (by decide) ?_
    refine xe_iload_n dX9_calculate_59 rfl rfl ?_
    refine xe_lload dX9_calculate_60 rfl ?_
    refine xe_lload dX9_calculate_62 rfl ?_
    obtain ⟨v2, h3, o4, hF⟩ := cl_inv hF
    refine xz (xq_callS (As := [.int _, .long _, .long _]) (rest := [.int _, va_rf _]) dX9_calculate_64 mk_X3_calculateLong ⟨tw_781, tw_782⟩ (FX3_calculateLong_ok o4) xP_q (by decide) (Nat.le_trans (cs_i (cs_r cs_0)) (by decide)) rfl rfl ?_)
    obtain ⟨a10, e8, t9, hF⟩ := rcv_inv hF
    obtain ⟨v5, h6, o7, hF⟩ := cl_inv hF
    refine xz (xq_callV (As := [.int _, .long _]) (rest := []) dX9_calculate_67 mk_X10_pushBits ⟨tw_754, tw_755, tw_756⟩ (ci := 9) rfl e8 t9 (FX10_pushBits_ok o7) xP_q (by decide) (by decide) rfl rfl ?_)
    refine xe_goto (tgt := 88) dX9_calculate_70 (by decide) ?_
    refine xe_iconst (v := (-1)) dX9_calculate_88 (by decide) ?_
    exact xe_ireturn dX9_calculate_89 (xP_ret (mk := mkI) hF)
  · replace hF := if_n c1 hF
    refine xe_aload_n dX9_calculate_73 rfl rfl ?_
    refine xe_iload_n dX9_calculate_74 rfl rfl ?_
    refine xe_lload dX9_calculate_75 rfl ?_
    refine xe_l2i dX9_calculate_77 ?_
    refine xe_lload dX9_calculate_78 rfl ?_
    refine xe_l2i dX9_calculate_80 ?_
    obtain ⟨v11, h12, o13, hF⟩ := cl_inv hF
    refine xz (xq_callS (As := [.int _, .int _, .int _]) (rest := [va_rf _]) dX9_calculate_81 mk_X3_calculateInt ⟨tw_784, tw_785⟩ (FX3_calculateInt_ok o13) xP_q (by decide) (Nat.le_trans (cs_r cs_0) (by decide)) rfl rfl ?_)
    refine xe_i2l dX9_calculate_84 ?_
    obtain ⟨a19, e17, t18, hF⟩ := rcv_inv hF
    obtain ⟨v14, h15, o16, hF⟩ := cl_inv hF
    refine xz (xq_callV (As := [.long _]) (rest := []) dX9_calculate_85 mk_X10_push ⟨tw_759, tw_640, tw_641⟩ (ci := 9) rfl e17 t18 (FX10_push_ok o16) xP_q (by decide) (by decide) rfl rfl ?_)
    refine xe_iconst (v := (-1)) dX9_calculate_88 (by decide) ?_
    exact xe_ireturn dX9_calculate_89 (xP_ret (mk := mkI) hF)
def BX9_calculate_43 (x1 : Option Nat) (x2 : Int32) (x3 : Int32) (x4 : Int64) (x6 : Int64) (h0 : Hp) : Option (Int32 × Hp) :=
  if (x4 : Int64) = 0 then
    some (0, h0)
  else
    BX9_calculate_52 x1 x2 x3 x4 x6 h0
set_option maxRecDepth 100000 in
set_option maxHeartbeats 4000000 in
theorem BX9_calculate_43_ok {G : xG} {l : Launch} {x1 : Option Nat} {x2 : Int32} {x3 : Int32} {x4 : Int64} {x6 : Int64} {h0 h1 : Hp} {r : Int32} (hF : BX9_calculate_43 x1 x2 x3 x4 x6 h0 = some (r, h1)) : xv G l mX9_calculate 3 0 0 43 [(1, false, va_rf x1), (2, false, .int x2), (3, false, .int x3), (4, true, .long x4), (6, true, .long x6)] [] h0 (xP mkI r h1) := by
  unfold BX9_calculate_43 at hF
  refine xe_lload dX9_calculate_43 rfl ?_
  refine xe_lconst (v := 0) dX9_calculate_45 (by decide) ?_
  refine xe_lcmp dX9_calculate_46 ?_
  refine xe_lif_ne (tgt := 52) dX9_calculate_47 (by decide) (fun c1 => ?_) (fun c1 => ?_)
  · replace hF := if_p c1 hF
    refine xe_iconst (v := 0) dX9_calculate_50 (by decide) ?_
    exact xe_ireturn dX9_calculate_51 (xP_ret (mk := mkI) hF)
  · replace hF := if_n c1 hF
    exact xv.lv (BX9_calculate_52_ok hF) (xsub_cons rfl (xsub_cons rfl (xsub_cons rfl (xsub_cons rfl (xsub_cons rfl xsub_nil)))))
def BX9_calculate_26 (x1 : Option Nat) (x2 : Int32) (x3 : Int32) (x4 : Int64) (h0 : Hp) : Option (Int32 × Hp) :=
  rcv h0 x1 9 <|
  cl (FX10_popBits x1 x3 h0) fun v1 h2 =>
  if (x2 : Int32) = 3 then
    BX9_calculate_43 x1 x2 x3 x4 v1 h2
  else
    if (x2 : Int32) = 4 then
      BX9_calculate_43 x1 x2 x3 x4 v1 h2
    else
      BX9_calculate_52 x1 x2 x3 x4 v1 h2
set_option maxRecDepth 100000 in
set_option maxHeartbeats 4000000 in
theorem BX9_calculate_26_ok {G : xG} {l : Launch} {x1 : Option Nat} {x2 : Int32} {x3 : Int32} {x4 : Int64} {h0 h1 : Hp} {r : Int32} (hF : BX9_calculate_26 x1 x2 x3 x4 h0 = some (r, h1)) : xv G l mX9_calculate 3 0 0 26 [(1, false, va_rf x1), (2, false, .int x2), (3, false, .int x3), (4, true, .long x4)] [] h0 (xP mkI r h1) := by
  unfold BX9_calculate_26 at hF
  refine xe_aload_n dX9_calculate_26 rfl rfl ?_
  refine xe_iload_n dX9_calculate_27 rfl rfl ?_
  obtain ⟨a6, e4, t5, hF⟩ := rcv_inv hF
  obtain ⟨v1, h2, o3, hF⟩ := cl_inv hF
  refine xz (xq_callV (As := [.int _]) (rest := []) dX9_calculate_28 mk_X10_popBits ⟨tw_768, tw_769, tw_770⟩ (ci := 9) rfl e4 t5 (FX10_popBits_ok o3) xP_q (by decide) (by decide) rfl rfl ?_)
  refine xe_lstore dX9_calculate_31 (by decide) ?_
  refine xe_iload_n dX9_calculate_33 rfl rfl ?_
  refine xe_iconst (v := 3) dX9_calculate_34 (by decide) ?_
  refine xe_icmp_eq (tgt := 43) dX9_calculate_35 (by decide) (fun c7 => ?_) (fun c7 => ?_)
  · replace hF := if_p c7 hF
    exact xv.lv (BX9_calculate_43_ok hF) (xsub_cons rfl (xsub_cons rfl (xsub_cons rfl (xsub_cons rfl (xsub_cons rfl xsub_nil)))))
  · replace hF := if_n c7 hF
    refine xe_iload_n dX9_calculate_38 rfl rfl ?_
    refine xe_iconst (v := 4) dX9_calculate_39 (by decide) ?_
    refine xe_icmp_ne (tgt := 52) dX9_calculate_40 (by decide) (fun c8 => ?_) (fun c8 => ?_)
    · replace hF := if_p c8 hF
      exact xv.lv (BX9_calculate_43_ok hF) (xsub_cons rfl (xsub_cons rfl (xsub_cons rfl (xsub_cons rfl (xsub_cons rfl xsub_nil)))))
    · replace hF := if_n c8 hF
      exact xv.lv (BX9_calculate_52_ok hF) (xsub_cons rfl (xsub_cons rfl (xsub_cons rfl (xsub_cons rfl (xsub_cons rfl xsub_nil)))))
def BX9_calculate_21 (x1 : Option Nat) (x2 : Int32) (x3 : Int32) (s0 : Option Nat) (s1 : Int32) (h0 : Hp) : Option (Int32 × Hp) :=
  rcv h0 s0 9 <|
  cl (FX10_popBits s0 s1 h0) fun v1 h2 =>
  BX9_calculate_26 x1 x2 x3 v1 h2
set_option maxRecDepth 100000 in
set_option maxHeartbeats 4000000 in
theorem BX9_calculate_21_ok {G : xG} {l : Launch} {x1 : Option Nat} {x2 : Int32} {x3 : Int32} {s0 : Option Nat} {s1 : Int32} {h0 h1 : Hp} {r : Int32} (hF : BX9_calculate_21 x1 x2 x3 s0 s1 h0 = some (r, h1)) : xv G l mX9_calculate 3 0 0 21 [(1, false, va_rf x1), (2, false, .int x2), (3, false, .int x3)] [.int s1, va_rf s0] h0 (xP mkI r h1) := by
  unfold BX9_calculate_21 at hF
  obtain ⟨a6, e4, t5, hF⟩ := rcv_inv hF
  obtain ⟨v1, h2, o3, hF⟩ := cl_inv hF
  refine xz (xq_callV (As := [.int _]) (rest := []) dX9_calculate_21 mk_X10_popBits ⟨tw_768, tw_769, tw_770⟩ (ci := 9) rfl e4 t5 (FX10_popBits_ok o3) xP_q (by decide) (by decide) rfl rfl ?_)
  refine xe_lstore dX9_calculate_24 (by decide) ?_
  exact xv.lv (BX9_calculate_26_ok hF) (xsub_cons rfl (xsub_cons rfl (xsub_cons rfl (xsub_cons rfl xsub_nil))))
def FX9_calculate (p0 : Option Nat) (p1 : Option Nat) (p2 : Int32) (p3 : Int32) (h0 : Hp) : Option (Int32 × Hp) :=
  if (p2 : Int32) = 11 then
    BX9_calculate_26 p1 p2 p3 0 h0
  else
    if (p2 : Int32) < 8 then
      BX9_calculate_21 p1 p2 p3 p1 p3 h0
    else
      BX9_calculate_21 p1 p2 p3 p1 0 h0
set_option maxRecDepth 100000 in
set_option maxHeartbeats 4000000 in
theorem FX9_calculate_ok {G : xG} {l : Launch} {p0 : Option Nat} {p1 : Option Nat} {p2 : Int32} {p3 : Int32} {h0 h1 : Hp} {r : Int32} (hF : FX9_calculate p0 p1 p2 p3 h0 = some (r, h1)) : xc G l mX9_calculate 3 0 0 [va_rf p0, va_rf p1, .int p2, .int p3] h0 (xP mkI r h1) := by
  refine xo_I [.inr (.inr _), .inr (.inr _), .inl _, .inl _] (by decide) (Nat.le_of_ble_eq_true rfl) rfl ?_
  show xv _ _ _ _ _ _ _ [(0, false, va_rf p0), (1, false, va_rf p1), (2, false, .int p2), (3, false, .int p3)] _ _ _
  unfold FX9_calculate at hF
  refine xe_lconst (v := 0) dX9_calculate_0 (by decide) ?_
  refine xe_lstore dX9_calculate_1 (by decide) ?_
  refine xe_iload_n dX9_calculate_3 rfl rfl ?_
  refine xe_bipush (v := 11) dX9_calculate_4 (by decide) ?_
  refine xe_icmp_eq (tgt := 26) dX9_calculate_6 (by decide) (fun c1 => ?_) (fun c1 => ?_)
  · replace hF := if_p c1 hF
    exact xv.lv (BX9_calculate_26_ok hF) (xsub_cons rfl (xsub_cons rfl (xsub_cons rfl (xsub_cons rfl xsub_nil))))
  · replace hF := if_n c1 hF
    refine xe_aload_n dX9_calculate_9 rfl rfl ?_
    refine xe_iload_n dX9_calculate_10 rfl rfl ?_
    refine xe_bipush (v := 8) dX9_calculate_11 (by decide) ?_
    refine xe_icmp_ge (tgt := 20) dX9_calculate_13 (by decide) (fun c2 => ?_) (fun c2 => ?_)
    · replace hF := if_p c2 hF
      refine xe_iload_n dX9_calculate_16 rfl rfl ?_
      refine xe_goto (tgt := 21) dX9_calculate_17 (by decide) ?_
      exact xv.lv (BX9_calculate_21_ok hF) (xsub_cons rfl (xsub_cons rfl (xsub_cons rfl xsub_nil)))
    · replace hF := if_n c2 hF
      refine xe_iconst (v := 0) dX9_calculate_20 (by decide) ?_
      exact xv.lv (BX9_calculate_21_ok hF) (xsub_cons rfl (xsub_cons rfl (xsub_cons rfl xsub_nil)))
/-! SeldomOps$Walker.compute(LSeldomOps$Words;III)I -/
def BX9_compute_48 (x3 : Int32) (x5 : Int64) (s0 : Option Nat) (s1 : Int32) (h0 : Hp) : Option (Int32 × Hp) :=
  cl (FX3_convert x3 x5 h0) fun v1 h2 =>
  rcv h2 s0 9 <|
  cl (FX10_pushBits s0 s1 v1 h2) fun v4 h5 =>
  some ((-1), h5)
set_option maxRecDepth 100000 in
set_option maxHeartbeats 4000000 in
theorem BX9_compute_48_ok {G : xG} {l : Launch} {x3 : Int32} {x5 : Int64} {s0 : Option Nat} {s1 : Int32} {h0 h1 : Hp} {r : Int32} (hF : BX9_compute_48 x3 x5 s0 s1 h0 = some (r, h1)) : xv G l mX9_compute 4 0 0 48 [(3, false, .int x3), (5, true, .long x5)] [.int s1, va_rf s0] h0 (xP mkI r h1) := by
  unfold BX9_compute_48 at hF
  refine xe_iload_n dX9_compute_48 rfl rfl ?_
  refine xe_lload dX9_compute_49 rfl ?_
  obtain ⟨v1, h2, o3, hF⟩ := cl_inv hF
  refine xz (xq_callS (As := [.int _, .long _]) (rest := [.int _, va_rf _]) dX9_compute_51 mk_X3_convert ⟨tw_787, tw_788⟩ (FX3_convert_ok o3) xP_q (by decide) (Nat.le_trans (cs_i (cs_r cs_0)) (by decide)) rfl rfl ?_)
  obtain ⟨a9, e7, t8, hF⟩ := rcv_inv hF
  obtain ⟨v4, h5, o6, hF⟩ := cl_inv hF
  refine xz (xq_callV (As := [.int _, .long _]) (rest := []) dX9_compute_54 mk_X10_pushBits ⟨tw_754, tw_755, tw_756⟩ (ci := 9) rfl e7 t8 (FX10_pushBits_ok o6) xP_q (by decide) (by decide) rfl rfl ?_)
  refine xe_iconst (v := (-1)) dX9_compute_57 (by decide) ?_
  exact xe_ireturn dX9_compute_58 (xP_ret (mk := mkI) hF)
def BX9_compute_32 (x1 : Option Nat) (x3 : Int32) (s0 : Option Nat) (s1 : Int32) (h0 : Hp) : Option (Int32 × Hp) :=
  rcv h0 s0 9 <|
  cl (FX10_popBits s0 s1 h0) fun v1 h2 =>
  if (x3 : Int32) = 4 then
    BX9_compute_48 x3 v1 x1 1 h2
  else
    BX9_compute_48 x3 v1 x1 0 h2
set_option maxRecDepth 100000 in
set_option maxHeartbeats 4000000 in
theorem BX9_compute_32_ok {G : xG} {l : Launch} {x1 : Option Nat} {x3 : Int32} {s0 : Option Nat} {s1 : Int32} {h0 h1 : Hp} {r : Int32} (hF : BX9_compute_32 x1 x3 s0 s1 h0 = some (r, h1)) : xv G l mX9_compute 4 0 0 32 [(1, false, va_rf x1), (3, false, .int x3)] [.int s1, va_rf s0] h0 (xP mkI r h1) := by
  unfold BX9_compute_32 at hF
  obtain ⟨a6, e4, t5, hF⟩ := rcv_inv hF
  obtain ⟨v1, h2, o3, hF⟩ := cl_inv hF
  refine xz (xq_callV (As := [.int _]) (rest := []) dX9_compute_32 mk_X10_popBits ⟨tw_768, tw_769, tw_770⟩ (ci := 9) rfl e4 t5 (FX10_popBits_ok o3) xP_q (by decide) (by decide) rfl rfl ?_)
  refine xe_lstore dX9_compute_35 (by decide) ?_
  refine xe_aload_n dX9_compute_37 rfl rfl ?_
  refine xe_iload_n dX9_compute_38 rfl rfl ?_
  refine xe_iconst (v := 4) dX9_compute_39 (by decide) ?_
  refine xe_icmp_ne (tgt := 47) dX9_compute_40 (by decide) (fun c7 => ?_) (fun c7 => ?_)
  · replace hF := if_p c7 hF
    refine xe_iconst (v := 1) dX9_compute_43 (by decide) ?_
    refine xe_goto (tgt := 48) dX9_compute_44 (by decide) ?_
    exact xv.lv (BX9_compute_48_ok hF) (xsub_cons rfl (xsub_cons rfl xsub_nil))
  · replace hF := if_n c7 hF
    refine xe_iconst (v := 0) dX9_compute_47 (by decide) ?_
    exact xv.lv (BX9_compute_48_ok hF) (xsub_cons rfl (xsub_cons rfl xsub_nil))
def FX9_compute (p0 : Option Nat) (p1 : Option Nat) (p2 : Int32) (p3 : Int32) (p4 : Int32) (h0 : Hp) : Option (Int32 × Hp) :=
  if (p2 : Int32) = 17 then
    rcv h0 p0 8 <|
    cl (FX9_calculate p0 p1 p3 p4 h0) fun v2 h3 =>
    some (v2, h3)
  else
    if (p2 : Int32) = 18 then
      if (p3 : Int32) = 3 then
        BX9_compute_32 p1 p3 p1 1 h0
      else
        BX9_compute_32 p1 p3 p1 0 h0
    else
      cl (FX11_kindCompared p3 h0) fun v10 h11 =>
      rcv h11 p1 9 <|
      cl (FX10_popBits p1 v10 h11) fun v13 h14 =>
      cl (FX11_kindCompared p3 h14) fun v19 h20 =>
      rcv h20 p1 9 <|
      cl (FX10_popBits p1 v19 h20) fun v22 h23 =>
      cl (FX3_compareBits p3 v22 v13 h23) fun v28 h29 =>
      rcv h29 p1 9 <|
      cl (FX10_push p1 (Int32.toInt64 v28) h29) fun v31 h32 =>
      some ((-1), h32)
set_option maxRecDepth 100000 in
set_option maxHeartbeats 4000000 in
theorem FX9_compute_ok {G : xG} {l : Launch} {p0 : Option Nat} {p1 : Option Nat} {p2 : Int32} {p3 : Int32} {p4 : Int32} {h0 h1 : Hp} {r : Int32} (hF : FX9_compute p0 p1 p2 p3 p4 h0 = some (r, h1)) : xc G l mX9_compute 4 0 0 [va_rf p0, va_rf p1, .int p2, .int p3, .int p4] h0 (xP mkI r h1) := by
  refine xo_I [.inr (.inr _), .inr (.inr _), .inl _, .inl _, .inl _] (by decide) (Nat.le_of_ble_eq_true rfl) rfl ?_
  show xv _ _ _ _ _ _ _ [(0, false, va_rf p0), (1, false, va_rf p1), (2, false, .int p2), (3, false, .int p3), (4, false, .int p4)] _ _ _
  unfold FX9_compute at hF
  refine xe_iload_n dX9_compute_0 rfl rfl ?_
  refine xe_bipush (v := 17) dX9_compute_1 (by decide) ?_
  refine xe_icmp_ne (tgt := 15) dX9_compute_3 (by decide) (fun c1 => ?_) (fun c1 => ?_)
  · replace hF := if_p c1 hF
    refine xe_aload_n dX9_compute_6 rfl rfl ?_
    refine xe_aload_n dX9_compute_7 rfl rfl ?_
    refine xe_iload_n dX9_compute_8 rfl rfl ?_
    refine xe_iload dX9_compute_9 rfl ?_
    obtain ⟨a7, e5, t6, hF⟩ := rcv_inv hF
    obtain ⟨v2, h3, o4, hF⟩ := cl_inv hF
    refine xz (xq_callV (As := [va_rf _, .int _, .int _]) (rest := []) dX9_compute_11 mk_X9_calculate ⟨tw_777, tw_779, ts_23⟩ (ci := 8) rfl e5 t6 (FX9_calculate_ok o4) xP_q (by decide) (by decide) rfl rfl ?_)
    exact xe_ireturn dX9_compute_14 (xP_ret (mk := mkI) hF)
  · replace hF := if_n c1 hF
    refine xe_iload_n dX9_compute_15 rfl rfl ?_
    refine xe_bipush (v := 18) dX9_compute_16 (by decide) ?_
    refine xe_icmp_ne (tgt := 59) dX9_compute_18 (by decide) (fun c8 => ?_) (fun c8 => ?_)
    · replace hF := if_p c8 hF
      refine xe_aload_n dX9_compute_21 rfl rfl ?_
      refine xe_iload_n dX9_compute_22 rfl rfl ?_
      refine xe_iconst (v := 3) dX9_compute_23 (by decide) ?_
      refine xe_icmp_ne (tgt := 31) dX9_compute_24 (by decide) (fun c9 => ?_) (fun c9 => ?_)
      · replace hF := if_p c9 hF
        refine xe_iconst (v := 1) dX9_compute_27 (by decide) ?_
        refine xe_goto (tgt := 32) dX9_compute_28 (by decide) ?_
        exact xv.lv (BX9_compute_32_ok hF) (xsub_cons rfl (xsub_cons rfl xsub_nil))
      · replace hF := if_n c9 hF
        refine xe_iconst (v := 0) dX9_compute_31 (by decide) ?_
        exact xv.lv (BX9_compute_32_ok hF) (xsub_cons rfl (xsub_cons rfl xsub_nil))
    · replace hF := if_n c8 hF
      refine xe_aload_n dX9_compute_59 rfl rfl ?_
      refine xe_iload_n dX9_compute_60 rfl rfl ?_
      obtain ⟨v10, h11, o12, hF⟩ := cl_inv hF
      refine xz (xq_callSN (As := [.int _]) (rest := [va_rf _]) dX9_compute_61 mk_X11_kindCompared ⟨tn_793, tw_600⟩ (FX11_kindCompared_ok o12) xP_q (by decide) (Nat.le_trans (cs_r cs_0) (by decide)) rfl rfl ?_)
      obtain ⟨a18, e16, t17, hF⟩ := rcv_inv hF
      obtain ⟨v13, h14, o15, hF⟩ := cl_inv hF
      refine xz (xq_callV (As := [.int _]) (rest := []) dX9_compute_64 mk_X10_popBits ⟨tw_768, tw_769, tw_770⟩ (ci := 9) rfl e16 t17 (FX10_popBits_ok o15) xP_q (by decide) (by decide) rfl rfl ?_)
      refine xe_lstore dX9_compute_67 (by decide) ?_
      refine xe_aload_n dX9_compute_69 rfl rfl ?_
      refine xe_iload_n dX9_compute_70 rfl rfl ?_
      obtain ⟨v19, h20, o21, hF⟩ := cl_inv hF
      refine xz (xq_callSN (As := [.int _]) (rest := [va_rf _]) dX9_compute_71 mk_X11_kindCompared ⟨tn_793, tw_600⟩ (FX11_kindCompared_ok o21) xP_q (by decide) (Nat.le_trans (cs_r cs_0) (by decide)) rfl rfl ?_)
      obtain ⟨a27, e25, t26, hF⟩ := rcv_inv hF
      obtain ⟨v22, h23, o24, hF⟩ := cl_inv hF
      refine xz (xq_callV (As := [.int _]) (rest := []) dX9_compute_74 mk_X10_popBits ⟨tw_768, tw_769, tw_770⟩ (ci := 9) rfl e25 t26 (FX10_popBits_ok o24) xP_q (by decide) (by decide) rfl rfl ?_)
      refine xe_lstore dX9_compute_77 (by decide) ?_
      refine xe_aload_n dX9_compute_79 rfl rfl ?_
      refine xe_iload_n dX9_compute_80 rfl rfl ?_
      refine xe_lload dX9_compute_81 rfl ?_
      refine xe_lload dX9_compute_83 rfl ?_
      obtain ⟨v28, h29, o30, hF⟩ := cl_inv hF
      refine xz (xq_callS (As := [.int _, .long _, .long _]) (rest := [va_rf _]) dX9_compute_85 mk_X3_compareBits ⟨tw_794, tw_795⟩ (FX3_compareBits_ok o30) xP_q (by decide) (Nat.le_trans (cs_r cs_0) (by decide)) rfl rfl ?_)
      refine xe_i2l dX9_compute_88 ?_
      obtain ⟨a36, e34, t35, hF⟩ := rcv_inv hF
      obtain ⟨v31, h32, o33, hF⟩ := cl_inv hF
      refine xz (xq_callV (As := [.long _]) (rest := []) dX9_compute_89 mk_X10_push ⟨tw_759, tw_640, tw_641⟩ (ci := 9) rfl e34 t35 (FX10_push_ok o33) xP_q (by decide) (by decide) rfl rfl ?_)
      refine xe_iconst (v := (-1)) dX9_compute_92 (by decide) ?_
      exact xe_ireturn dX9_compute_93 (xP_ret (mk := mkI) hF)
/-! SeldomOps$Walker.countCells(LSeldomOps$Words;)I -/
def FX9_countCells (p0 : Option Nat) (p1 : Option Nat) (h0 : Hp) : Option (Int32 × Hp) :=
  rcv h0 p1 9 <|
  cl (FX10_popInt p1 h0) fun v1 h2 =>
  if (v1 : Int32) = (-1) then
    some (1, h2)
  else
    gR h2 p0 8 1 fun v8 =>
    rcv h2 v8 7 <|
    cl (FX8_isArray v8 v1 h2) fun v12 h13 =>
    if (v12 : Int32) = 0 then
      some (5, h13)
    else
      gR h13 p0 8 1 fun v19 =>
      gR h13 v19 7 1 fun v23 =>
      aI h13 v23 .int v1 fun v27 =>
      rcv h13 p1 9 <|
      cl (FX10_push p1 (Int32.toInt64 v27) h13) fun v33 h34 =>
      some ((-1), h34)
set_option maxRecDepth 100000 in
set_option maxHeartbeats 4000000 in
theorem FX9_countCells_ok {G : xG} {l : Launch} {p0 : Option Nat} {p1 : Option Nat} {h0 h1 : Hp} {r : Int32} (hF : FX9_countCells p0 p1 h0 = some (r, h1)) : xc G l mX9_countCells 3 0 0 [va_rf p0, va_rf p1] h0 (xP mkI r h1) := by
  refine xo_I [.inr (.inr _), .inr (.inr _)] (by decide) (Nat.le_of_ble_eq_true rfl) rfl ?_
  show xv _ _ _ _ _ _ _ [(0, false, va_rf p0), (1, false, va_rf p1)] _ _ _
  unfold FX9_countCells at hF
  refine xe_aload_n dX9_countCells_0 rfl rfl ?_
  obtain ⟨a6, e4, t5, hF⟩ := rcv_inv hF
  obtain ⟨v1, h2, o3, hF⟩ := cl_inv hF
  refine xz (xq_callV (As := []) (rest := []) dX9_countCells_1 mk_X10_popInt ⟨tw_808, tw_809, tw_810⟩ (ci := 9) rfl e4 t5 (FX10_popInt_ok o3) xP_q (by decide) (by decide) rfl rfl ?_)
  refine xe_istore_n dX9_countCells_4 rfl (by decide) ?_
  refine xe_iload_n dX9_countCells_5 rfl rfl ?_
  refine xe_iconst (v := (-1)) dX9_countCells_6 (by decide) ?_
  refine xe_icmp_ne (tgt := 12) dX9_countCells_7 (by decide) (fun c7 => ?_) (fun c7 => ?_)
  · replace hF := if_p c7 hF
    refine xe_iconst (v := 1) dX9_countCells_10 (by decide) ?_
    exact xe_ireturn dX9_countCells_11 (xP_ret (mk := mkI) hF)
  · replace hF := if_n c7 hF
    refine xe_aload_n dX9_countCells_12 rfl rfl ?_
    obtain ⟨a9, e10, t11, hF⟩ := gR_inv hF
    refine xq_getR dX9_countCells_13 fl_Walker_12 xk_8 e10 t11 rfl ?_
    refine xe_iload_n dX9_countCells_16 rfl rfl ?_
    obtain ⟨a17, e15, t16, hF⟩ := rcv_inv hF
    obtain ⟨v12, h13, o14, hF⟩ := cl_inv hF
    refine xz (xq_callV (As := [.int _]) (rest := []) dX9_countCells_17 mk_X8_isArray ⟨tw_891, tw_864, tw_865⟩ (ci := 7) rfl e15 t16 (FX8_isArray_ok o14) xPZ_q (by decide) (by decide) rfl rfl ?_)
    refine xe_if_ne (tgt := 25) dX9_countCells_20 (by decide) (fun c18 => ?_) (fun c18 => ?_)
    · replace hF := if_p c18 hF
      refine xe_iconst (v := 5) dX9_countCells_23 (by decide) ?_
      exact xe_ireturn dX9_countCells_24 (xP_ret (mk := mkI) hF)
    · replace hF := if_n c18 hF
      refine xe_aload_n dX9_countCells_25 rfl rfl ?_
      refine xe_aload_n dX9_countCells_26 rfl rfl ?_
      obtain ⟨a20, e21, t22, hF⟩ := gR_inv hF
      refine xq_getR dX9_countCells_27 fl_Walker_12 xk_8 e21 t22 rfl ?_
      obtain ⟨a24, e25, t26, hF⟩ := gR_inv hF
      refine xq_getR dX9_countCells_30 fl_Walker_298 xk_7 e25 t26 rfl ?_
      refine xe_iload_n dX9_countCells_33 rfl rfl ?_
      obtain ⟨a28, n29, e30, t31, b32, hF⟩ := aI_inv hF
      refine xq_iald dX9_countCells_34 e30 t31 b32 ?_
      refine xe_i2l dX9_countCells_35 ?_
      obtain ⟨a38, e36, t37, hF⟩ := rcv_inv hF
      obtain ⟨v33, h34, o35, hF⟩ := cl_inv hF
      refine xz (xq_callV (As := [.long _]) (rest := []) dX9_countCells_36 mk_X10_push ⟨tw_759, tw_640, tw_641⟩ (ci := 9) rfl e36 t37 (FX10_push_ok o35) xP_q (by decide) (by decide) rfl rfl ?_)
      refine xe_iconst (v := (-1)) dX9_countCells_39 (by decide) ?_
      exact xe_ireturn dX9_countCells_40 (xP_ret (mk := mkI) hF)
/-! SeldomOps$Walker.enter(LSeldomOps$Call;I)I -/
def BX9_enter_77 : Nat → Option Nat → Option Nat → Option Nat → Int32 → Int32 → Hp → Option (Int32 × Hp)
  | 0, _, _, _, _, _, _ => none
  | n + 1, x1, x3, x4, x5, x6, h0 =>
    if (x6 : Int32) < 0 then
      gI h0 x1 0 2 fun v2 =>
      pI h0 x1 0 3 v2 fun h9 =>
      some ((-1), h9)
    else
      gR h0 x3 2 1 fun v11 =>
      aI h0 v11 .int x6 fun v15 =>
      cl (FX11_width v15 h0) fun v21 h22 =>
      gR h22 x1 0 4 fun v24 =>
      gR h22 x3 2 1 fun v28 =>
      aI h22 v28 .int x6 fun v32 =>
      rcv h22 v24 9 <|
      cl (FX10_popBits v24 v32 h22) fun v38 h39 =>
      rcv h39 x4 0 <|
      cl (FX0_writeLocal x4 (x5 - v21) v38 h39) fun v44 h45 =>
      BX9_enter_77 n x1 x3 x4 (x5 - v21) (x6 + (-1)) h45
set_option maxRecDepth 100000 in
set_option maxHeartbeats 4000000 in
theorem BX9_enter_77_ok {G : xG} {l : Launch} : ∀ (n : Nat) {x1 : Option Nat} {x3 : Option Nat} {x4 : Option Nat} {x5 : Int32} {x6 : Int32} {h0 h1 : Hp} {r : Int32} (hF : BX9_enter_77 n x1 x3 x4 x5 x6 h0 = some (r, h1)), xv G l mX9_enter 3 0 0 77 [(1, false, va_rf x1), (3, false, va_rf x3), (4, false, va_rf x4), (5, false, .int x5), (6, false, .int x6)] [] h0 (xP mkI r h1) := by
  intro n
  induction n with
  | zero => intro x1 x3 x4 x5 x6 h0 h1 r hF; cases hF
  | succ n ih =>
    intro x1 x3 x4 x5 x6 h0 h1 r hF
    unfold BX9_enter_77 at hF
    refine xe_iload dX9_enter_77 rfl ?_
    refine xe_if_lt (tgt := 124) dX9_enter_79 (by decide) (fun c1 => ?_) (fun c1 => ?_)
    · replace hF := if_p c1 hF
      refine xe_aload_n dX9_enter_124 rfl rfl ?_
      refine xe_aload_n dX9_enter_125 rfl rfl ?_
      obtain ⟨a3, e4, t5, hF⟩ := gI_inv hF
      refine xq_getI dX9_enter_126 fl_Walker_96 xk_0 e4 t5 rfl ?_
      obtain ⟨a6, e7, t8, hF⟩ := pI_inv hF
      refine xq_putI dX9_enter_129 fl_Walker_99 xk_0 (by decide) (fun z => by cases z) e7 t8 (Or.inl rfl) ?_
      refine xe_iconst (v := (-1)) dX9_enter_132 (by decide) ?_
      exact xe_ireturn dX9_enter_133 (xP_ret (mk := mkI) hF)
    · replace hF := if_n c1 hF
      refine xe_iload dX9_enter_82 rfl ?_
      refine xe_aload_n dX9_enter_84 rfl rfl ?_
      obtain ⟨a12, e13, t14, hF⟩ := gR_inv hF
      refine xq_getR dX9_enter_85 fl_Walker_81 xk_2 e13 t14 rfl ?_
      refine xe_iload dX9_enter_88 rfl ?_
      obtain ⟨a16, n17, e18, t19, b20, hF⟩ := aI_inv hF
      refine xq_iald dX9_enter_90 e18 t19 b20 ?_
      obtain ⟨v21, h22, o23, hF⟩ := cl_inv hF
      refine xz (xq_callSN (As := [.int _]) (rest := [.int _]) dX9_enter_91 mk_X11_width ⟨tn_737, tw_387⟩ (FX11_width_ok o23) xP_q (by decide) (Nat.le_trans (cs_i cs_0) (by decide)) rfl rfl ?_)
      refine xe_isub dX9_enter_94 ?_
      refine xe_istore dX9_enter_95 (by decide) ?_
      refine xe_aload dX9_enter_97 rfl ?_
      refine xe_iload dX9_enter_99 rfl ?_
      refine xe_aload_n dX9_enter_101 rfl rfl ?_
      obtain ⟨a25, e26, t27, hF⟩ := gR_inv hF
      refine xq_getR dX9_enter_102 fl_Walker_126 xk_0 e26 t27 rfl ?_
      refine xe_aload_n dX9_enter_105 rfl rfl ?_
      obtain ⟨a29, e30, t31, hF⟩ := gR_inv hF
      refine xq_getR dX9_enter_106 fl_Walker_81 xk_2 e30 t31 rfl ?_
      refine xe_iload dX9_enter_109 rfl ?_
      obtain ⟨a33, n34, e35, t36, b37, hF⟩ := aI_inv hF
      refine xq_iald dX9_enter_111 e35 t36 b37 ?_
      obtain ⟨a43, e41, t42, hF⟩ := rcv_inv hF
      obtain ⟨v38, h39, o40, hF⟩ := cl_inv hF
      refine xz (xq_callV (As := [.int _]) (rest := [.int _, va_rf _]) dX9_enter_112 mk_X10_popBits ⟨tw_768, tw_769, tw_770⟩ (ci := 9) rfl e41 t42 (FX10_popBits_ok o40) xP_q (by decide) (Nat.le_trans (cs_i (cs_r cs_0)) (by decide)) rfl rfl ?_)
      obtain ⟨a49, e47, t48, hF⟩ := rcv_inv hF
      obtain ⟨v44, h45, o46, hF⟩ := cl_inv hF
      refine xz (xq_callV (As := [.int _, .long _]) (rest := []) dX9_enter_115 mk_X0_writeLocal ⟨tw_732, tw_733, tw_734⟩ (ci := 0) rfl e47 t48 (FX0_writeLocal_ok o46) xP_q (by decide) (by decide) rfl rfl ?_)
      refine xe_iinc (v := _ + (-1)) dX9_enter_118 rfl rfl (by decide) ?_
      refine xe_goto (tgt := 77) dX9_enter_121 (by decide) ?_
      exact xv.lv (ih hF) (xsub_cons rfl (xsub_cons rfl (xsub_cons rfl (xsub_cons rfl (xsub_cons rfl xsub_nil)))))
def FX9_enter (p0 : Option Nat) (p1 : Option Nat) (p2 : Int32) (h0 : Hp) : Option (Int32 × Hp) :=
  gR h0 p0 8 0 fun v1 =>
  rcv h0 v1 3 <|
  cl (FX4_findMethod v1 p2 h0) fun v5 h6 =>
  nz v5 (
    some (8, h6)
  ) (
    gI h6 p0 8 4 fun v12 =>
    if (v12 : Int32) = 6 then
      some (8, h6)
    else
      gR h6 p0 8 2 fun v17 =>
      gI h6 p0 8 4 fun v21 =>
      aR h6 v17 "SeldomOps$Call" v21 fun v25 =>
      gI h6 p0 8 4 fun v31 =>
      pI h6 p0 8 4 (v31 + 1) fun h38 =>
      gI h38 p0 8 11 fun v40 =>
      pI h38 p0 8 11 (v40 + 1) fun h47 =>
      rcv h47 v25 0 <|
      cl (FX0_begin v25 p2 v5 h47) fun v49 h50 =>
      gI h50 v5 2 3 fun v55 =>
      gI h50 v5 2 2 fun v59 =>
      BX9_enter_77 100000 p1 v5 v25 v55 (v59 - 1) h50
  )
set_option maxRecDepth 100000 in
set_option maxHeartbeats 4000000 in
theorem FX9_enter_ok {G : xG} {l : Launch} {p0 : Option Nat} {p1 : Option Nat} {p2 : Int32} {h0 h1 : Hp} {r : Int32} (hF : FX9_enter p0 p1 p2 h0 = some (r, h1)) : xc G l mX9_enter 3 0 0 [va_rf p0, va_rf p1, .int p2] h0 (xP mkI r h1) := by
  refine xo_I [.inr (.inr _), .inr (.inr _), .inl _] (by decide) (Nat.le_of_ble_eq_true rfl) rfl ?_
  show xv _ _ _ _ _ _ _ [(0, false, va_rf p0), (1, false, va_rf p1), (2, false, .int p2)] _ _ _
  unfold FX9_enter at hF
  refine xe_aload_n dX9_enter_0 rfl rfl ?_
  obtain ⟨a2, e3, t4, hF⟩ := gR_inv hF
  refine xq_getR dX9_enter_1 fl_Walker_64 xk_8 e3 t4 rfl ?_
  refine xe_iload_n dX9_enter_4 rfl rfl ?_
  obtain ⟨a10, e8, t9, hF⟩ := rcv_inv hF
  obtain ⟨v5, h6, o7, hF⟩ := cl_inv hF
  refine xz (xq_callV (As := [.int _]) (rest := []) dX9_enter_5 mk_X4_findMethod ⟨tw_918, tw_382, tw_383⟩ (ci := 3) rfl e8 t9 (FX4_findMethod_ok o7) xP_q (by decide) (by decide) rfl rfl ?_)
  refine xe_astore_n dX9_enter_8 rfl (by decide) ?_
  refine xe_aload_n dX9_enter_9 rfl rfl ?_
  refine xe_ifnull (tgt := 22) dX9_enter_10 (by decide) (fun e11 => ?_) (fun a_ e11 => ?_)
  · replace hF := nz_n' e11 hF
    refine xe_bipush (v := 8) dX9_enter_22 (by decide) ?_
    exact xe_ireturn dX9_enter_24 (xP_ret (mk := mkI) hF)
  · replace hF := nz_s' e11 hF
    refine xe_aload_n dX9_enter_13 rfl rfl ?_
    obtain ⟨a13, e14, t15, hF⟩ := gI_inv hF
    refine xq_getI dX9_enter_14 fl_Walker_28 xk_8 e14 t15 rfl ?_
    refine xe_bipush (v := 6) dX9_enter_17 (by decide) ?_
    refine xe_icmp_ne (tgt := 25) dX9_enter_19 (by decide) (fun c16 => ?_) (fun c16 => ?_)
    · replace hF := if_p c16 hF
      refine xe_bipush (v := 8) dX9_enter_22 (by decide) ?_
      exact xe_ireturn dX9_enter_24 (xP_ret (mk := mkI) hF)
    · replace hF := if_n c16 hF
      refine xe_aload_n dX9_enter_25 rfl rfl ?_
      obtain ⟨a18, e19, t20, hF⟩ := gR_inv hF
      refine xq_getR dX9_enter_26 fl_Walker_20 xk_8 e19 t20 rfl ?_
      refine xe_aload_n dX9_enter_29 rfl rfl ?_
      obtain ⟨a22, e23, t24, hF⟩ := gI_inv hF
      refine xq_getI dX9_enter_30 fl_Walker_28 xk_8 e23 t24 rfl ?_
      obtain ⟨a26, n27, e28, t29, b30, hF⟩ := aR_inv hF
      refine xq_aald dX9_enter_33 e28 t29 (by decide) b30 ?_
      refine xe_astore dX9_enter_34 (by decide) ?_
      refine xe_aload_n dX9_enter_36 rfl rfl ?_
      refine xe_dup dX9_enter_37 (va_rf_cat _) ?_
      obtain ⟨a32, e33, t34, hF⟩ := gI_inv hF
      refine xq_getI dX9_enter_38 fl_Walker_28 xk_8 e33 t34 rfl ?_
      refine xe_iconst (v := 1) dX9_enter_41 (by decide) ?_
      refine xe_iadd dX9_enter_42 ?_
      obtain ⟨a35, e36, t37, hF⟩ := pI_inv hF
      refine xq_putI dX9_enter_43 fl_Walker_28 xk_8 (by decide) (fun z => by cases z) e36 t37 (Or.inl rfl) ?_
      refine xe_aload_n dX9_enter_46 rfl rfl ?_
      refine xe_dup dX9_enter_47 (va_rf_cat _) ?_
      obtain ⟨a41, e42, t43, hF⟩ := gI_inv hF
      refine xq_getI dX9_enter_48 fl_Walker_52 xk_8 e42 t43 rfl ?_
      refine xe_iconst (v := 1) dX9_enter_51 (by decide) ?_
      refine xe_iadd dX9_enter_52 ?_
      obtain ⟨a44, e45, t46, hF⟩ := pI_inv hF
      refine xq_putI dX9_enter_53 fl_Walker_52 xk_8 (by decide) (fun z => by cases z) e45 t46 (Or.inl rfl) ?_
      refine xe_aload dX9_enter_56 rfl ?_
      refine xe_iload_n dX9_enter_58 rfl rfl ?_
      refine xe_aload_n dX9_enter_59 rfl rfl ?_
      obtain ⟨a54, e52, t53, hF⟩ := rcv_inv hF
      obtain ⟨v49, h50, o51, hF⟩ := cl_inv hF
      refine xz (xq_callV (As := [.int _, va_rf _]) (rest := []) dX9_enter_60 mk_X0_begin ⟨tw_722, tw_723, tw_724⟩ (ci := 0) rfl e52 t53 (FX0_begin_ok o51) xP_q (by decide) (by decide) rfl rfl ?_)
      refine xe_aload_n dX9_enter_63 rfl rfl ?_
      obtain ⟨a56, e57, t58, hF⟩ := gI_inv hF
      refine xq_getI dX9_enter_64 fl_Walker_321 xk_2 e57 t58 rfl ?_
      refine xe_istore dX9_enter_67 (by decide) ?_
      refine xe_aload_n dX9_enter_69 rfl rfl ?_
      obtain ⟨a60, e61, t62, hF⟩ := gI_inv hF
      refine xq_getI dX9_enter_70 fl_Walker_76 xk_2 e61 t62 rfl ?_
      refine xe_iconst (v := 1) dX9_enter_73 (by decide) ?_
      refine xe_isub dX9_enter_74 ?_
      refine xe_istore dX9_enter_75 (by decide) ?_
      exact xv.lv (BX9_enter_77_ok _ hF) (xsub_cons rfl (xsub_cons rfl (xsub_cons rfl (xsub_cons rfl (xsub_cons rfl xsub_nil)))))
/-! SeldomOps$Walker.getCell(LSeldomOps$Words;I)I -/
def FX9_getCell (p0 : Option Nat) (p1 : Option Nat) (p2 : Int32) (h0 : Hp) : Option (Int32 × Hp) :=
  rcv h0 p1 9 <|
  cl (FX10_popInt p1 h0) fun v1 h2 =>
  rcv h2 p1 9 <|
  cl (FX10_popInt p1 h2) fun v7 h8 =>
  gR h8 p0 8 1 fun v13 =>
  rcv h8 v13 7 <|
  cl (FX8_refuseCell v13 v7 v1 p2 h8) fun v17 h18 =>
  if (v17 : Int32) = (-1) then
    cl (FX11_kindOfCell p2 h18) fun v24 h25 =>
    gR h25 p0 8 1 fun v27 =>
    rcv h25 v27 7 <|
    cl (FX8_read v27 v7 v1 h25) fun v31 h32 =>
    rcv h32 p1 9 <|
    cl (FX10_pushBits p1 v24 v31 h32) fun v37 h38 =>
    some (v17, h38)
  else
    some (v17, h18)
set_option maxRecDepth 100000 in
set_option maxHeartbeats 4000000 in
theorem FX9_getCell_ok {G : xG} {l : Launch} {p0 : Option Nat} {p1 : Option Nat} {p2 : Int32} {h0 h1 : Hp} {r : Int32} (hF : FX9_getCell p0 p1 p2 h0 = some (r, h1)) : xc G l mX9_getCell 4 0 0 [va_rf p0, va_rf p1, .int p2] h0 (xP mkI r h1) := by
  refine xo_I [.inr (.inr _), .inr (.inr _), .inl _] (by decide) (Nat.le_of_ble_eq_true rfl) rfl ?_
  show xv _ _ _ _ _ _ _ [(0, false, va_rf p0), (1, false, va_rf p1), (2, false, .int p2)] _ _ _
  unfold FX9_getCell at hF
  refine xe_aload_n dX9_getCell_0 rfl rfl ?_
  obtain ⟨a6, e4, t5, hF⟩ := rcv_inv hF
  obtain ⟨v1, h2, o3, hF⟩ := cl_inv hF
  refine xz (xq_callV (As := []) (rest := []) dX9_getCell_1 mk_X10_popInt ⟨tw_808, tw_809, tw_810⟩ (ci := 9) rfl e4 t5 (FX10_popInt_ok o3) xP_q (by decide) (by decide) rfl rfl ?_)
  refine xe_istore_n dX9_getCell_4 rfl (by decide) ?_
  refine xe_aload_n dX9_getCell_5 rfl rfl ?_
  obtain ⟨a12, e10, t11, hF⟩ := rcv_inv hF
  obtain ⟨v7, h8, o9, hF⟩ := cl_inv hF
  refine xz (xq_callV (As := []) (rest := []) dX9_getCell_6 mk_X10_popInt ⟨tw_808, tw_809, tw_810⟩ (ci := 9) rfl e10 t11 (FX10_popInt_ok o9) xP_q (by decide) (by decide) rfl rfl ?_)
  refine xe_istore dX9_getCell_9 (by decide) ?_
  refine xe_aload_n dX9_getCell_11 rfl rfl ?_
  obtain ⟨a14, e15, t16, hF⟩ := gR_inv hF
  refine xq_getR dX9_getCell_12 fl_Walker_12 xk_8 e15 t16 rfl ?_
  refine xe_iload dX9_getCell_15 rfl ?_
  refine xe_iload_n dX9_getCell_17 rfl rfl ?_
  refine xe_iload_n dX9_getCell_18 rfl rfl ?_
  obtain ⟨a22, e20, t21, hF⟩ := rcv_inv hF
  obtain ⟨v17, h18, o19, hF⟩ := cl_inv hF
  refine xz (xq_callV (As := [.int _, .int _, .int _]) (rest := []) dX9_getCell_19 mk_X8_refuseCell ⟨tw_859, tw_860, tw_861⟩ (ci := 7) rfl e20 t21 (FX8_refuseCell_ok o19) xP_q (by decide) (by decide) rfl rfl ?_)
  refine xe_istore dX9_getCell_22 (by decide) ?_
  refine xe_iload dX9_getCell_24 rfl ?_
  refine xe_iconst (v := (-1)) dX9_getCell_26 (by decide) ?_
  refine xe_icmp_ne (tgt := 48) dX9_getCell_27 (by decide) (fun c23 => ?_) (fun c23 => ?_)
  · replace hF := if_p c23 hF
    refine xe_aload_n dX9_getCell_30 rfl rfl ?_
    refine xe_iload_n dX9_getCell_31 rfl rfl ?_
    obtain ⟨v24, h25, o26, hF⟩ := cl_inv hF
    refine xz (xq_callSN (As := [.int _]) (rest := [va_rf _]) dX9_getCell_32 mk_X11_kindOfCell ⟨tn_868, tw_607⟩ (FX11_kindOfCell_ok o26) xP_q (by decide) (Nat.le_trans (cs_r cs_0) (by decide)) rfl rfl ?_)
    refine xe_aload_n dX9_getCell_35 rfl rfl ?_
    obtain ⟨a28, e29, t30, hF⟩ := gR_inv hF
    refine xq_getR dX9_getCell_36 fl_Walker_12 xk_8 e29 t30 rfl ?_
    refine xe_iload dX9_getCell_39 rfl ?_
    refine xe_iload_n dX9_getCell_41 rfl rfl ?_
    obtain ⟨a36, e34, t35, hF⟩ := rcv_inv hF
    obtain ⟨v31, h32, o33, hF⟩ := cl_inv hF
    refine xz (xq_callV (As := [.int _, .int _]) (rest := [.int _, va_rf _]) dX9_getCell_42 mk_X8_read ⟨tw_869, tw_870, tw_871⟩ (ci := 7) rfl e34 t35 (FX8_read_ok o33) xP_q (by decide) (Nat.le_trans (cs_i (cs_r cs_0)) (by decide)) rfl rfl ?_)
    obtain ⟨a42, e40, t41, hF⟩ := rcv_inv hF
    obtain ⟨v37, h38, o39, hF⟩ := cl_inv hF
    refine xz (xq_callV (As := [.int _, .long _]) (rest := []) dX9_getCell_45 mk_X10_pushBits ⟨tw_754, tw_755, tw_756⟩ (ci := 9) rfl e40 t41 (FX10_pushBits_ok o39) xP_q (by decide) (by decide) rfl rfl ?_)
    refine xe_iload dX9_getCell_48 rfl ?_
    exact xe_ireturn dX9_getCell_50 (xP_ret (mk := mkI) hF)
  · replace hF := if_n c23 hF
    refine xe_iload dX9_getCell_48 rfl ?_
    exact xe_ireturn dX9_getCell_50 (xP_ret (mk := mkI) hF)
/-! SeldomOps$Walker.<init>(LSeldomOps$Program;)V -/
def BX9_init_93 : Nat → Option Nat → Int32 → Hp → Option (Unit × Hp)
  | 0, _, _, _ => none
  | n + 1, x0, x2, h0 =>
    if (x2 : Int32) < 6 then
      gR h0 x0 8 2 fun v2 =>
      nA h0 (.inl 0) fun v6 h7 =>
      nz (some v6) none <|
      cl (FX0_init (some v6) h7) fun v10 h11 =>
      sR h11 v2 "SeldomOps$Call" 0 x2 (some v6) fun h15 =>
      BX9_init_93 n x0 (x2 + 1) h15
    else
      some ((), h0)
set_option maxRecDepth 100000 in
set_option maxHeartbeats 4000000 in
theorem BX9_init_93_ok {G : xG} {l : Launch} : ∀ (n : Nat) {x0 : Option Nat} {x2 : Int32} {h0 h1 : Hp} {r : Unit} (hF : BX9_init_93 n x0 x2 h0 = some (r, h1)), xv G l mX9_init 3 (n * 5) (n * 100) 93 [(0, false, va_rf x0), (2, false, .int x2)] [] h0 (xP mkV r h1) := by
  intro n
  induction n with
  | zero => intro x0 x2 h0 h1 r hF; cases hF
  | succ n ih =>
    intro x0 x2 h0 h1 r hF
    unfold BX9_init_93 at hF
    refine xe_iload_n dX9_init_93 rfl rfl ?_
    refine xe_bipush (v := 6) dX9_init_94 (by decide) ?_
    refine xe_icmp_ge (tgt := 118) dX9_init_96 (by decide) (fun c1 => ?_) (fun c1 => ?_)
    · replace hF := if_p c1 hF
      refine xe_aload_n dX9_init_99 rfl rfl ?_
      obtain ⟨a3, e4, t5, hF⟩ := gR_inv hF
      refine xq_getR dX9_init_100 fl_Walker_20 xk_8 e4 t5 rfl ?_
      refine xe_iload_n dX9_init_103 rfl rfl ?_
      obtain ⟨v6, h7, e8, e9, hF⟩ := nA_inv hF
      refine xv.weaken (xn_new (k := n * 5 + 4) (n := n * 100 + 92) dX9_init_104 xk_0 (by decide) nw_Walker_18 e8 e9 ?_) (by first | decide | omega) (by first | decide | (simp only [xnf]; omega))
      refine xe_dup dX9_init_107 (va_rf_cat _) ?_
      obtain ⟨a14, e13, hF⟩ := nzn_inv hF
      obtain ⟨v10, h11, o12, hF⟩ := cl_inv hF
      refine xv.weaken (xq_callIN (k := n * 5 + 0) (n := n * 100 + 0) (As := []) (rest := [va_rf _, .int _, va_rf _]) dX9_init_108 mk_X0_init ⟨rfl, rfl⟩ ⟨tn_157, tw_158⟩ e13 (FX0_init_ok o12) xP_q (by decide) (Nat.le_trans (cs_r (cs_i (cs_r cs_0))) (by decide)) rfl rfl ?_) (by first | decide | omega) (by first | decide | omega)
      obtain ⟨a16, n17, b18, e19, t20, f21, u22, w23, hF⟩ := sR_inv hF
      refine xq_aast dX9_init_111 e19 t20 (by decide) u22 w23 rfl f21 ?_
      refine xe_iinc (v := _ + 1) dX9_init_112 rfl rfl (by decide) ?_
      refine xe_goto (tgt := 93) dX9_init_115 (by decide) ?_
      exact xv.weaken (xv.lv (ih hF) (xsub_cons rfl (xsub_cons rfl xsub_nil))) (by first | decide | omega) (by first | decide | omega)
    · replace hF := if_n c1 hF
      exact xe_return dX9_init_118 (xP_ret (mk := mkV) hF)
def FX9_init (p0 : Option Nat) (p1 : Option Nat) (h0 : Hp) : Option (Unit × Hp) :=
  nz p0 none <|
  nA h0 (.inl 7) fun v3 h4 =>
  nz (some v3) none <|
  cl (FX8_init (some v3) h4) fun v7 h8 =>
  pR h8 p0 8 1 (some v3) fun h15 =>
  nA h15 (.inr (.object "SeldomOps$Call", 6)) fun v17 h18 =>
  pR h18 p0 8 2 (some v17) fun h24 =>
  nA h24 (.inr (.int, 3)) fun v26 h27 =>
  pR h27 p0 8 3 (some v26) fun h33 =>
  pI h33 p0 8 4 0 fun h38 =>
  pL h38 p0 8 5 0 fun h43 =>
  pZ h43 p0 8 6 0 fun h48 =>
  pI h48 p0 8 7 (-1) fun h53 =>
  pI h53 p0 8 8 (-1) fun h58 =>
  pI h58 p0 8 9 (-1) fun h63 =>
  pI h63 p0 8 10 0 fun h68 =>
  pI h68 p0 8 11 0 fun h73 =>
  pI h73 p0 8 12 0 fun h78 =>
  pI h78 p0 8 13 0 fun h83 =>
  pI h83 p0 8 14 (-1) fun h88 =>
  pR h88 p0 8 0 p1 fun h93 =>
  BX9_init_93 7 p0 0 h93
set_option maxRecDepth 100000 in
set_option maxHeartbeats 4000000 in
theorem FX9_init_ok {G : xG} {l : Launch} {p0 : Option Nat} {p1 : Option Nat} {h0 h1 : Hp} {r : Unit} (hF : FX9_init p0 p1 h0 = some (r, h1)) : xc G l mX9_init 3 42 6894 [va_rf p0, va_rf p1] h0 (xP mkV r h1) := by
  refine xo_V [.inr (.inr _), .inr (.inr _)] (by decide) (Nat.le_of_ble_eq_true rfl) rfl ?_
  show xv _ _ _ _ _ _ _ [(0, false, va_rf p0), (1, false, va_rf p1)] _ _ _
  unfold FX9_init at hF
  refine xe_aload_n dX9_init_0 rfl rfl ?_
  obtain ⟨a2, e1, hF⟩ := nzn_inv hF
  refine xq_objInit dX9_init_1 ⟨tw_127, tw_22, tw_23⟩ (by decide) (by decide) e1 ?_
  refine xe_aload_n dX9_init_4 rfl rfl ?_
  obtain ⟨v3, h4, e5, e6, hF⟩ := nA_inv hF
  refine xv.weaken (xn_new (k := 41) (n := 6889) dX9_init_5 xk_7 (by decide) nw_Walker_9 e5 e6 ?_) (by first | decide | omega) (by first | decide | (simp only [xnf]; omega))
  refine xe_dup dX9_init_8 (va_rf_cat _) ?_
  obtain ⟨a11, e10, hF⟩ := nzn_inv hF
  obtain ⟨v7, h8, o9, hF⟩ := cl_inv hF
  refine xv.weaken (xq_callIN (k := 37) (n := 709) (As := []) (rest := [va_rf _, va_rf _]) dX9_init_9 mk_X8_init ⟨rfl, rfl⟩ ⟨tn_130, tw_131⟩ e10 (FX8_init_ok o9) xP_q (by decide) (Nat.le_trans (cs_r (cs_r cs_0)) (by decide)) rfl rfl ?_) (by first | decide | omega) (by first | decide | omega)
  obtain ⟨a12, e13, t14, hF⟩ := pR_inv hF
  refine xq_putR dX9_init_12 fl_Walker_12 xk_8 (by decide) (fun _ => ⟨rfl, _, _, rfl⟩) e13 t14 (Or.inl ⟨_, rfl⟩) ?_
  refine xe_aload_n dX9_init_15 rfl rfl ?_
  refine xe_bipush (v := 6) dX9_init_16 (by decide) ?_
  obtain ⟨v17, h18, e19, e20, hF⟩ := nA_inv hF
  refine xv.weaken (xn_anewa (C := "SeldomOps$Call") (N := 6) (k := 36) (n := 703) dX9_init_18 (by decide) (by decide) tw_154 (by decide) (by decide) (by decide) e19 e20 ?_) (by first | decide | omega) (by first | decide | (simp only [xnf]; omega))
  obtain ⟨a21, e22, t23, hF⟩ := pR_inv hF
  refine xq_putR dX9_init_21 fl_Walker_20 xk_8 (by decide) (fun _ => ⟨rfl, _, _, rfl⟩) e22 t23 (Or.inr ⟨_, rfl⟩) ?_
  refine xe_aload_n dX9_init_24 rfl rfl ?_
  refine xe_iconst (v := 3) dX9_init_25 (by decide) ?_
  obtain ⟨v26, h27, e28, e29, hF⟩ := nA_inv hF
  refine xv.weaken (xn_newa (t := .int) (N := 3) (k := 35) (n := 700) dX9_init_26 rfl (Or.inl rfl) tw_153 (by decide) (by decide) (by decide) e28 e29 ?_) (by first | decide | omega) (by first | decide | (simp only [xnf]; omega))
  obtain ⟨a30, e31, t32, hF⟩ := pR_inv hF
  refine xq_putR dX9_init_28 fl_Walker_24 xk_8 (by decide) (fun _ => ⟨rfl, _, _, rfl⟩) e31 t32 (Or.inr ⟨_, rfl⟩) ?_
  refine xe_aload_n dX9_init_31 rfl rfl ?_
  refine xe_iconst (v := 0) dX9_init_32 (by decide) ?_
  obtain ⟨a35, e36, t37, hF⟩ := pI_inv hF
  refine xq_putI dX9_init_33 fl_Walker_28 xk_8 (by decide) (fun z => by cases z) e36 t37 (Or.inl rfl) ?_
  refine xe_aload_n dX9_init_36 rfl rfl ?_
  refine xe_lconst (v := 0) dX9_init_37 (by decide) ?_
  obtain ⟨a40, e41, t42, hF⟩ := pL_inv hF
  refine xq_putL dX9_init_38 fl_Walker_32 xk_8 (by decide) (fun z => by cases z) e41 t42 rfl ?_
  refine xe_aload_n dX9_init_41 rfl rfl ?_
  refine xe_iconst (v := 0) dX9_init_42 (by decide) ?_
  obtain ⟨a45, e46, t47, z49, hF⟩ := pZ_inv hF
  refine xq_putI dX9_init_43 fl_Walker_36 xk_8 (by decide) (fun z => by cases z) e46 t47 (Or.inr ⟨rfl, z49⟩) ?_
  refine xe_aload_n dX9_init_46 rfl rfl ?_
  refine xe_iconst (v := (-1)) dX9_init_47 (by decide) ?_
  obtain ⟨a50, e51, t52, hF⟩ := pI_inv hF
  refine xq_putI dX9_init_48 fl_Walker_40 xk_8 (by decide) (fun z => by cases z) e51 t52 (Or.inl rfl) ?_
  refine xe_aload_n dX9_init_51 rfl rfl ?_
  refine xe_iconst (v := (-1)) dX9_init_52 (by decide) ?_
  obtain ⟨a55, e56, t57, hF⟩ := pI_inv hF
  refine xq_putI dX9_init_53 fl_Walker_43 xk_8 (by decide) (fun z => by cases z) e56 t57 (Or.inl rfl) ?_
  refine xe_aload_n dX9_init_56 rfl rfl ?_
  refine xe_iconst (v := (-1)) dX9_init_57 (by decide) ?_
  obtain ⟨a60, e61, t62, hF⟩ := pI_inv hF
  refine xq_putI dX9_init_58 fl_Walker_46 xk_8 (by decide) (fun z => by cases z) e61 t62 (Or.inl rfl) ?_
  refine xe_aload_n dX9_init_61 rfl rfl ?_
  refine xe_iconst (v := 0) dX9_init_62 (by decide) ?_
  obtain ⟨a65, e66, t67, hF⟩ := pI_inv hF
  refine xq_putI dX9_init_63 fl_Walker_49 xk_8 (by decide) (fun z => by cases z) e66 t67 (Or.inl rfl) ?_
  refine xe_aload_n dX9_init_66 rfl rfl ?_
  refine xe_iconst (v := 0) dX9_init_67 (by decide) ?_
  obtain ⟨a70, e71, t72, hF⟩ := pI_inv hF
  refine xq_putI dX9_init_68 fl_Walker_52 xk_8 (by decide) (fun z => by cases z) e71 t72 (Or.inl rfl) ?_
  refine xe_aload_n dX9_init_71 rfl rfl ?_
  refine xe_iconst (v := 0) dX9_init_72 (by decide) ?_
  obtain ⟨a75, e76, t77, hF⟩ := pI_inv hF
  refine xq_putI dX9_init_73 fl_Walker_55 xk_8 (by decide) (fun z => by cases z) e76 t77 (Or.inl rfl) ?_
  refine xe_aload_n dX9_init_76 rfl rfl ?_
  refine xe_iconst (v := 0) dX9_init_77 (by decide) ?_
  obtain ⟨a80, e81, t82, hF⟩ := pI_inv hF
  refine xq_putI dX9_init_78 fl_Walker_58 xk_8 (by decide) (fun z => by cases z) e81 t82 (Or.inl rfl) ?_
  refine xe_aload_n dX9_init_81 rfl rfl ?_
  refine xe_iconst (v := (-1)) dX9_init_82 (by decide) ?_
  obtain ⟨a85, e86, t87, hF⟩ := pI_inv hF
  refine xq_putI dX9_init_83 fl_Walker_61 xk_8 (by decide) (fun z => by cases z) e86 t87 (Or.inl rfl) ?_
  refine xe_aload_n dX9_init_86 rfl rfl ?_
  refine xe_aload_n dX9_init_87 rfl rfl ?_
  obtain ⟨a90, e91, t92, hF⟩ := pR_inv hF
  refine xq_putR dX9_init_88 fl_Walker_64 xk_8 (by decide) (fun _ => ⟨rfl, _, _, rfl⟩) e91 t92 (Or.inl ⟨_, rfl⟩) ?_
  refine xe_iconst (v := 0) dX9_init_91 (by decide) ?_
  refine xe_istore_n dX9_init_92 rfl (by decide) ?_
  exact xv.weaken (xv.lv (BX9_init_93_ok _ hF) (xsub_cons rfl (xsub_cons rfl xsub_nil))) (by first | decide | omega) (by first | decide | omega)
/-! SeldomOps$Walker.jump(LSeldomOps$Call;III)I -/
def BX9_jump_108 (x1 : Option Nat) (x3 : Int32) (s0 : Int32) (h0 : Hp) : Option (Int32 × Hp) :=
  if (s0 : Int32) = 0 then
    some ((-1), h0)
  else
    pI h0 x1 0 3 x3 fun h5 =>
    some ((-1), h5)
set_option maxRecDepth 100000 in
set_option maxHeartbeats 4000000 in
theorem BX9_jump_108_ok {G : xG} {l : Launch} {x1 : Option Nat} {x3 : Int32} {s0 : Int32} {h0 h1 : Hp} {r : Int32} (hF : BX9_jump_108 x1 x3 s0 h0 = some (r, h1)) : xv G l mX9_jump 3 0 0 108 [(1, false, va_rf x1), (3, false, .int x3)] [.int s0] h0 (xP mkI r h1) := by
  unfold BX9_jump_108 at hF
  refine xe_istore dX9_jump_108 (by decide) ?_
  refine xe_iload dX9_jump_110 rfl ?_
  refine xe_if_eq (tgt := 120) dX9_jump_112 (by decide) (fun c1 => ?_) (fun c1 => ?_)
  · replace hF := if_p c1 hF
    refine xe_iconst (v := (-1)) dX9_jump_120 (by decide) ?_
    exact xe_ireturn dX9_jump_121 (xP_ret (mk := mkI) hF)
  · replace hF := if_n c1 hF
    refine xe_aload_n dX9_jump_115 rfl rfl ?_
    refine xe_iload_n dX9_jump_116 rfl rfl ?_
    obtain ⟨a2, e3, t4, hF⟩ := pI_inv hF
    refine xq_putI dX9_jump_117 fl_Walker_99 xk_0 (by decide) (fun z => by cases z) e3 t4 (Or.inl rfl) ?_
    refine xe_iconst (v := (-1)) dX9_jump_120 (by decide) ?_
    exact xe_ireturn dX9_jump_121 (xP_ret (mk := mkI) hF)
def BX9_jump_100 (x1 : Option Nat) (x3 : Int32) (s0 : Int32) (s1 : Int32) (h0 : Hp) : Option (Int32 × Hp) :=
  if (s0 : Int32) = s1 then
    BX9_jump_108 x1 x3 1 h0
  else
    BX9_jump_108 x1 x3 0 h0
set_option maxRecDepth 100000 in
set_option maxHeartbeats 4000000 in
theorem BX9_jump_100_ok {G : xG} {l : Launch} {x1 : Option Nat} {x3 : Int32} {s0 : Int32} {s1 : Int32} {h0 h1 : Hp} {r : Int32} (hF : BX9_jump_100 x1 x3 s0 s1 h0 = some (r, h1)) : xv G l mX9_jump 3 0 0 100 [(1, false, va_rf x1), (3, false, .int x3)] [.int s1, .int s0] h0 (xP mkI r h1) := by
  unfold BX9_jump_100 at hF
  refine xe_icmp_ne (tgt := 107) dX9_jump_100 (by decide) (fun c1 => ?_) (fun c1 => ?_)
  · replace hF := if_p c1 hF
    refine xe_iconst (v := 1) dX9_jump_103 (by decide) ?_
    refine xe_goto (tgt := 108) dX9_jump_104 (by decide) ?_
    exact xv.lv (BX9_jump_108_ok hF) (xsub_cons rfl (xsub_cons rfl xsub_nil))
  · replace hF := if_n c1 hF
    refine xe_iconst (v := 0) dX9_jump_107 (by decide) ?_
    exact xv.lv (BX9_jump_108_ok hF) (xsub_cons rfl (xsub_cons rfl xsub_nil))
def BX9_jump_90 (x1 : Option Nat) (x3 : Int32) (x4 : Int32) (s0 : Int32) (h0 : Hp) : Option (Int32 × Hp) :=
  if (x4 : Int32) = 0 then
    BX9_jump_100 x1 x3 s0 1 h0
  else
    BX9_jump_100 x1 x3 s0 0 h0
set_option maxRecDepth 100000 in
set_option maxHeartbeats 4000000 in
theorem BX9_jump_90_ok {G : xG} {l : Launch} {x1 : Option Nat} {x3 : Int32} {x4 : Int32} {s0 : Int32} {h0 h1 : Hp} {r : Int32} (hF : BX9_jump_90 x1 x3 x4 s0 h0 = some (r, h1)) : xv G l mX9_jump 3 0 0 90 [(1, false, va_rf x1), (3, false, .int x3), (4, false, .int x4)] [.int s0] h0 (xP mkI r h1) := by
  unfold BX9_jump_90 at hF
  refine xe_iload dX9_jump_90 rfl ?_
  refine xe_if_ne (tgt := 99) dX9_jump_92 (by decide) (fun c1 => ?_) (fun c1 => ?_)
  · replace hF := if_p c1 hF
    refine xe_iconst (v := 1) dX9_jump_95 (by decide) ?_
    refine xe_goto (tgt := 100) dX9_jump_96 (by decide) ?_
    exact xv.lv (BX9_jump_100_ok hF) (xsub_cons rfl (xsub_cons rfl xsub_nil))
  · replace hF := if_n c1 hF
    refine xe_iconst (v := 0) dX9_jump_99 (by decide) ?_
    exact xv.lv (BX9_jump_100_ok hF) (xsub_cons rfl (xsub_cons rfl xsub_nil))
def FX9_jump (p0 : Option Nat) (p1 : Option Nat) (p2 : Int32) (p3 : Int32) (p4 : Int32) (h0 : Hp) : Option (Int32 × Hp) :=
  if (p2 : Int32) = 20 then
    pI h0 p1 0 3 p3 fun h5 =>
    some ((-1), h5)
  else
    gR h0 p1 0 4 fun v7 =>
    rcv h0 v7 9 <|
    cl (FX10_popInt v7 h0) fun v11 h12 =>
    if (p2 : Int32) = 23 then
      gR h12 p0 8 0 fun v18 =>
      rcv h12 v18 3 <|
      cl (FX4_findTable v18 p3 h12) fun v22 h23 =>
      nz v22 (
        gI h23 p1 0 3 fun v29 =>
        pI h23 p1 0 3 v29 fun h36 =>
        some ((-1), h36)
      ) (
        rcv h23 v22 6 <|
        cl (FX7_targetFor v22 v11 h23) fun v38 h39 =>
        pI h39 p1 0 3 v38 fun h47 =>
        some ((-1), h47)
      )
    else
      if (p2 : Int32) = 21 then
        cl (FX3_passes p4 v11 h12) fun v50 h51 =>
        BX9_jump_108 p1 p3 v50 h51
      else
        if (v11 : Int32) = (-1) then
          BX9_jump_90 p1 p3 p4 1 h12
        else
          BX9_jump_90 p1 p3 p4 0 h12
set_option maxRecDepth 100000 in
set_option maxHeartbeats 4000000 in
theorem FX9_jump_ok {G : xG} {l : Launch} {p0 : Option Nat} {p1 : Option Nat} {p2 : Int32} {p3 : Int32} {p4 : Int32} {h0 h1 : Hp} {r : Int32} (hF : FX9_jump p0 p1 p2 p3 p4 h0 = some (r, h1)) : xc G l mX9_jump 3 0 0 [va_rf p0, va_rf p1, .int p2, .int p3, .int p4] h0 (xP mkI r h1) := by
  refine xo_I [.inr (.inr _), .inr (.inr _), .inl _, .inl _, .inl _] (by decide) (Nat.le_of_ble_eq_true rfl) rfl ?_
  show xv _ _ _ _ _ _ _ [(0, false, va_rf p0), (1, false, va_rf p1), (2, false, .int p2), (3, false, .int p3), (4, false, .int p4)] _ _ _
  unfold FX9_jump at hF
  refine xe_iload_n dX9_jump_0 rfl rfl ?_
  refine xe_bipush (v := 20) dX9_jump_1 (by decide) ?_
  refine xe_icmp_ne (tgt := 13) dX9_jump_3 (by decide) (fun c1 => ?_) (fun c1 => ?_)
  · replace hF := if_p c1 hF
    refine xe_aload_n dX9_jump_6 rfl rfl ?_
    refine xe_iload_n dX9_jump_7 rfl rfl ?_
    obtain ⟨a2, e3, t4, hF⟩ := pI_inv hF
    refine xq_putI dX9_jump_8 fl_Walker_99 xk_0 (by decide) (fun z => by cases z) e3 t4 (Or.inl rfl) ?_
    refine xe_iconst (v := (-1)) dX9_jump_11 (by decide) ?_
    exact xe_ireturn dX9_jump_12 (xP_ret (mk := mkI) hF)
  · replace hF := if_n c1 hF
    refine xe_aload_n dX9_jump_13 rfl rfl ?_
    obtain ⟨a8, e9, t10, hF⟩ := gR_inv hF
    refine xq_getR dX9_jump_14 fl_Walker_126 xk_0 e9 t10 rfl ?_
    obtain ⟨a16, e14, t15, hF⟩ := rcv_inv hF
    obtain ⟨v11, h12, o13, hF⟩ := cl_inv hF
    refine xz (xq_callV (As := []) (rest := []) dX9_jump_17 mk_X10_popInt ⟨tw_808, tw_809, tw_810⟩ (ci := 9) rfl e14 t15 (FX10_popInt_ok o13) xP_q (by decide) (by decide) rfl rfl ?_)
    refine xe_istore dX9_jump_20 (by decide) ?_
    refine xe_iload_n dX9_jump_22 rfl rfl ?_
    refine xe_bipush (v := 23) dX9_jump_23 (by decide) ?_
    refine xe_icmp_ne (tgt := 63) dX9_jump_25 (by decide) (fun c17 => ?_) (fun c17 => ?_)
    · replace hF := if_p c17 hF
      refine xe_aload_n dX9_jump_28 rfl rfl ?_
      obtain ⟨a19, e20, t21, hF⟩ := gR_inv hF
      refine xq_getR dX9_jump_29 fl_Walker_64 xk_8 e20 t21 rfl ?_
      refine xe_iload_n dX9_jump_32 rfl rfl ?_
      obtain ⟨a27, e25, t26, hF⟩ := rcv_inv hF
      obtain ⟨v22, h23, o24, hF⟩ := cl_inv hF
      refine xz (xq_callV (As := [.int _]) (rest := []) dX9_jump_33 mk_X4_findTable ⟨tw_812, tw_466, tw_467⟩ (ci := 3) rfl e25 t26 (FX4_findTable_ok o24) xP_q (by decide) (by decide) rfl rfl ?_)
      refine xe_astore dX9_jump_36 (by decide) ?_
      refine xe_aload_n dX9_jump_38 rfl rfl ?_
      refine xe_aload dX9_jump_39 rfl ?_
      refine xe_ifnonnull (tgt := 51) dX9_jump_41 (by decide) (fun e28 => ?_) (fun a_ e28 => ?_)
      · replace hF := nz_n' e28 hF
        refine xe_aload_n dX9_jump_44 rfl rfl ?_
        obtain ⟨a30, e31, t32, hF⟩ := gI_inv hF
        refine xq_getI dX9_jump_45 fl_Walker_99 xk_0 e31 t32 rfl ?_
        refine xe_goto (tgt := 58) dX9_jump_48 (by decide) ?_
        obtain ⟨a33, e34, t35, hF⟩ := pI_inv hF
        refine xq_putI dX9_jump_58 fl_Walker_99 xk_0 (by decide) (fun z => by cases z) e34 t35 (Or.inl rfl) ?_
        refine xe_iconst (v := (-1)) dX9_jump_61 (by decide) ?_
        exact xe_ireturn dX9_jump_62 (xP_ret (mk := mkI) hF)
      · replace hF := nz_s' e28 hF
        refine xe_aload dX9_jump_51 rfl ?_
        refine xe_iload dX9_jump_53 rfl ?_
        obtain ⟨a43, e41, t42, hF⟩ := rcv_inv hF
        obtain ⟨v38, h39, o40, hF⟩ := cl_inv hF
        refine xz (xq_callV (As := [.int _]) (rest := [va_rf _]) dX9_jump_55 mk_X7_targetFor ⟨tw_813, tw_814, tw_815⟩ (ci := 6) rfl e41 t42 (FX7_targetFor_ok o40) xP_q (by decide) (Nat.le_trans (cs_r cs_0) (by decide)) rfl rfl ?_)
        obtain ⟨a44, e45, t46, hF⟩ := pI_inv hF
        refine xq_putI dX9_jump_58 fl_Walker_99 xk_0 (by decide) (fun z => by cases z) e45 t46 (Or.inl rfl) ?_
        refine xe_iconst (v := (-1)) dX9_jump_61 (by decide) ?_
        exact xe_ireturn dX9_jump_62 (xP_ret (mk := mkI) hF)
    · replace hF := if_n c17 hF
      refine xe_iload_n dX9_jump_63 rfl rfl ?_
      refine xe_bipush (v := 21) dX9_jump_64 (by decide) ?_
      refine xe_icmp_ne (tgt := 79) dX9_jump_66 (by decide) (fun c49 => ?_) (fun c49 => ?_)
      · replace hF := if_p c49 hF
        refine xe_iload dX9_jump_69 rfl ?_
        refine xe_iload dX9_jump_71 rfl ?_
        obtain ⟨v50, h51, o52, hF⟩ := cl_inv hF
        refine xz (xq_callS (As := [.int _, .int _]) (rest := []) dX9_jump_73 mk_X3_passes ⟨tw_817, tw_818⟩ (FX3_passes_ok o52) xPZ_q (by decide) (by decide) rfl rfl ?_)
        refine xe_goto (tgt := 108) dX9_jump_76 (by decide) ?_
        exact xv.lv (BX9_jump_108_ok hF) (xsub_cons rfl (xsub_cons rfl xsub_nil))
      · replace hF := if_n c49 hF
        refine xe_iload dX9_jump_79 rfl ?_
        refine xe_iconst (v := (-1)) dX9_jump_81 (by decide) ?_
        refine xe_icmp_ne (tgt := 89) dX9_jump_82 (by decide) (fun c53 => ?_) (fun c53 => ?_)
        · replace hF := if_p c53 hF
          refine xe_iconst (v := 1) dX9_jump_85 (by decide) ?_
          refine xe_goto (tgt := 90) dX9_jump_86 (by decide) ?_
          exact xv.lv (BX9_jump_90_ok hF) (xsub_cons rfl (xsub_cons rfl (xsub_cons rfl xsub_nil)))
        · replace hF := if_n c53 hF
          refine xe_iconst (v := 0) dX9_jump_89 (by decide) ?_
          exact xv.lv (BX9_jump_90_ok hF) (xsub_cons rfl (xsub_cons rfl (xsub_cons rfl xsub_nil)))
/-! SeldomOps$Walker.leave(LSeldomOps$Call;)I -/
def BX9_leave_88 (x5 : Option Nat) (h0 : Hp) : Option (Int32 × Hp) :=
  gI h0 x5 0 2 fun v1 =>
  pI h0 x5 0 2 (v1 + 1) fun h8 =>
  some ((-1), h8)
set_option maxRecDepth 100000 in
set_option maxHeartbeats 4000000 in
theorem BX9_leave_88_ok {G : xG} {l : Launch} {x5 : Option Nat} {h0 h1 : Hp} {r : Int32} (hF : BX9_leave_88 x5 h0 = some (r, h1)) : xv G l mX9_leave 3 0 0 88 [(5, false, va_rf x5)] [] h0 (xP mkI r h1) := by
  unfold BX9_leave_88 at hF
  refine xe_aload dX9_leave_88 rfl ?_
  refine xe_dup dX9_leave_90 (va_rf_cat _) ?_
  obtain ⟨a2, e3, t4, hF⟩ := gI_inv hF
  refine xq_getI dX9_leave_91 fl_Walker_96 xk_0 e3 t4 rfl ?_
  refine xe_iconst (v := 1) dX9_leave_94 (by decide) ?_
  refine xe_iadd dX9_leave_95 ?_
  obtain ⟨a5, e6, t7, hF⟩ := pI_inv hF
  refine xq_putI dX9_leave_96 fl_Walker_96 xk_0 (by decide) (fun z => by cases z) e6 t7 (Or.inl rfl) ?_
  refine xe_iconst (v := (-1)) dX9_leave_99 (by decide) ?_
  exact xe_ireturn dX9_leave_100 (xP_ret (mk := mkI) hF)
def BX9_leave_35 (x0 : Option Nat) (x2 : Int32) (s0 : Int64) (h0 : Hp) : Option (Int32 × Hp) :=
  gI h0 x0 8 4 fun v1 =>
  pI h0 x0 8 4 (v1 - 1) fun h8 =>
  gI h8 x0 8 4 fun v10 =>
  if (v10 : Int32) = 0 then
    pL h8 x0 8 5 s0 fun h18 =>
    some ((-1), h18)
  else
    gR h8 x0 8 2 fun v20 =>
    gI h8 x0 8 4 fun v24 =>
    aR h8 v20 "SeldomOps$Call" (v24 - 1) fun v28 =>
    if (x2 : Int32) = 5 then
      BX9_leave_88 v28 h8
    else
      gR h8 v28 0 4 fun v35 =>
      rcv h8 v35 9 <|
      cl (FX10_pushBits v35 x2 s0 h8) fun v39 h40 =>
      BX9_leave_88 v28 h40
set_option maxRecDepth 100000 in
set_option maxHeartbeats 4000000 in
theorem BX9_leave_35_ok {G : xG} {l : Launch} {x0 : Option Nat} {x2 : Int32} {s0 : Int64} {h0 h1 : Hp} {r : Int32} (hF : BX9_leave_35 x0 x2 s0 h0 = some (r, h1)) : xv G l mX9_leave 3 0 0 35 [(0, false, va_rf x0), (2, false, .int x2)] [.long s0] h0 (xP mkI r h1) := by
  unfold BX9_leave_35 at hF
  refine xe_lstore_n dX9_leave_35 rfl (by decide) ?_
  refine xe_aload_n dX9_leave_36 rfl rfl ?_
  refine xe_dup dX9_leave_37 (va_rf_cat _) ?_
  obtain ⟨a2, e3, t4, hF⟩ := gI_inv hF
  refine xq_getI dX9_leave_38 fl_Walker_28 xk_8 e3 t4 rfl ?_
  refine xe_iconst (v := 1) dX9_leave_41 (by decide) ?_
  refine xe_isub dX9_leave_42 ?_
  obtain ⟨a5, e6, t7, hF⟩ := pI_inv hF
  refine xq_putI dX9_leave_43 fl_Walker_28 xk_8 (by decide) (fun z => by cases z) e6 t7 (Or.inl rfl) ?_
  refine xe_aload_n dX9_leave_46 rfl rfl ?_
  obtain ⟨a11, e12, t13, hF⟩ := gI_inv hF
  refine xq_getI dX9_leave_47 fl_Walker_28 xk_8 e12 t13 rfl ?_
  refine xe_if_ne (tgt := 60) dX9_leave_50 (by decide) (fun c14 => ?_) (fun c14 => ?_)
  · replace hF := if_p c14 hF
    refine xe_aload_n dX9_leave_53 rfl rfl ?_
    refine xe_lload_n dX9_leave_54 rfl rfl ?_
    obtain ⟨a15, e16, t17, hF⟩ := pL_inv hF
    refine xq_putL dX9_leave_55 fl_Walker_32 xk_8 (by decide) (fun z => by cases z) e16 t17 rfl ?_
    refine xe_iconst (v := (-1)) dX9_leave_58 (by decide) ?_
    exact xe_ireturn dX9_leave_59 (xP_ret (mk := mkI) hF)
  · replace hF := if_n c14 hF
    refine xe_aload_n dX9_leave_60 rfl rfl ?_
    obtain ⟨a21, e22, t23, hF⟩ := gR_inv hF
    refine xq_getR dX9_leave_61 fl_Walker_20 xk_8 e22 t23 rfl ?_
    refine xe_aload_n dX9_leave_64 rfl rfl ?_
    obtain ⟨a25, e26, t27, hF⟩ := gI_inv hF
    refine xq_getI dX9_leave_65 fl_Walker_28 xk_8 e26 t27 rfl ?_
    refine xe_iconst (v := 1) dX9_leave_68 (by decide) ?_
    refine xe_isub dX9_leave_69 ?_
    obtain ⟨a29, n30, e31, t32, b33, hF⟩ := aR_inv hF
    refine xq_aald dX9_leave_70 e31 t32 (by decide) b33 ?_
    refine xe_astore dX9_leave_71 (by decide) ?_
    refine xe_iload_n dX9_leave_73 rfl rfl ?_
    refine xe_iconst (v := 5) dX9_leave_74 (by decide) ?_
    refine xe_icmp_eq (tgt := 88) dX9_leave_75 (by decide) (fun c34 => ?_) (fun c34 => ?_)
    · replace hF := if_p c34 hF
      exact xv.lv (BX9_leave_88_ok hF) (xsub_cons rfl xsub_nil)
    · replace hF := if_n c34 hF
      refine xe_aload dX9_leave_78 rfl ?_
      obtain ⟨a36, e37, t38, hF⟩ := gR_inv hF
      refine xq_getR dX9_leave_80 fl_Walker_126 xk_0 e37 t38 rfl ?_
      refine xe_iload_n dX9_leave_83 rfl rfl ?_
      refine xe_lload_n dX9_leave_84 rfl rfl ?_
      obtain ⟨a44, e42, t43, hF⟩ := rcv_inv hF
      obtain ⟨v39, h40, o41, hF⟩ := cl_inv hF
      refine xz (xq_callV (As := [.int _, .long _]) (rest := []) dX9_leave_85 mk_X10_pushBits ⟨tw_754, tw_755, tw_756⟩ (ci := 9) rfl e42 t43 (FX10_pushBits_ok o41) xP_q (by decide) (by decide) rfl rfl ?_)
      exact xv.lv (BX9_leave_88_ok hF) (xsub_cons rfl xsub_nil)
def FX9_leave (p0 : Option Nat) (p1 : Option Nat) (h0 : Hp) : Option (Int32 × Hp) :=
  gI h0 p1 0 7 fun v1 =>
  if (0 : Int32) < v1 then
    some (6, h0)
  else
    gR h0 p1 0 1 fun v6 =>
    gI h0 v6 2 0 fun v10 =>
    if (v10 : Int32) = 5 then
      BX9_leave_35 p0 v10 0 h0
    else
      gR h0 p1 0 4 fun v15 =>
      rcv h0 v15 9 <|
      cl (FX10_popBits v15 v10 h0) fun v19 h20 =>
      BX9_leave_35 p0 v10 v19 h20
set_option maxRecDepth 100000 in
set_option maxHeartbeats 4000000 in
theorem FX9_leave_ok {G : xG} {l : Launch} {p0 : Option Nat} {p1 : Option Nat} {h0 h1 : Hp} {r : Int32} (hF : FX9_leave p0 p1 h0 = some (r, h1)) : xc G l mX9_leave 3 0 0 [va_rf p0, va_rf p1] h0 (xP mkI r h1) := by
  refine xo_I [.inr (.inr _), .inr (.inr _)] (by decide) (Nat.le_of_ble_eq_true rfl) rfl ?_
  show xv _ _ _ _ _ _ _ [(0, false, va_rf p0), (1, false, va_rf p1)] _ _ _
  unfold FX9_leave at hF
  refine xe_aload_n dX9_leave_0 rfl rfl ?_
  obtain ⟨a2, e3, t4, hF⟩ := gI_inv hF
  refine xq_getI dX9_leave_1 fl_Walker_310 xk_0 e3 t4 rfl ?_
  refine xe_if_le (tgt := 10) dX9_leave_4 (by decide) (fun c5 => ?_) (fun c5 => ?_)
  · replace hF := if_p c5 hF
    refine xe_bipush (v := 6) dX9_leave_7 (by decide) ?_
    exact xe_ireturn dX9_leave_9 (xP_ret (mk := mkI) hF)
  · replace hF := if_n c5 hF
    refine xe_aload_n dX9_leave_10 rfl rfl ?_
    obtain ⟨a7, e8, t9, hF⟩ := gR_inv hF
    refine xq_getR dX9_leave_11 fl_Walker_102 xk_0 e8 t9 rfl ?_
    obtain ⟨a11, e12, t13, hF⟩ := gI_inv hF
    refine xq_getI dX9_leave_14 fl_Walker_314 xk_2 e12 t13 rfl ?_
    refine xe_istore_n dX9_leave_17 rfl (by decide) ?_
    refine xe_iload_n dX9_leave_18 rfl rfl ?_
    refine xe_iconst (v := 5) dX9_leave_19 (by decide) ?_
    refine xe_icmp_ne (tgt := 27) dX9_leave_20 (by decide) (fun c14 => ?_) (fun c14 => ?_)
    · replace hF := if_p c14 hF
      refine xe_lconst (v := 0) dX9_leave_23 (by decide) ?_
      refine xe_goto (tgt := 35) dX9_leave_24 (by decide) ?_
      exact xv.lv (BX9_leave_35_ok hF) (xsub_cons rfl (xsub_cons rfl xsub_nil))
    · replace hF := if_n c14 hF
      refine xe_aload_n dX9_leave_27 rfl rfl ?_
      obtain ⟨a16, e17, t18, hF⟩ := gR_inv hF
      refine xq_getR dX9_leave_28 fl_Walker_126 xk_0 e17 t18 rfl ?_
      refine xe_iload_n dX9_leave_31 rfl rfl ?_
      obtain ⟨a24, e22, t23, hF⟩ := rcv_inv hF
      obtain ⟨v19, h20, o21, hF⟩ := cl_inv hF
      refine xz (xq_callV (As := [.int _]) (rest := []) dX9_leave_32 mk_X10_popBits ⟨tw_768, tw_769, tw_770⟩ (ci := 9) rfl e22 t23 (FX10_popBits_ok o21) xP_q (by decide) (by decide) rfl rfl ?_)
      exact xv.lv (BX9_leave_35_ok hF) (xsub_cons rfl (xsub_cons rfl xsub_nil))
/-! SeldomOps$Walker.letGoAll(LSeldomOps$Call;)V -/
def BX9_letGoAll_2 : Nat → Option Nat → Option Nat → Int32 → Hp → Option (Unit × Hp)
  | 0, _, _, _, _ => none
  | n + 1, x0, x1, x2, h0 =>
    if (x2 : Int32) < 60 then
      gR h0 x0 8 1 fun v2 =>
      gR h0 v2 7 2 fun v6 =>
      aI h0 v6 .int x2 fun v10 =>
      gR h0 x1 0 6 fun v16 =>
      aI h0 v16 .int x2 fun v20 =>
      sI h0 v6 x2 (v10 - v20) fun h26 =>
      gR h26 x1 0 6 fun v33 =>
      sI h26 v33 x2 0 fun h37 =>
      BX9_letGoAll_2 n x0 x1 (x2 + 1) h37
    else
      pI h0 x1 0 7 0 fun h47 =>
      some ((), h47)
set_option maxRecDepth 100000 in
set_option maxHeartbeats 4000000 in
theorem BX9_letGoAll_2_ok {G : xG} {l : Launch} : ∀ (n : Nat) {x0 : Option Nat} {x1 : Option Nat} {x2 : Int32} {h0 h1 : Hp} {r : Unit} (hF : BX9_letGoAll_2 n x0 x1 x2 h0 = some (r, h1)), xv G l mX9_letGoAll 1 0 0 2 [(0, false, va_rf x0), (1, false, va_rf x1), (2, false, .int x2)] [] h0 (xP mkV r h1) := by
  intro n
  induction n with
  | zero => intro x0 x1 x2 h0 h1 r hF; cases hF
  | succ n ih =>
    intro x0 x1 x2 h0 h1 r hF
    unfold BX9_letGoAll_2 at hF
    refine xe_iload_n dX9_letGoAll_2 rfl rfl ?_
    refine xe_bipush (v := 60) dX9_letGoAll_3 (by decide) ?_
    refine xe_icmp_ge (tgt := 39) dX9_letGoAll_5 (by decide) (fun c1 => ?_) (fun c1 => ?_)
    · replace hF := if_p c1 hF
      refine xe_aload_n dX9_letGoAll_8 rfl rfl ?_
      obtain ⟨a3, e4, t5, hF⟩ := gR_inv hF
      refine xq_getR dX9_letGoAll_9 fl_Walker_12 xk_8 e4 t5 rfl ?_
      obtain ⟨a7, e8, t9, hF⟩ := gR_inv hF
      refine xq_getR dX9_letGoAll_12 fl_Walker_313 xk_7 e8 t9 rfl ?_
      refine xe_iload_n dX9_letGoAll_15 rfl rfl ?_
      refine xe_dup2 dX9_letGoAll_16 rfl (va_rf_cat _) ?_
      obtain ⟨a11, n12, e13, t14, b15, hF⟩ := aI_inv hF
      refine xq_iald dX9_letGoAll_17 e13 t14 b15 ?_
      refine xe_aload_n dX9_letGoAll_18 rfl rfl ?_
      obtain ⟨a17, e18, t19, hF⟩ := gR_inv hF
      refine xq_getR dX9_letGoAll_19 fl_Walker_307 xk_0 e18 t19 rfl ?_
      refine xe_iload_n dX9_letGoAll_22 rfl rfl ?_
      obtain ⟨a21, n22, e23, t24, b25, hF⟩ := aI_inv hF
      refine xq_iald dX9_letGoAll_23 e23 t24 b25 ?_
      refine xe_isub dX9_letGoAll_24 ?_
      obtain ⟨a27, n28, e29, t30, b31, hF⟩ := sI_inv hF
      refine xq_iast dX9_letGoAll_25 e29 t30 b31 ?_
      refine xe_aload_n dX9_letGoAll_26 rfl rfl ?_
      obtain ⟨a34, e35, t36, hF⟩ := gR_inv hF
      refine xq_getR dX9_letGoAll_27 fl_Walker_307 xk_0 e35 t36 rfl ?_
      refine xe_iload_n dX9_letGoAll_30 rfl rfl ?_
      refine xe_iconst (v := 0) dX9_letGoAll_31 (by decide) ?_
      obtain ⟨a38, n39, e40, t41, b42, hF⟩ := sI_inv hF
      refine xq_iast dX9_letGoAll_32 e40 t41 b42 ?_
      refine xe_iinc (v := _ + 1) dX9_letGoAll_33 rfl rfl (by decide) ?_
      refine xe_goto (tgt := 2) dX9_letGoAll_36 (by decide) ?_
      exact xv.lv (ih hF) (xsub_cons rfl (xsub_cons rfl (xsub_cons rfl xsub_nil)))
    · replace hF := if_n c1 hF
      refine xe_aload_n dX9_letGoAll_39 rfl rfl ?_
      refine xe_iconst (v := 0) dX9_letGoAll_40 (by decide) ?_
      obtain ⟨a44, e45, t46, hF⟩ := pI_inv hF
      refine xq_putI dX9_letGoAll_41 fl_Walker_310 xk_0 (by decide) (fun z => by cases z) e45 t46 (Or.inl rfl) ?_
      exact xe_return dX9_letGoAll_44 (xP_ret (mk := mkV) hF)
def FX9_letGoAll (p0 : Option Nat) (p1 : Option Nat) (h0 : Hp) : Option (Unit × Hp) :=
  BX9_letGoAll_2 100000 p0 p1 0 h0
set_option maxRecDepth 100000 in
set_option maxHeartbeats 4000000 in
theorem FX9_letGoAll_ok {G : xG} {l : Launch} {p0 : Option Nat} {p1 : Option Nat} {h0 h1 : Hp} {r : Unit} (hF : FX9_letGoAll p0 p1 h0 = some (r, h1)) : xc G l mX9_letGoAll 1 0 0 [va_rf p0, va_rf p1] h0 (xP mkV r h1) := by
  refine xo_V [.inr (.inr _), .inr (.inr _)] (by decide) (Nat.le_of_ble_eq_true rfl) rfl ?_
  show xv _ _ _ _ _ _ _ [(0, false, va_rf p0), (1, false, va_rf p1)] _ _ _
  unfold FX9_letGoAll at hF
  refine xe_iconst (v := 0) dX9_letGoAll_0 (by decide) ?_
  refine xe_istore_n dX9_letGoAll_1 rfl (by decide) ?_
  exact xv.lv (BX9_letGoAll_2_ok _ hF) (xsub_cons rfl (xsub_cons rfl (xsub_cons rfl xsub_nil)))
/-! SeldomOps$Walker.newArray(LSeldomOps$Words;II)I -/
def BX9_newArray_45 (k12 : Option Nat → Option Nat → Int32 → Int32 → Int32 → Int32 → Hp → Option (Int32 × Hp)) (x0 : Option Nat) (x1 : Option Nat) (x2 : Int32) (x3 : Int32) (x5 : Int32) (s0 : Int32) (s1 : Int32) (h0 : Hp) : Option (Int32 × Hp) :=
  k12 x0 x1 x2 x3 (s0 ||| s1) (x5 + (-1)) h0
set_option maxRecDepth 100000 in
set_option maxHeartbeats 4000000 in
theorem BX9_newArray_45_ok {G : xG} {l : Launch} {k12 : Option Nat → Option Nat → Int32 → Int32 → Int32 → Int32 → Hp → Option (Int32 × Hp)} (hk12 : ∀ {x0 : Option Nat} {x1 : Option Nat} {x2 : Int32} {x3 : Int32} {x4 : Int32} {x5 : Int32} {h0 h1 : Hp} {r : Int32}, k12 x0 x1 x2 x3 x4 x5 h0 = some (r, h1) → xv G l mX9_newArray 10 0 0 12 [(0, false, va_rf x0), (1, false, va_rf x1), (2, false, .int x2), (3, false, .int x3), (4, false, .int x4), (5, false, .int x5)] [] h0 (xP mkI r h1)) {x0 : Option Nat} {x1 : Option Nat} {x2 : Int32} {x3 : Int32} {x5 : Int32} {s0 : Int32} {s1 : Int32} {h0 h1 : Hp} {r : Int32} (hF : BX9_newArray_45 k12 x0 x1 x2 x3 x5 s0 s1 h0 = some (r, h1)) : xv G l mX9_newArray 10 0 0 45 [(0, false, va_rf x0), (1, false, va_rf x1), (2, false, .int x2), (3, false, .int x3), (5, false, .int x5)] [.int s1, .int s0] h0 (xP mkI r h1) := by
  unfold BX9_newArray_45 at hF
  refine xe_ior dX9_newArray_45 ?_
  refine xe_istore dX9_newArray_46 (by decide) ?_
  refine xe_iinc (v := _ + (-1)) dX9_newArray_48 rfl rfl (by decide) ?_
  refine xe_goto (tgt := 12) dX9_newArray_51 (by decide) ?_
  exact xv.lv (hk12 hF) (xsub_cons rfl (xsub_cons rfl (xsub_cons rfl (xsub_cons rfl (xsub_cons rfl (xsub_cons rfl xsub_nil))))))
def BX9_newArray_12 : Nat → Option Nat → Option Nat → Int32 → Int32 → Int32 → Int32 → Hp → Option (Int32 × Hp)
  | 0, _, _, _, _, _, _, _ => none
  | n + 1, x0, x1, x2, x3, x4, x5, h0 =>
    if (x5 : Int32) < 0 then
      if (x4 : Int32) = 0 then
        gR h0 x0 8 1 fun v3 =>
        gR h0 x0 8 3 fun v7 =>
        rcv h0 v3 7 <|
        cl (FX8_haveRoom v3 v7 x3 h0) fun v11 h12 =>
        if (v11 : Int32) = 0 then
          some (7, h12)
        else
          gR h12 x0 8 1 fun v18 =>
          gR h12 x0 8 3 fun v22 =>
          cl (FX8_makeRow 6 v18 x2 v22 0 x3 h12) fun v26 h27 =>
          rcv h27 x1 9 <|
          cl (FX10_push x1 (Int32.toInt64 v26) h27) fun v29 h30 =>
          some ((-1), h30)
      else
        some (4, h0)
    else
      gR h0 x0 8 3 fun v35 =>
      rcv h0 x1 9 <|
      cl (FX10_popInt x1 h0) fun v39 h40 =>
      sI h40 v35 x5 v39 fun h45 =>
      gR h45 x0 8 3 fun v52 =>
      aI h45 v52 .int x5 fun v56 =>
      if (v56 : Int32) < 0 then
        BX9_newArray_45 (BX9_newArray_12 n) x0 x1 x2 x3 x5 x4 1 h45
      else
        BX9_newArray_45 (BX9_newArray_12 n) x0 x1 x2 x3 x5 x4 0 h45
set_option maxRecDepth 100000 in
set_option maxHeartbeats 4000000 in
theorem BX9_newArray_12_ok {G : xG} {l : Launch} : ∀ (n : Nat) {x0 : Option Nat} {x1 : Option Nat} {x2 : Int32} {x3 : Int32} {x4 : Int32} {x5 : Int32} {h0 h1 : Hp} {r : Int32} (hF : BX9_newArray_12 n x0 x1 x2 x3 x4 x5 h0 = some (r, h1)), xv G l mX9_newArray 10 0 0 12 [(0, false, va_rf x0), (1, false, va_rf x1), (2, false, .int x2), (3, false, .int x3), (4, false, .int x4), (5, false, .int x5)] [] h0 (xP mkI r h1) := by
  intro n
  induction n with
  | zero => intro x0 x1 x2 x3 x4 x5 h0 h1 r hF; cases hF
  | succ n ih =>
    intro x0 x1 x2 x3 x4 x5 h0 h1 r hF
    unfold BX9_newArray_12 at hF
    refine xe_iload dX9_newArray_12 rfl ?_
    refine xe_if_lt (tgt := 54) dX9_newArray_14 (by decide) (fun c1 => ?_) (fun c1 => ?_)
    · replace hF := if_p c1 hF
      refine xe_iload dX9_newArray_54 rfl ?_
      refine xe_if_eq (tgt := 61) dX9_newArray_56 (by decide) (fun c2 => ?_) (fun c2 => ?_)
      · replace hF := if_p c2 hF
        refine xe_aload_n dX9_newArray_61 rfl rfl ?_
        obtain ⟨a4, e5, t6, hF⟩ := gR_inv hF
        refine xq_getR dX9_newArray_62 fl_Walker_12 xk_8 e5 t6 rfl ?_
        refine xe_aload_n dX9_newArray_65 rfl rfl ?_
        obtain ⟨a8, e9, t10, hF⟩ := gR_inv hF
        refine xq_getR dX9_newArray_66 fl_Walker_24 xk_8 e9 t10 rfl ?_
        refine xe_iload_n dX9_newArray_69 rfl rfl ?_
        obtain ⟨a16, e14, t15, hF⟩ := rcv_inv hF
        obtain ⟨v11, h12, o13, hF⟩ := cl_inv hF
        refine xz (xq_callV (As := [va_rf _, .int _]) (rest := []) dX9_newArray_70 mk_X8_haveRoom ⟨tw_831, tw_832, tw_833⟩ (ci := 7) rfl e14 t15 (FX8_haveRoom_ok o13) xPZ_q (by decide) (by decide) rfl rfl ?_)
        refine xe_if_ne (tgt := 79) dX9_newArray_73 (by decide) (fun c17 => ?_) (fun c17 => ?_)
        · replace hF := if_p c17 hF
          refine xe_bipush (v := 7) dX9_newArray_76 (by decide) ?_
          exact xe_ireturn dX9_newArray_78 (xP_ret (mk := mkI) hF)
        · replace hF := if_n c17 hF
          refine xe_aload_n dX9_newArray_79 rfl rfl ?_
          refine xe_aload_n dX9_newArray_80 rfl rfl ?_
          obtain ⟨a19, e20, t21, hF⟩ := gR_inv hF
          refine xq_getR dX9_newArray_81 fl_Walker_12 xk_8 e20 t21 rfl ?_
          refine xe_iload_n dX9_newArray_84 rfl rfl ?_
          refine xe_aload_n dX9_newArray_85 rfl rfl ?_
          obtain ⟨a23, e24, t25, hF⟩ := gR_inv hF
          refine xq_getR dX9_newArray_86 fl_Walker_24 xk_8 e24 t25 rfl ?_
          refine xe_iconst (v := 0) dX9_newArray_89 (by decide) ?_
          refine xe_iload_n dX9_newArray_90 rfl rfl ?_
          obtain ⟨v26, h27, o28, hF⟩ := cl_inv hF
          refine xz (xq_callSN (As := [va_rf _, .int _, va_rf _, .int _, .int _]) (rest := [va_rf _]) dX9_newArray_91 mk_X8_makeRow ⟨tn_836, tw_837⟩ (FX8_makeRow_ok o28) xP_q (by decide) (Nat.le_trans (cs_r cs_0) (by decide)) rfl rfl ?_)
          refine xe_i2l dX9_newArray_94 ?_
          obtain ⟨a34, e32, t33, hF⟩ := rcv_inv hF
          obtain ⟨v29, h30, o31, hF⟩ := cl_inv hF
          refine xz (xq_callV (As := [.long _]) (rest := []) dX9_newArray_95 mk_X10_push ⟨tw_759, tw_640, tw_641⟩ (ci := 9) rfl e32 t33 (FX10_push_ok o31) xP_q (by decide) (by decide) rfl rfl ?_)
          refine xe_iconst (v := (-1)) dX9_newArray_98 (by decide) ?_
          exact xe_ireturn dX9_newArray_99 (xP_ret (mk := mkI) hF)
      · replace hF := if_n c2 hF
        refine xe_iconst (v := 4) dX9_newArray_59 (by decide) ?_
        exact xe_ireturn dX9_newArray_60 (xP_ret (mk := mkI) hF)
    · replace hF := if_n c1 hF
      refine xe_aload_n dX9_newArray_17 rfl rfl ?_
      obtain ⟨a36, e37, t38, hF⟩ := gR_inv hF
      refine xq_getR dX9_newArray_18 fl_Walker_24 xk_8 e37 t38 rfl ?_
      refine xe_iload dX9_newArray_21 rfl ?_
      refine xe_aload_n dX9_newArray_23 rfl rfl ?_
      obtain ⟨a44, e42, t43, hF⟩ := rcv_inv hF
      obtain ⟨v39, h40, o41, hF⟩ := cl_inv hF
      refine xz (xq_callV (As := []) (rest := [.int _, va_rf _]) dX9_newArray_24 mk_X10_popInt ⟨tw_808, tw_809, tw_810⟩ (ci := 9) rfl e42 t43 (FX10_popInt_ok o41) xP_q (by decide) (Nat.le_trans (cs_i (cs_r cs_0)) (by decide)) rfl rfl ?_)
      obtain ⟨a46, n47, e48, t49, b50, hF⟩ := sI_inv hF
      refine xq_iast dX9_newArray_27 e48 t49 b50 ?_
      refine xe_iload dX9_newArray_28 rfl ?_
      refine xe_aload_n dX9_newArray_30 rfl rfl ?_
      obtain ⟨a53, e54, t55, hF⟩ := gR_inv hF
      refine xq_getR dX9_newArray_31 fl_Walker_24 xk_8 e54 t55 rfl ?_
      refine xe_iload dX9_newArray_34 rfl ?_
      obtain ⟨a57, n58, e59, t60, b61, hF⟩ := aI_inv hF
      refine xq_iald dX9_newArray_36 e59 t60 b61 ?_
      refine xe_if_ge (tgt := 44) dX9_newArray_37 (by decide) (fun c62 => ?_) (fun c62 => ?_)
      · replace hF := if_p c62 hF
        refine xe_iconst (v := 1) dX9_newArray_40 (by decide) ?_
        refine xe_goto (tgt := 45) dX9_newArray_41 (by decide) ?_
        exact xv.lv (BX9_newArray_45_ok ih hF) (xsub_cons rfl (xsub_cons rfl (xsub_cons rfl (xsub_cons rfl (xsub_cons rfl xsub_nil)))))
      · replace hF := if_n c62 hF
        refine xe_iconst (v := 0) dX9_newArray_44 (by decide) ?_
        exact xv.lv (BX9_newArray_45_ok ih hF) (xsub_cons rfl (xsub_cons rfl (xsub_cons rfl (xsub_cons rfl (xsub_cons rfl xsub_nil)))))
def FX9_newArray (p0 : Option Nat) (p1 : Option Nat) (p2 : Int32) (p3 : Int32) (h0 : Hp) : Option (Int32 × Hp) :=
  BX9_newArray_12 100000 p0 p1 p2 p3 0 ((if 3 < p3 then 3 else p3) - 1) h0
set_option maxRecDepth 100000 in
set_option maxHeartbeats 4000000 in
theorem FX9_newArray_ok {G : xG} {l : Launch} {p0 : Option Nat} {p1 : Option Nat} {p2 : Int32} {p3 : Int32} {h0 h1 : Hp} {r : Int32} (hF : FX9_newArray p0 p1 p2 p3 h0 = some (r, h1)) : xc G l mX9_newArray 10 0 0 [va_rf p0, va_rf p1, .int p2, .int p3] h0 (xP mkI r h1) := by
  refine xo_I [.inr (.inr _), .inr (.inr _), .inl _, .inl _] (by decide) (Nat.le_of_ble_eq_true rfl) rfl ?_
  show xv _ _ _ _ _ _ _ [(0, false, va_rf p0), (1, false, va_rf p1), (2, false, .int p2), (3, false, .int p3)] _ _ _
  unfold FX9_newArray at hF
  refine xe_iconst (v := 0) dX9_newArray_0 (by decide) ?_
  refine xe_istore dX9_newArray_1 (by decide) ?_
  refine xe_iload_n dX9_newArray_3 rfl rfl ?_
  refine xe_iconst (v := 3) dX9_newArray_4 (by decide) ?_
  refine xe_mmin dX9_newArray_5 ⟨tw_828, tw_829, tw_14, tw_830⟩ (by decide) (by decide) ?_
  refine xe_iconst (v := 1) dX9_newArray_8 (by decide) ?_
  refine xe_isub dX9_newArray_9 ?_
  refine xe_istore dX9_newArray_10 (by decide) ?_
  exact xv.lv (BX9_newArray_12_ok _ hF) (xsub_cons rfl (xsub_cons rfl (xsub_cons rfl (xsub_cons rfl (xsub_cons rfl (xsub_cons rfl xsub_nil))))))
/-! SeldomOps$Walker.pushFixed(LSeldomOps$Words;II)I -/
def BX9_pushFixed_32 (x0 : Option Nat) (x1 : Option Nat) (x2 : Int32) (x3 : Int32) (h0 : Hp) : Option (Int32 × Hp) :=
  gR h0 x0 8 0 fun v1 =>
  rcv h0 v1 3 <|
  cl (FX4_readConstant v1 x3 h0) fun v5 h6 =>
  rcv h6 x1 9 <|
  cl (FX10_pushBits x1 x2 v5 h6) fun v11 h12 =>
  some ((-1), h12)
set_option maxRecDepth 100000 in
set_option maxHeartbeats 4000000 in
theorem BX9_pushFixed_32_ok {G : xG} {l : Launch} {x0 : Option Nat} {x1 : Option Nat} {x2 : Int32} {x3 : Int32} {h0 h1 : Hp} {r : Int32} (hF : BX9_pushFixed_32 x0 x1 x2 x3 h0 = some (r, h1)) : xv G l mX9_pushFixed 3 0 0 32 [(0, false, va_rf x0), (1, false, va_rf x1), (2, false, .int x2), (3, false, .int x3)] [] h0 (xP mkI r h1) := by
  unfold BX9_pushFixed_32 at hF
  refine xe_aload_n dX9_pushFixed_32 rfl rfl ?_
  refine xe_iload_n dX9_pushFixed_33 rfl rfl ?_
  refine xe_aload_n dX9_pushFixed_34 rfl rfl ?_
  obtain ⟨a2, e3, t4, hF⟩ := gR_inv hF
  refine xq_getR dX9_pushFixed_35 fl_Walker_64 xk_8 e3 t4 rfl ?_
  refine xe_iload_n dX9_pushFixed_38 rfl rfl ?_
  obtain ⟨a10, e8, t9, hF⟩ := rcv_inv hF
  obtain ⟨v5, h6, o7, hF⟩ := cl_inv hF
  refine xz (xq_callV (As := [.int _]) (rest := [.int _, va_rf _]) dX9_pushFixed_39 mk_X4_readConstant ⟨tw_750, tw_751, tw_752⟩ (ci := 3) rfl e8 t9 (FX4_readConstant_ok o7) xP_q (by decide) (Nat.le_trans (cs_i (cs_r cs_0)) (by decide)) rfl rfl ?_)
  obtain ⟨a16, e14, t15, hF⟩ := rcv_inv hF
  obtain ⟨v11, h12, o13, hF⟩ := cl_inv hF
  refine xz (xq_callV (As := [.int _, .long _]) (rest := []) dX9_pushFixed_42 mk_X10_pushBits ⟨tw_754, tw_755, tw_756⟩ (ci := 9) rfl e14 t15 (FX10_pushBits_ok o13) xP_q (by decide) (by decide) rfl rfl ?_)
  refine xe_goto (tgt := 64) dX9_pushFixed_45 (by decide) ?_
  refine xe_iconst (v := (-1)) dX9_pushFixed_64 (by decide) ?_
  exact xe_ireturn dX9_pushFixed_65 (xP_ret (mk := mkI) hF)
def FX9_pushFixed (p0 : Option Nat) (p1 : Option Nat) (p2 : Int32) (p3 : Int32) (h0 : Hp) : Option (Int32 × Hp) :=
  if (p2 : Int32) = 1 then
    BX9_pushFixed_32 p0 p1 p2 p3 h0
  else
  if (p2 : Int32) = 3 then
    BX9_pushFixed_32 p0 p1 p2 p3 h0
  else
  if (p2 : Int32) = 4 then
    rcv h0 p1 9 <|
    cl (FX10_push p1 (-1) h0) fun v4 h5 =>
    some ((-1), h5)
  else
  rcv h0 p1 9 <|
  cl (FX10_push p1 (Int32.toInt64 p3) h0) fun v10 h11 =>
  some ((-1), h11)
set_option maxRecDepth 100000 in
set_option maxHeartbeats 4000000 in
theorem FX9_pushFixed_ok {G : xG} {l : Launch} {p0 : Option Nat} {p1 : Option Nat} {p2 : Int32} {p3 : Int32} {h0 h1 : Hp} {r : Int32} (hF : FX9_pushFixed p0 p1 p2 p3 h0 = some (r, h1)) : xc G l mX9_pushFixed 3 0 0 [va_rf p0, va_rf p1, .int p2, .int p3] h0 (xP mkI r h1) := by
  refine xo_I [.inr (.inr _), .inr (.inr _), .inl _, .inl _] (by decide) (Nat.le_of_ble_eq_true rfl) rfl ?_
  show xv _ _ _ _ _ _ _ [(0, false, va_rf p0), (1, false, va_rf p1), (2, false, .int p2), (3, false, .int p3)] _ _ _
  unfold FX9_pushFixed at hF
  refine xe_iload_n dX9_pushFixed_0 rfl rfl ?_
  refine xs_case (j := 1) (tgt := 32) dX9_pushFixed_1 (by decide) (by decide) rfl (by decide) (fun c1 => ?_) (fun c1 => ?_)
  · replace hF := if_p c1 hF
    exact xv.lv (BX9_pushFixed_32_ok hF) (xsub_cons rfl (xsub_cons rfl (xsub_cons rfl (xsub_cons rfl xsub_nil))))
  replace hF := if_n c1 hF
  refine xs_case (j := 3) (tgt := 32) dX9_pushFixed_1 (by decide) (by decide) rfl (by decide) (fun c2 => ?_) (fun c2 => ?_)
  · replace hF := if_p c2 hF
    exact xv.lv (BX9_pushFixed_32_ok hF) (xsub_cons rfl (xsub_cons rfl (xsub_cons rfl (xsub_cons rfl xsub_nil))))
  replace hF := if_n c2 hF
  refine xs_case (j := 4) (tgt := 48) dX9_pushFixed_1 (by decide) (by decide) rfl (by decide) (fun c3 => ?_) (fun c3 => ?_)
  · replace hF := if_p c3 hF
    refine xe_aload_n dX9_pushFixed_48 rfl rfl ?_
    refine xe_ldc2 (v := (-1)) dX9_pushFixed_49 tw_730 ?_
    obtain ⟨a9, e7, t8, hF⟩ := rcv_inv hF
    obtain ⟨v4, h5, o6, hF⟩ := cl_inv hF
    refine xz (xq_callV (As := [.long _]) (rest := []) dX9_pushFixed_52 mk_X10_push ⟨tw_759, tw_640, tw_641⟩ (ci := 9) rfl e7 t8 (FX10_push_ok o6) xP_q (by decide) (by decide) rfl rfl ?_)
    refine xe_goto (tgt := 64) dX9_pushFixed_55 (by decide) ?_
    refine xe_iconst (v := (-1)) dX9_pushFixed_64 (by decide) ?_
    exact xe_ireturn dX9_pushFixed_65 (xP_ret (mk := mkI) hF)
  replace hF := if_n c3 hF
  refine xs_rest (tgt := 58) [1, 3, 4] dX9_pushFixed_1 (by decide) (List.forall_mem_cons.mpr ⟨c1, List.forall_mem_cons.mpr ⟨c2, List.forall_mem_cons.mpr ⟨c3, fun _ h => by cases h⟩⟩⟩) (by decide) ?_
  refine xe_aload_n dX9_pushFixed_58 rfl rfl ?_
  refine xe_iload_n dX9_pushFixed_59 rfl rfl ?_
  refine xe_i2l dX9_pushFixed_60 ?_
  obtain ⟨a15, e13, t14, hF⟩ := rcv_inv hF
  obtain ⟨v10, h11, o12, hF⟩ := cl_inv hF
  refine xz (xq_callV (As := [.long _]) (rest := []) dX9_pushFixed_61 mk_X10_push ⟨tw_759, tw_640, tw_641⟩ (ci := 9) rfl e13 t14 (FX10_push_ok o12) xP_q (by decide) (by decide) rfl rfl ?_)
  refine xe_iconst (v := (-1)) dX9_pushFixed_64 (by decide) ?_
  exact xe_ireturn dX9_pushFixed_65 (xP_ret (mk := mkI) hF)
/-! SeldomOps$Walker.useLocal(LSeldomOps$Call;III)I -/
def FX9_useLocal (p0 : Option Nat) (p1 : Option Nat) (p2 : Int32) (p3 : Int32) (p4 : Int32) (h0 : Hp) : Option (Int32 × Hp) :=
  if (p2 : Int32) = 5 then
    gR h0 p1 0 4 fun v2 =>
    rcv h0 p1 0 <|
    cl (FX0_readLocal p1 p3 h0) fun v6 h7 =>
    rcv h7 v2 9 <|
    cl (FX10_pushBits v2 p4 v6 h7) fun v12 h13 =>
    some ((-1), h13)
  else
    if (p2 : Int32) = 6 then
      gR h0 p1 0 4 fun v19 =>
      rcv h0 v19 9 <|
      cl (FX10_popBits v19 p4 h0) fun v23 h24 =>
      rcv h24 p1 0 <|
      cl (FX0_writeLocal p1 p3 v23 h24) fun v29 h30 =>
      some ((-1), h30)
    else
      rcv h0 p1 0 <|
      cl (FX0_readLocal p1 p3 h0) fun v35 h36 =>
      rcv h36 p1 0 <|
      cl (FX0_writeLocal p1 p3 (Int32.toInt64 ((Int64.toInt32 v35) + p4)) h36) fun v41 h42 =>
      some ((-1), h42)
set_option maxRecDepth 100000 in
set_option maxHeartbeats 4000000 in
theorem FX9_useLocal_ok {G : xG} {l : Launch} {p0 : Option Nat} {p1 : Option Nat} {p2 : Int32} {p3 : Int32} {p4 : Int32} {h0 h1 : Hp} {r : Int32} (hF : FX9_useLocal p0 p1 p2 p3 p4 h0 = some (r, h1)) : xc G l mX9_useLocal 3 0 0 [va_rf p0, va_rf p1, .int p2, .int p3, .int p4] h0 (xP mkI r h1) := by
  refine xo_I [.inr (.inr _), .inr (.inr _), .inl _, .inl _, .inl _] (by decide) (Nat.le_of_ble_eq_true rfl) rfl ?_
  show xv _ _ _ _ _ _ _ [(0, false, va_rf p0), (1, false, va_rf p1), (2, false, .int p2), (3, false, .int p3), (4, false, .int p4)] _ _ _
  unfold FX9_useLocal at hF
  refine xe_iload_n dX9_useLocal_0 rfl rfl ?_
  refine xe_iconst (v := 5) dX9_useLocal_1 (by decide) ?_
  refine xe_icmp_ne (tgt := 22) dX9_useLocal_2 (by decide) (fun c1 => ?_) (fun c1 => ?_)
  · replace hF := if_p c1 hF
    refine xe_aload_n dX9_useLocal_5 rfl rfl ?_
    obtain ⟨a3, e4, t5, hF⟩ := gR_inv hF
    refine xq_getR dX9_useLocal_6 fl_Walker_126 xk_0 e4 t5 rfl ?_
    refine xe_iload dX9_useLocal_9 rfl ?_
    refine xe_aload_n dX9_useLocal_11 rfl rfl ?_
    refine xe_iload_n dX9_useLocal_12 rfl rfl ?_
    obtain ⟨a11, e9, t10, hF⟩ := rcv_inv hF
    obtain ⟨v6, h7, o8, hF⟩ := cl_inv hF
    refine xz (xq_callV (As := [.int _]) (rest := [.int _, va_rf _]) dX9_useLocal_13 mk_X0_readLocal ⟨tw_764, tw_765, tw_766⟩ (ci := 0) rfl e9 t10 (FX0_readLocal_ok o8) xP_q (by decide) (Nat.le_trans (cs_i (cs_r cs_0)) (by decide)) rfl rfl ?_)
    obtain ⟨a17, e15, t16, hF⟩ := rcv_inv hF
    obtain ⟨v12, h13, o14, hF⟩ := cl_inv hF
    refine xz (xq_callV (As := [.int _, .long _]) (rest := []) dX9_useLocal_16 mk_X10_pushBits ⟨tw_754, tw_755, tw_756⟩ (ci := 9) rfl e15 t16 (FX10_pushBits_ok o14) xP_q (by decide) (by decide) rfl rfl ?_)
    refine xe_goto (tgt := 60) dX9_useLocal_19 (by decide) ?_
    refine xe_iconst (v := (-1)) dX9_useLocal_60 (by decide) ?_
    exact xe_ireturn dX9_useLocal_61 (xP_ret (mk := mkI) hF)
  · replace hF := if_n c1 hF
    refine xe_iload_n dX9_useLocal_22 rfl rfl ?_
    refine xe_bipush (v := 6) dX9_useLocal_23 (by decide) ?_
    refine xe_icmp_ne (tgt := 45) dX9_useLocal_25 (by decide) (fun c18 => ?_) (fun c18 => ?_)
    · replace hF := if_p c18 hF
      refine xe_aload_n dX9_useLocal_28 rfl rfl ?_
      refine xe_iload_n dX9_useLocal_29 rfl rfl ?_
      refine xe_aload_n dX9_useLocal_30 rfl rfl ?_
      obtain ⟨a20, e21, t22, hF⟩ := gR_inv hF
      refine xq_getR dX9_useLocal_31 fl_Walker_126 xk_0 e21 t22 rfl ?_
      refine xe_iload dX9_useLocal_34 rfl ?_
      obtain ⟨a28, e26, t27, hF⟩ := rcv_inv hF
      obtain ⟨v23, h24, o25, hF⟩ := cl_inv hF
      refine xz (xq_callV (As := [.int _]) (rest := [.int _, va_rf _]) dX9_useLocal_36 mk_X10_popBits ⟨tw_768, tw_769, tw_770⟩ (ci := 9) rfl e26 t27 (FX10_popBits_ok o25) xP_q (by decide) (Nat.le_trans (cs_i (cs_r cs_0)) (by decide)) rfl rfl ?_)
      obtain ⟨a34, e32, t33, hF⟩ := rcv_inv hF
      obtain ⟨v29, h30, o31, hF⟩ := cl_inv hF
      refine xz (xq_callV (As := [.int _, .long _]) (rest := []) dX9_useLocal_39 mk_X0_writeLocal ⟨tw_732, tw_733, tw_734⟩ (ci := 0) rfl e32 t33 (FX0_writeLocal_ok o31) xP_q (by decide) (by decide) rfl rfl ?_)
      refine xe_goto (tgt := 60) dX9_useLocal_42 (by decide) ?_
      refine xe_iconst (v := (-1)) dX9_useLocal_60 (by decide) ?_
      exact xe_ireturn dX9_useLocal_61 (xP_ret (mk := mkI) hF)
    · replace hF := if_n c18 hF
      refine xe_aload_n dX9_useLocal_45 rfl rfl ?_
      refine xe_iload_n dX9_useLocal_46 rfl rfl ?_
      refine xe_aload_n dX9_useLocal_47 rfl rfl ?_
      refine xe_iload_n dX9_useLocal_48 rfl rfl ?_
      obtain ⟨a40, e38, t39, hF⟩ := rcv_inv hF
      obtain ⟨v35, h36, o37, hF⟩ := cl_inv hF
      refine xz (xq_callV (As := [.int _]) (rest := [.int _, va_rf _]) dX9_useLocal_49 mk_X0_readLocal ⟨tw_764, tw_765, tw_766⟩ (ci := 0) rfl e38 t39 (FX0_readLocal_ok o37) xP_q (by decide) (Nat.le_trans (cs_i (cs_r cs_0)) (by decide)) rfl rfl ?_)
      refine xe_l2i dX9_useLocal_52 ?_
      refine xe_iload dX9_useLocal_53 rfl ?_
      refine xe_iadd dX9_useLocal_55 ?_
      refine xe_i2l dX9_useLocal_56 ?_
      obtain ⟨a46, e44, t45, hF⟩ := rcv_inv hF
      obtain ⟨v41, h42, o43, hF⟩ := cl_inv hF
      refine xz (xq_callV (As := [.int _, .long _]) (rest := []) dX9_useLocal_57 mk_X0_writeLocal ⟨tw_732, tw_733, tw_734⟩ (ci := 0) rfl e44 t45 (FX0_writeLocal_ok o43) xP_q (by decide) (by decide) rfl rfl ?_)
      refine xe_iconst (v := (-1)) dX9_useLocal_60 (by decide) ?_
      exact xe_ireturn dX9_useLocal_61 (xP_ret (mk := mkI) hF)
/-! SeldomOps$Walker.putCell(LSeldomOps$Words;I)I -/
def BX9_putCell_89 (s0 : Option Nat) (s1 : Int32) (s2 : Int32) (s3 : Int64) (h0 : Hp) : Option (Int32 × Hp) :=
  rcv h0 s0 7 <|
  cl (FX8_write s0 s1 s2 s3 h0) fun v1 h2 =>
  some ((-1), h2)
set_option maxRecDepth 100000 in
set_option maxHeartbeats 4000000 in
theorem BX9_putCell_89_ok {G : xG} {l : Launch} {s0 : Option Nat} {s1 : Int32} {s2 : Int32} {s3 : Int64} {h0 h1 : Hp} {r : Int32} (hF : BX9_putCell_89 s0 s1 s2 s3 h0 = some (r, h1)) : xv G l mX9_putCell 4 0 0 89 [] [.long s3, .int s2, .int s1, va_rf s0] h0 (xP mkI r h1) := by
  unfold BX9_putCell_89 at hF
  obtain ⟨a6, e4, t5, hF⟩ := rcv_inv hF
  obtain ⟨v1, h2, o3, hF⟩ := cl_inv hF
  refine xz (xq_callV (As := [.int _, .int _, .long _]) (rest := []) dX9_putCell_89 mk_X8_write ⟨tw_886, tw_848, tw_849⟩ (ci := 7) rfl e4 t5 (FX8_write_ok o3) xP_q (by decide) (by decide) rfl rfl ?_)
  refine xe_iconst (v := (-1)) dX9_putCell_92 (by decide) ?_
  exact xe_ireturn dX9_putCell_93 (xP_ret (mk := mkI) hF)
def BX9_putCell_65 (x0 : Option Nat) (x2 : Int32) (x3 : Int64) (x5 : Int32) (x6 : Int32) (h0 : Hp) : Option (Int32 × Hp) :=
  gR h0 x0 8 1 fun v1 =>
  if (x2 : Int32) < 5 then
    BX9_putCell_89 v1 x6 x5 x3 h0
  else
    cl (FX3_narrow x2 (Int64.toInt32 x3) h0) fun v6 h7 =>
    BX9_putCell_89 v1 x6 x5 (Int32.toInt64 v6) h7
set_option maxRecDepth 100000 in
set_option maxHeartbeats 4000000 in
theorem BX9_putCell_65_ok {G : xG} {l : Launch} {x0 : Option Nat} {x2 : Int32} {x3 : Int64} {x5 : Int32} {x6 : Int32} {h0 h1 : Hp} {r : Int32} (hF : BX9_putCell_65 x0 x2 x3 x5 x6 h0 = some (r, h1)) : xv G l mX9_putCell 4 0 0 65 [(0, false, va_rf x0), (2, false, .int x2), (3, true, .long x3), (5, false, .int x5), (6, false, .int x6)] [] h0 (xP mkI r h1) := by
  unfold BX9_putCell_65 at hF
  refine xe_aload_n dX9_putCell_65 rfl rfl ?_
  obtain ⟨a2, e3, t4, hF⟩ := gR_inv hF
  refine xq_getR dX9_putCell_66 fl_Walker_12 xk_8 e3 t4 rfl ?_
  refine xe_iload dX9_putCell_69 rfl ?_
  refine xe_iload dX9_putCell_71 rfl ?_
  refine xe_iload_n dX9_putCell_73 rfl rfl ?_
  refine xe_iconst (v := 5) dX9_putCell_74 (by decide) ?_
  refine xe_icmp_lt (tgt := 88) dX9_putCell_75 (by decide) (fun c5 => ?_) (fun c5 => ?_)
  · replace hF := if_p c5 hF
    refine xe_lload_n dX9_putCell_88 rfl rfl ?_
    exact xv.lv (BX9_putCell_89_ok hF) xsub_nil
  · replace hF := if_n c5 hF
    refine xe_iload_n dX9_putCell_78 rfl rfl ?_
    refine xe_lload_n dX9_putCell_79 rfl rfl ?_
    refine xe_l2i dX9_putCell_80 ?_
    obtain ⟨v6, h7, o8, hF⟩ := cl_inv hF
    refine xz (xq_callS (As := [.int _, .int _]) (rest := [.int _, .int _, va_rf _]) dX9_putCell_81 mk_X3_narrow ⟨tw_885, tw_791⟩ (FX3_narrow_ok o8) xP_q (by decide) (Nat.le_trans (cs_i (cs_i (cs_r cs_0))) (by decide)) rfl rfl ?_)
    refine xe_i2l dX9_putCell_84 ?_
    refine xe_goto (tgt := 89) dX9_putCell_85 (by decide) ?_
    exact xv.lv (BX9_putCell_89_ok hF) xsub_nil
def FX9_putCell (p0 : Option Nat) (p1 : Option Nat) (p2 : Int32) (h0 : Hp) : Option (Int32 × Hp) :=
  cl (FX11_kindOfCell p2 h0) fun v1 h2 =>
  rcv h2 p1 9 <|
  cl (FX10_popBits p1 v1 h2) fun v4 h5 =>
  rcv h5 p1 9 <|
  cl (FX10_popInt p1 h5) fun v10 h11 =>
  rcv h11 p1 9 <|
  cl (FX10_popInt p1 h11) fun v16 h17 =>
  gR h17 p0 8 1 fun v22 =>
  rcv h17 v22 7 <|
  cl (FX8_refuseCell v22 v16 v10 p2 h17) fun v26 h27 =>
  if (v26 : Int32) = (-1) then
    if (p2 : Int32) = 4 then
      gR h27 p0 8 1 fun v34 =>
      rcv h27 v34 7 <|
      cl (FX8_mayStore v34 v16 (Int64.toInt32 v4) h27) fun v38 h39 =>
      if (v38 : Int32) = 0 then
        some (3, h39)
      else
        BX9_putCell_65 p0 p2 v4 v10 v16 h39
    else
      BX9_putCell_65 p0 p2 v4 v10 v16 h27
  else
    some (v26, h27)
set_option maxRecDepth 100000 in
set_option maxHeartbeats 4000000 in
theorem FX9_putCell_ok {G : xG} {l : Launch} {p0 : Option Nat} {p1 : Option Nat} {p2 : Int32} {h0 h1 : Hp} {r : Int32} (hF : FX9_putCell p0 p1 p2 h0 = some (r, h1)) : xc G l mX9_putCell 4 0 0 [va_rf p0, va_rf p1, .int p2] h0 (xP mkI r h1) := by
  refine xo_I [.inr (.inr _), .inr (.inr _), .inl _] (by decide) (Nat.le_of_ble_eq_true rfl) rfl ?_
  show xv _ _ _ _ _ _ _ [(0, false, va_rf p0), (1, false, va_rf p1), (2, false, .int p2)] _ _ _
  unfold FX9_putCell at hF
  refine xe_aload_n dX9_putCell_0 rfl rfl ?_
  refine xe_iload_n dX9_putCell_1 rfl rfl ?_
  obtain ⟨v1, h2, o3, hF⟩ := cl_inv hF
  refine xz (xq_callSN (As := [.int _]) (rest := [va_rf _]) dX9_putCell_2 mk_X11_kindOfCell ⟨tn_868, tw_607⟩ (FX11_kindOfCell_ok o3) xP_q (by decide) (Nat.le_trans (cs_r cs_0) (by decide)) rfl rfl ?_)
  obtain ⟨a9, e7, t8, hF⟩ := rcv_inv hF
  obtain ⟨v4, h5, o6, hF⟩ := cl_inv hF
  refine xz (xq_callV (As := [.int _]) (rest := []) dX9_putCell_5 mk_X10_popBits ⟨tw_768, tw_769, tw_770⟩ (ci := 9) rfl e7 t8 (FX10_popBits_ok o6) xP_q (by decide) (by decide) rfl rfl ?_)
  refine xe_lstore_n dX9_putCell_8 rfl (by decide) ?_
  refine xe_aload_n dX9_putCell_9 rfl rfl ?_
  obtain ⟨a15, e13, t14, hF⟩ := rcv_inv hF
  obtain ⟨v10, h11, o12, hF⟩ := cl_inv hF
  refine xz (xq_callV (As := []) (rest := []) dX9_putCell_10 mk_X10_popInt ⟨tw_808, tw_809, tw_810⟩ (ci := 9) rfl e13 t14 (FX10_popInt_ok o12) xP_q (by decide) (by decide) rfl rfl ?_)
  refine xe_istore dX9_putCell_13 (by decide) ?_
  refine xe_aload_n dX9_putCell_15 rfl rfl ?_
  obtain ⟨a21, e19, t20, hF⟩ := rcv_inv hF
  obtain ⟨v16, h17, o18, hF⟩ := cl_inv hF
  refine xz (xq_callV (As := []) (rest := []) dX9_putCell_16 mk_X10_popInt ⟨tw_808, tw_809, tw_810⟩ (ci := 9) rfl e19 t20 (FX10_popInt_ok o18) xP_q (by decide) (by decide) rfl rfl ?_)
  refine xe_istore dX9_putCell_19 (by decide) ?_
  refine xe_aload_n dX9_putCell_21 rfl rfl ?_
  obtain ⟨a23, e24, t25, hF⟩ := gR_inv hF
  refine xq_getR dX9_putCell_22 fl_Walker_12 xk_8 e24 t25 rfl ?_
  refine xe_iload dX9_putCell_25 rfl ?_
  refine xe_iload dX9_putCell_27 rfl ?_
  refine xe_iload_n dX9_putCell_29 rfl rfl ?_
  obtain ⟨a31, e29, t30, hF⟩ := rcv_inv hF
  obtain ⟨v26, h27, o28, hF⟩ := cl_inv hF
  refine xz (xq_callV (As := [.int _, .int _, .int _]) (rest := []) dX9_putCell_30 mk_X8_refuseCell ⟨tw_859, tw_860, tw_861⟩ (ci := 7) rfl e29 t30 (FX8_refuseCell_ok o28) xP_q (by decide) (by decide) rfl rfl ?_)
  refine xe_istore dX9_putCell_33 (by decide) ?_
  refine xe_iload dX9_putCell_35 rfl ?_
  refine xe_iconst (v := (-1)) dX9_putCell_37 (by decide) ?_
  refine xe_icmp_eq (tgt := 44) dX9_putCell_38 (by decide) (fun c32 => ?_) (fun c32 => ?_)
  · replace hF := if_p c32 hF
    refine xe_iload_n dX9_putCell_44 rfl rfl ?_
    refine xe_iconst (v := 4) dX9_putCell_45 (by decide) ?_
    refine xe_icmp_ne (tgt := 65) dX9_putCell_46 (by decide) (fun c33 => ?_) (fun c33 => ?_)
    · replace hF := if_p c33 hF
      refine xe_aload_n dX9_putCell_49 rfl rfl ?_
      obtain ⟨a35, e36, t37, hF⟩ := gR_inv hF
      refine xq_getR dX9_putCell_50 fl_Walker_12 xk_8 e36 t37 rfl ?_
      refine xe_iload dX9_putCell_53 rfl ?_
      refine xe_lload_n dX9_putCell_55 rfl rfl ?_
      refine xe_l2i dX9_putCell_56 ?_
      obtain ⟨a43, e41, t42, hF⟩ := rcv_inv hF
      obtain ⟨v38, h39, o40, hF⟩ := cl_inv hF
      refine xz (xq_callV (As := [.int _, .int _]) (rest := []) dX9_putCell_57 mk_X8_mayStore ⟨tw_877, tw_878, tw_879⟩ (ci := 7) rfl e41 t42 (FX8_mayStore_ok o40) xPZ_q (by decide) (by decide) rfl rfl ?_)
      refine xe_if_ne (tgt := 65) dX9_putCell_60 (by decide) (fun c44 => ?_) (fun c44 => ?_)
      · replace hF := if_p c44 hF
        refine xe_iconst (v := 3) dX9_putCell_63 (by decide) ?_
        exact xe_ireturn dX9_putCell_64 (xP_ret (mk := mkI) hF)
      · replace hF := if_n c44 hF
        exact xv.lv (BX9_putCell_65_ok hF) (xsub_cons rfl (xsub_cons rfl (xsub_cons rfl (xsub_cons rfl (xsub_cons rfl xsub_nil)))))
    · replace hF := if_n c33 hF
      exact xv.lv (BX9_putCell_65_ok hF) (xsub_cons rfl (xsub_cons rfl (xsub_cons rfl (xsub_cons rfl (xsub_cons rfl xsub_nil)))))
  · replace hF := if_n c32 hF
    refine xe_iload dX9_putCell_41 rfl ?_
    exact xe_ireturn dX9_putCell_43 (xP_ret (mk := mkI) hF)
