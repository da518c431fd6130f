/-! SeldomOpsModel.entry(III)I -/
def BX12_entry_101 (x0 : Option Nat) (x1 : Int32) (x2 : Int32) (x3 : Int32) (x4 : Int32) (s0 : Int32) (h0 : Hp) : Option (Int32 × Hp) :=
  if (s0 : Int32) = 0 then
    some ((-3), h0)
  else
    if (x4 : Int32) = 8 then
      some ((-4), h0)
    else
      rcv h0 x0 11 <|
      cl (FX12_change x0 h0) fun v3 h4 =>
      gR h4 x0 11 22 fun v9 =>
      sI h4 v9 ((8 * x1) + x4) x2 fun h13 =>
      gR h13 x0 11 23 fun v20 =>
      sI h13 v20 ((8 * x1) + x4) x3 fun h24 =>
      gR h24 x0 11 21 fun v31 =>
      aI h24 v31 .int x1 fun v35 =>
      sI h24 v31 x1 (v35 + 1) fun h41 =>
      gR h41 x0 11 21 fun v48 =>
      aI h41 v48 .int x1 fun v52 =>
      some (v52, h41)
set_option maxRecDepth 100000 in
set_option maxHeartbeats 4000000 in
theorem BX12_entry_101_ok {G : xG} {l : Launch} {x0 : Option Nat} {x1 : Int32} {x2 : Int32} {x3 : Int32} {x4 : Int32} {s0 : Int32} {h0 h1 : Hp} {r : Int32} (hF : BX12_entry_101 x0 x1 x2 x3 x4 s0 h0 = some (r, h1)) : xv G l mX12_entry 2 0 0 101 [(0, false, va_rf x0), (1, false, .int x1), (2, false, .int x2), (3, false, .int x3), (4, false, .int x4)] [.int s0] h0 (xP mkI r h1) := by
  unfold BX12_entry_101 at hF
  refine xe_istore dX12_entry_101 (by decide) ?_
  refine xe_iload dX12_entry_103 rfl ?_
  refine xe_if_ne (tgt := 111) dX12_entry_105 (by decide) (fun c1 => ?_) (fun c1 => ?_)
  · replace hF := if_p c1 hF
    refine xe_bipush (v := (-3)) dX12_entry_108 (by decide) ?_
    exact xe_ireturn dX12_entry_110 (xP_ret (mk := mkI) hF)
  · replace hF := if_n c1 hF
    refine xe_iload dX12_entry_111 rfl ?_
    refine xe_bipush (v := 8) dX12_entry_113 (by decide) ?_
    refine xe_icmp_ne (tgt := 121) dX12_entry_115 (by decide) (fun c2 => ?_) (fun c2 => ?_)
    · replace hF := if_p c2 hF
      refine xe_bipush (v := (-4)) dX12_entry_118 (by decide) ?_
      exact xe_ireturn dX12_entry_120 (xP_ret (mk := mkI) hF)
    · replace hF := if_n c2 hF
      refine xe_aload_n dX12_entry_121 rfl rfl ?_
      obtain ⟨a8, e6, t7, hF⟩ := rcv_inv hF
      obtain ⟨v3, h4, o5, hF⟩ := cl_inv hF
      refine xz (xq_callV (As := []) (rest := []) dX12_entry_122 mk_X12_change ⟨tw_1177, tw_1179, ts_37⟩ (ci := 11) rfl e6 t7 (FX12_change_ok o5) xP_q (by decide) (by decide) rfl rfl ?_)
      refine xe_aload_n dX12_entry_125 rfl rfl ?_
      obtain ⟨a10, e11, t12, hF⟩ := gR_inv hF
      refine xq_getR dX12_entry_126 fl_SeldomOpsModel_69 xk_11 e11 t12 rfl ?_
      refine xe_bipush (v := 8) dX12_entry_129 (by decide) ?_
      refine xe_iload_n dX12_entry_131 rfl rfl ?_
      refine xe_imul dX12_entry_132 ?_
      refine xe_iload dX12_entry_133 rfl ?_
      refine xe_iadd dX12_entry_135 ?_
      refine xe_iload_n dX12_entry_136 rfl rfl ?_
      obtain ⟨a14, n15, e16, t17, b18, hF⟩ := sI_inv hF
      refine xq_iast dX12_entry_137 e16 t17 b18 ?_
      refine xe_aload_n dX12_entry_138 rfl rfl ?_
      obtain ⟨a21, e22, t23, hF⟩ := gR_inv hF
      refine xq_getR dX12_entry_139 fl_SeldomOpsModel_72 xk_11 e22 t23 rfl ?_
      refine xe_bipush (v := 8) dX12_entry_142 (by decide) ?_
      refine xe_iload_n dX12_entry_144 rfl rfl ?_
      refine xe_imul dX12_entry_145 ?_
      refine xe_iload dX12_entry_146 rfl ?_
      refine xe_iadd dX12_entry_148 ?_
      refine xe_iload_n dX12_entry_149 rfl rfl ?_
      obtain ⟨a25, n26, e27, t28, b29, hF⟩ := sI_inv hF
      refine xq_iast dX12_entry_150 e27 t28 b29 ?_
      refine xe_aload_n dX12_entry_151 rfl rfl ?_
      obtain ⟨a32, e33, t34, hF⟩ := gR_inv hF
      refine xq_getR dX12_entry_152 fl_SeldomOpsModel_66 xk_11 e33 t34 rfl ?_
      refine xe_iload_n dX12_entry_155 rfl rfl ?_
      refine xe_dup2 dX12_entry_156 rfl (va_rf_cat _) ?_
      obtain ⟨a36, n37, e38, t39, b40, hF⟩ := aI_inv hF
      refine xq_iald dX12_entry_157 e38 t39 b40 ?_
      refine xe_iconst (v := 1) dX12_entry_158 (by decide) ?_
      refine xe_iadd dX12_entry_159 ?_
      obtain ⟨a42, n43, e44, t45, b46, hF⟩ := sI_inv hF
      refine xq_iast dX12_entry_160 e44 t45 b46 ?_
      refine xe_aload_n dX12_entry_161 rfl rfl ?_
      obtain ⟨a49, e50, t51, hF⟩ := gR_inv hF
      refine xq_getR dX12_entry_162 fl_SeldomOpsModel_66 xk_11 e50 t51 rfl ?_
      refine xe_iload_n dX12_entry_165 rfl rfl ?_
      obtain ⟨a53, n54, e55, t56, b57, hF⟩ := aI_inv hF
      refine xq_iald dX12_entry_166 e55 t56 b57 ?_
      exact xe_ireturn dX12_entry_167 (xP_ret (mk := mkI) hF)
def BX12_entry_71 (x0 : Option Nat) (x1 : Int32) (x2 : Int32) (x3 : Int32) (x4 : Int32) (h0 : Hp) : Option (Int32 × Hp) :=
  BX12_entry_101 x0 x1 x2 x3 x4 1 h0
set_option maxRecDepth 100000 in
set_option maxHeartbeats 4000000 in
theorem BX12_entry_71_ok {G : xG} {l : Launch} {x0 : Option Nat} {x1 : Int32} {x2 : Int32} {x3 : Int32} {x4 : Int32} {h0 h1 : Hp} {r : Int32} (hF : BX12_entry_71 x0 x1 x2 x3 x4 h0 = some (r, h1)) : xv G l mX12_entry 2 0 0 71 [(0, false, va_rf x0), (1, false, .int x1), (2, false, .int x2), (3, false, .int x3), (4, false, .int x4)] [] h0 (xP mkI r h1) := by
  unfold BX12_entry_71 at hF
  refine xe_iconst (v := 1) dX12_entry_71 (by decide) ?_
  refine xe_goto (tgt := 101) dX12_entry_72 (by decide) ?_
  exact xv.lv (BX12_entry_101_ok hF) (xsub_cons rfl (xsub_cons rfl (xsub_cons rfl (xsub_cons rfl (xsub_cons rfl xsub_nil)))))
def FX12_entry (p0 : Option Nat) (p1 : Int32) (p2 : Int32) (p3 : Int32) (h0 : Hp) : Option (Int32 × Hp) :=
  gI h0 p0 11 17 fun v1 =>
  cl (FX12_in (Int32.toInt64 p1) 0 (Int32.toInt64 (v1 - 1)) h0) fun v5 h6 =>
  if (v5 : Int32) = 0 then
    some ((-2), h6)
  else
    cl (FX12_in (Int32.toInt64 p3) 0 59 h6) fun v9 h10 =>
    if (v9 : Int32) = 0 then
      some ((-2), h10)
    else
      gR h10 p0 11 21 fun v13 =>
      aI h10 v13 .int p1 fun v17 =>
      gR h10 p0 11 18 fun v23 =>
      aI h10 v23 .boolean p1 fun v27 =>
      if (v27 : Int32) = 0 then
        gR h10 p0 11 19 fun v34 =>
        aI h10 v34 .int p1 fun v38 =>
        if (((Int32.toInt64 v38) + (Int32.toInt64 v17)) : Int64) = (Int32.toInt64 p2) then
          BX12_entry_101 p0 p1 p2 p3 v17 1 h10
        else
          BX12_entry_101 p0 p1 p2 p3 v17 0 h10
      else
        if (v17 : Int32) = 0 then
          BX12_entry_71 p0 p1 p2 p3 v17 h10
        else
          gR h10 p0 11 22 fun v46 =>
          aI h10 v46 .int (((8 * p1) + v17) - 1) fun v50 =>
          if (v50 : Int32) < p2 then
            BX12_entry_71 p0 p1 p2 p3 v17 h10
          else
            BX12_entry_101 p0 p1 p2 p3 v17 0 h10
set_option maxRecDepth 100000 in
set_option maxHeartbeats 4000000 in
theorem FX12_entry_ok {G : xG} {l : Launch} {p0 : Option Nat} {p1 : Int32} {p2 : Int32} {p3 : Int32} {h0 h1 : Hp} {r : Int32} (hF : FX12_entry p0 p1 p2 p3 h0 = some (r, h1)) : xc G l mX12_entry 2 0 0 [va_rf p0, .int p1, .int p2, .int p3] h0 (xP mkI r h1) := by
  refine xo_I [.inr (.inr _), .inl _, .inl _, .inl _] (by decide) (Nat.le_of_ble_eq_true rfl) rfl ?_
  show xv _ _ _ _ _ _ _ [(0, false, va_rf p0), (1, false, .int p1), (2, false, .int p2), (3, false, .int p3)] _ _ _
  unfold FX12_entry at hF
  refine xe_iload_n dX12_entry_0 rfl rfl ?_
  refine xe_i2l dX12_entry_1 ?_
  refine xe_lconst (v := 0) dX12_entry_2 (by decide) ?_
  refine xe_aload_n dX12_entry_3 rfl rfl ?_
  obtain ⟨a2, e3, t4, hF⟩ := gI_inv hF
  refine xq_getI dX12_entry_4 fl_SeldomOpsModel_187 xk_11 e3 t4 rfl ?_
  refine xe_iconst (v := 1) dX12_entry_7 (by decide) ?_
  refine xe_isub dX12_entry_8 ?_
  refine xe_i2l dX12_entry_9 ?_
  obtain ⟨v5, h6, o7, hF⟩ := cl_inv hF
  refine xz (xq_callS (As := [.long _, .long _, .long _]) (rest := []) dX12_entry_10 mk_X12_in ⟨tw_1174, tw_1175⟩ (FX12_in_ok o7) xPZ_q (by decide) (by decide) rfl rfl ?_)
  refine xe_if_eq (tgt := 28) dX12_entry_13 (by decide) (fun c8 => ?_) (fun c8 => ?_)
  · replace hF := if_p c8 hF
    refine xe_bipush (v := (-2)) dX12_entry_28 (by decide) ?_
    exact xe_ireturn dX12_entry_30 (xP_ret (mk := mkI) hF)
  · replace hF := if_n c8 hF
    refine xe_iload_n dX12_entry_16 rfl rfl ?_
    refine xe_i2l dX12_entry_17 ?_
    refine xe_lconst (v := 0) dX12_entry_18 (by decide) ?_
    refine xe_ldc2 (v := 59) dX12_entry_19 tw_1208 ?_
    obtain ⟨v9, h10, o11, hF⟩ := cl_inv hF
    refine xz (xq_callS (As := [.long _, .long _, .long _]) (rest := []) dX12_entry_22 mk_X12_in ⟨tw_1174, tw_1175⟩ (FX12_in_ok o11) xPZ_q (by decide) (by decide) rfl rfl ?_)
    refine xe_if_ne (tgt := 31) dX12_entry_25 (by decide) (fun c12 => ?_) (fun c12 => ?_)
    · replace hF := if_p c12 hF
      refine xe_bipush (v := (-2)) dX12_entry_28 (by decide) ?_
      exact xe_ireturn dX12_entry_30 (xP_ret (mk := mkI) hF)
    · replace hF := if_n c12 hF
      refine xe_aload_n dX12_entry_31 rfl rfl ?_
      obtain ⟨a14, e15, t16, hF⟩ := gR_inv hF
      refine xq_getR dX12_entry_32 fl_SeldomOpsModel_66 xk_11 e15 t16 rfl ?_
      refine xe_iload_n dX12_entry_35 rfl rfl ?_
      obtain ⟨a18, n19, e20, t21, b22, hF⟩ := aI_inv hF
      refine xq_iald dX12_entry_36 e20 t21 b22 ?_
      refine xe_istore dX12_entry_37 (by decide) ?_
      refine xe_aload_n dX12_entry_39 rfl rfl ?_
      obtain ⟨a24, e25, t26, hF⟩ := gR_inv hF
      refine xq_getR dX12_entry_40 fl_SeldomOpsModel_57 xk_11 e25 t26 rfl ?_
      refine xe_iload_n dX12_entry_43 rfl rfl ?_
      obtain ⟨a28, n29, e30, t31, b32, hF⟩ := aI_inv hF
      refine xq_zald dX12_entry_44 e30 t31 b32 ?_
      refine xe_if_eq (tgt := 79) dX12_entry_45 (by decide) (fun c33 => ?_) (fun c33 => ?_)
      · replace hF := if_p c33 hF
        refine xe_aload_n dX12_entry_79 rfl rfl ?_
        obtain ⟨a35, e36, t37, hF⟩ := gR_inv hF
        refine xq_getR dX12_entry_80 fl_SeldomOpsModel_60 xk_11 e36 t37 rfl ?_
        refine xe_iload_n dX12_entry_83 rfl rfl ?_
        obtain ⟨a39, n40, e41, t42, b43, hF⟩ := aI_inv hF
        refine xq_iald dX12_entry_84 e41 t42 b43 ?_
        refine xe_i2l dX12_entry_85 ?_
        refine xe_iload dX12_entry_86 rfl ?_
        refine xe_i2l dX12_entry_88 ?_
        refine xe_ladd dX12_entry_89 ?_
        refine xe_iload_n dX12_entry_90 rfl rfl ?_
        refine xe_i2l dX12_entry_91 ?_
        refine xe_lcmp dX12_entry_92 ?_
        refine xe_lif_ne (tgt := 100) dX12_entry_93 (by decide) (fun c44 => ?_) (fun c44 => ?_)
        · replace hF := if_p c44 hF
          refine xe_iconst (v := 1) dX12_entry_96 (by decide) ?_
          refine xe_goto (tgt := 101) dX12_entry_97 (by decide) ?_
          exact xv.lv (BX12_entry_101_ok hF) (xsub_cons rfl (xsub_cons rfl (xsub_cons rfl (xsub_cons rfl (xsub_cons rfl xsub_nil)))))
        · replace hF := if_n c44 hF
          refine xe_iconst (v := 0) dX12_entry_100 (by decide) ?_
          exact xv.lv (BX12_entry_101_ok hF) (xsub_cons rfl (xsub_cons rfl (xsub_cons rfl (xsub_cons rfl (xsub_cons rfl xsub_nil)))))
      · replace hF := if_n c33 hF
        refine xe_iload dX12_entry_48 rfl ?_
        refine xe_if_eq (tgt := 71) dX12_entry_50 (by decide) (fun c45 => ?_) (fun c45 => ?_)
        · replace hF := if_p c45 hF
          exact xv.lv (BX12_entry_71_ok hF) (xsub_cons rfl (xsub_cons rfl (xsub_cons rfl (xsub_cons rfl (xsub_cons rfl xsub_nil)))))
        · replace hF := if_n c45 hF
          refine xe_iload_n dX12_entry_53 rfl rfl ?_
          refine xe_aload_n dX12_entry_54 rfl rfl ?_
          obtain ⟨a47, e48, t49, hF⟩ := gR_inv hF
          refine xq_getR dX12_entry_55 fl_SeldomOpsModel_69 xk_11 e48 t49 rfl ?_
          refine xe_bipush (v := 8) dX12_entry_58 (by decide) ?_
          refine xe_iload_n dX12_entry_60 rfl rfl ?_
          refine xe_imul dX12_entry_61 ?_
          refine xe_iload dX12_entry_62 rfl ?_
          refine xe_iadd dX12_entry_64 ?_
          refine xe_iconst (v := 1) dX12_entry_65 (by decide) ?_
          refine xe_isub dX12_entry_66 ?_
          obtain ⟨a51, n52, e53, t54, b55, hF⟩ := aI_inv hF
          refine xq_iald dX12_entry_67 e53 t54 b55 ?_
          refine xe_icmp_le (tgt := 75) dX12_entry_68 (by decide) (fun c56 => ?_) (fun c56 => ?_)
          · replace hF := if_p c56 hF
            exact xv.lv (BX12_entry_71_ok hF) (xsub_cons rfl (xsub_cons rfl (xsub_cons rfl (xsub_cons rfl (xsub_cons rfl xsub_nil)))))
          · replace hF := if_n c56 hF
            refine xe_iconst (v := 0) dX12_entry_75 (by decide) ?_
            refine xe_goto (tgt := 101) dX12_entry_76 (by decide) ?_
            exact xv.lv (BX12_entry_101_ok hF) (xsub_cons rfl (xsub_cons rfl (xsub_cons rfl (xsub_cons rfl (xsub_cons rfl xsub_nil)))))
/-! SeldomOpsModel.fault(I)I -/
def FX12_fault (p0 : Option Nat) (p1 : Int32) (h0 : Hp) : Option (Int32 × Hp) :=
  if (p1 : Int32) = 0 then
    gI h0 p0 11 32 fun v2 =>
    some (v2, h0)
  else
    if (p1 : Int32) = 1 then
      gI h0 p0 11 33 fun v7 =>
      some (v7, h0)
    else
      some ((-2), h0)
set_option maxRecDepth 100000 in
set_option maxHeartbeats 4000000 in
theorem FX12_fault_ok {G : xG} {l : Launch} {p0 : Option Nat} {p1 : Int32} {h0 h1 : Hp} {r : Int32} (hF : FX12_fault p0 p1 h0 = some (r, h1)) : xc G l mX12_fault 1 0 0 [va_rf p0, .int p1] h0 (xP mkI r h1) := by
  refine xo_I [.inr (.inr _), .inl _] (by decide) (Nat.le_of_ble_eq_true rfl) rfl ?_
  show xv _ _ _ _ _ _ _ [(0, false, va_rf p0), (1, false, .int p1)] _ _ _
  unfold FX12_fault at hF
  refine xe_iload_n dX12_fault_0 rfl rfl ?_
  refine xe_if_ne (tgt := 11) dX12_fault_1 (by decide) (fun c1 => ?_) (fun c1 => ?_)
  · replace hF := if_p c1 hF
    refine xe_aload_n dX12_fault_4 rfl rfl ?_
    obtain ⟨a3, e4, t5, hF⟩ := gI_inv hF
    refine xq_getI dX12_fault_5 fl_SeldomOpsModel_96 xk_11 e4 t5 rfl ?_
    refine xe_goto (tgt := 25) dX12_fault_8 (by decide) ?_
    exact xe_ireturn dX12_fault_25 (xP_ret (mk := mkI) hF)
  · replace hF := if_n c1 hF
    refine xe_iload_n dX12_fault_11 rfl rfl ?_
    refine xe_iconst (v := 1) dX12_fault_12 (by decide) ?_
    refine xe_icmp_ne (tgt := 23) dX12_fault_13 (by decide) (fun c6 => ?_) (fun c6 => ?_)
    · replace hF := if_p c6 hF
      refine xe_aload_n dX12_fault_16 rfl rfl ?_
      obtain ⟨a8, e9, t10, hF⟩ := gI_inv hF
      refine xq_getI dX12_fault_17 fl_SeldomOpsModel_100 xk_11 e9 t10 rfl ?_
      refine xe_goto (tgt := 25) dX12_fault_20 (by decide) ?_
      exact xe_ireturn dX12_fault_25 (xP_ret (mk := mkI) hF)
    · replace hF := if_n c6 hF
      refine xe_bipush (v := (-2)) dX12_fault_23 (by decide) ?_
      exact xe_ireturn dX12_fault_25 (xP_ret (mk := mkI) hF)
/-! SeldomOpsModel.give(J)I -/
def FX12_give (p0 : Option Nat) (p1 : Int64) (h0 : Hp) : Option (Int32 × Hp) :=
  gI h0 p0 11 34 fun v1 =>
  if (v1 : Int32) = 8 then
    some ((-4), h0)
  else
    gR h0 p0 11 35 fun v6 =>
    gI h0 p0 11 34 fun v10 =>
    sL h0 v6 v10 p1 fun h14 =>
    gI h14 p0 11 34 fun v21 =>
    pI h14 p0 11 34 (v21 + 1) fun h28 =>
    gI h28 p0 11 34 fun v30 =>
    some (v30, h28)
set_option maxRecDepth 100000 in
set_option maxHeartbeats 4000000 in
theorem FX12_give_ok {G : xG} {l : Launch} {p0 : Option Nat} {p1 : Int64} {h0 h1 : Hp} {r : Int32} (hF : FX12_give p0 p1 h0 = some (r, h1)) : xc G l mX12_give 1 0 0 [va_rf p0, .long p1] h0 (xP mkI r h1) := by
  refine xo_I [.inr (.inr _), .inr (.inl _)] (by decide) (Nat.le_of_ble_eq_true rfl) rfl ?_
  show xv _ _ _ _ _ _ _ [(0, false, va_rf p0), (1, true, .long p1)] _ _ _
  unfold FX12_give at hF
  refine xe_aload_n dX12_give_0 rfl rfl ?_
  obtain ⟨a2, e3, t4, hF⟩ := gI_inv hF
  refine xq_getI dX12_give_1 fl_SeldomOpsModel_190 xk_11 e3 t4 rfl ?_
  refine xe_bipush (v := 8) dX12_give_4 (by decide) ?_
  refine xe_icmp_ne (tgt := 12) dX12_give_6 (by decide) (fun c5 => ?_) (fun c5 => ?_)
  · replace hF := if_p c5 hF
    refine xe_bipush (v := (-4)) dX12_give_9 (by decide) ?_
    exact xe_ireturn dX12_give_11 (xP_ret (mk := mkI) hF)
  · replace hF := if_n c5 hF
    refine xe_aload_n dX12_give_12 rfl rfl ?_
    obtain ⟨a7, e8, t9, hF⟩ := gR_inv hF
    refine xq_getR dX12_give_13 fl_SeldomOpsModel_103 xk_11 e8 t9 rfl ?_
    refine xe_aload_n dX12_give_16 rfl rfl ?_
    obtain ⟨a11, e12, t13, hF⟩ := gI_inv hF
    refine xq_getI dX12_give_17 fl_SeldomOpsModel_190 xk_11 e12 t13 rfl ?_
    refine xe_lload_n dX12_give_20 rfl rfl ?_
    obtain ⟨a15, n16, e17, t18, b19, hF⟩ := sL_inv hF
    refine xq_last dX12_give_21 e17 t18 b19 ?_
    refine xe_aload_n dX12_give_22 rfl rfl ?_
    refine xe_dup dX12_give_23 (va_rf_cat _) ?_
    obtain ⟨a22, e23, t24, hF⟩ := gI_inv hF
    refine xq_getI dX12_give_24 fl_SeldomOpsModel_190 xk_11 e23 t24 rfl ?_
    refine xe_iconst (v := 1) dX12_give_27 (by decide) ?_
    refine xe_iadd dX12_give_28 ?_
    obtain ⟨a25, e26, t27, hF⟩ := pI_inv hF
    refine xq_putI dX12_give_29 fl_SeldomOpsModel_190 xk_11 (by decide) (fun z => by cases z) e26 t27 (Or.inl rfl) ?_
    refine xe_aload_n dX12_give_32 rfl rfl ?_
    obtain ⟨a31, e32, t33, hF⟩ := gI_inv hF
    refine xq_getI dX12_give_33 fl_SeldomOpsModel_190 xk_11 e32 t33 rfl ?_
    exact xe_ireturn dX12_give_36 (xP_ret (mk := mkI) hF)
/-! SeldomOpsModel.good(I)I -/
def FX12_good (p0 : Option Nat) (p1 : Int32) (h0 : Hp) : Option (Int32 × Hp) :=
  rcv h0 p0 11 <|
  cl (FX12_isMethod p0 p1 h0) fun v1 h2 =>
  if (v1 : Int32) = 0 then
    some ((-2), h2)
  else
    gR h2 p0 11 14 fun v8 =>
    aI h2 v8 .boolean p1 fun v12 =>
    if (v12 : Int32) = 0 then
      some (0, h2)
    else
      some (1, h2)
set_option maxRecDepth 100000 in
set_option maxHeartbeats 4000000 in
theorem FX12_good_ok {G : xG} {l : Launch} {p0 : Option Nat} {p1 : Int32} {h0 h1 : Hp} {r : Int32} (hF : FX12_good p0 p1 h0 = some (r, h1)) : xc G l mX12_good 3 0 0 [va_rf p0, .int p1] h0 (xP mkI r h1) := by
  refine xo_I [.inr (.inr _), .inl _] (by decide) (Nat.le_of_ble_eq_true rfl) rfl ?_
  show xv _ _ _ _ _ _ _ [(0, false, va_rf p0), (1, false, .int p1)] _ _ _
  unfold FX12_good at hF
  refine xe_aload_n dX12_good_0 rfl rfl ?_
  refine xe_iload_n dX12_good_1 rfl rfl ?_
  obtain ⟨a6, e4, t5, hF⟩ := rcv_inv hF
  obtain ⟨v1, h2, o3, hF⟩ := cl_inv hF
  refine xz (xq_callV (As := [.int _]) (rest := []) dX12_good_2 mk_X12_isMethod ⟨tw_1185, tw_1187, ts_38⟩ (ci := 11) rfl e4 t5 (FX12_isMethod_ok o3) xPZ_q (by decide) (by decide) rfl rfl ?_)
  refine xe_if_eq (tgt := 25) dX12_good_5 (by decide) (fun c7 => ?_) (fun c7 => ?_)
  · replace hF := if_p c7 hF
    refine xe_bipush (v := (-2)) dX12_good_25 (by decide) ?_
    exact xe_ireturn dX12_good_27 (xP_ret (mk := mkI) hF)
  · replace hF := if_n c7 hF
    refine xe_aload_n dX12_good_8 rfl rfl ?_
    obtain ⟨a9, e10, t11, hF⟩ := gR_inv hF
    refine xq_getR dX12_good_9 fl_SeldomOpsModel_49 xk_11 e10 t11 rfl ?_
    refine xe_iload_n dX12_good_12 rfl rfl ?_
    obtain ⟨a13, n14, e15, t16, b17, hF⟩ := aI_inv hF
    refine xq_zald dX12_good_13 e15 t16 b17 ?_
    refine xe_if_eq (tgt := 21) dX12_good_14 (by decide) (fun c18 => ?_) (fun c18 => ?_)
    · replace hF := if_p c18 hF
      refine xe_iconst (v := 0) dX12_good_21 (by decide) ?_
      refine xe_goto (tgt := 27) dX12_good_22 (by decide) ?_
      exact xe_ireturn dX12_good_27 (xP_ret (mk := mkI) hF)
    · replace hF := if_n c18 hF
      refine xe_iconst (v := 1) dX12_good_17 (by decide) ?_
      refine xe_goto (tgt := 27) dX12_good_18 (by decide) ?_
      exact xe_ireturn dX12_good_27 (xP_ret (mk := mkI) hF)
/-! SeldomOpsModel.handler(IIIII)I -/
def FX12_handler (p0 : Option Nat) (p1 : Int32) (p2 : Int32) (p3 : Int32) (p4 : Int32) (p5 : Int32) (h0 : Hp) : Option (Int32 × Hp) :=
  rcv h0 p0 11 <|
  cl (FX12_isMethod p0 p1 h0) fun v1 h2 =>
  if (v1 : Int32) = 0 then
    some ((-2), h2)
  else
    cl (FX12_in (Int32.toInt64 p3) 0 60 h2) fun v8 h9 =>
    if (v8 : Int32) = 0 then
      some ((-2), h9)
    else
      cl (FX12_in (Int32.toInt64 p2) 0 (Int32.toInt64 p3) h9) fun v12 h13 =>
      if (v12 : Int32) = 0 then
        some ((-2), h13)
      else
        cl (FX12_in (Int32.toInt64 p4) 0 59 h13) fun v16 h17 =>
        if (v16 : Int32) = 0 then
          some ((-2), h17)
        else
          cl (FX12_in (Int32.toInt64 p5) (-1) 15 h17) fun v20 h21 =>
          if (v20 : Int32) = 0 then
            some ((-2), h21)
          else
            gR h21 p0 11 9 fun v24 =>
            aI h21 v24 .int p1 fun v28 =>
            if (v28 : Int32) = 6 then
              some ((-4), h21)
            else
              rcv h21 p0 11 <|
              cl (FX12_change p0 h21) fun v35 h36 =>
              gR h36 p0 11 9 fun v41 =>
              aI h36 v41 .int p1 fun v45 =>
              gR h36 p0 11 10 fun v51 =>
              sI h36 v51 ((6 * p1) + v45) p2 fun h55 =>
              gR h55 p0 11 11 fun v62 =>
              sI h55 v62 ((6 * p1) + v45) p3 fun h66 =>
              gR h66 p0 11 12 fun v73 =>
              sI h66 v73 ((6 * p1) + v45) p4 fun h77 =>
              gR h77 p0 11 13 fun v84 =>
              sI h77 v84 ((6 * p1) + v45) p5 fun h88 =>
              gR h88 p0 11 9 fun v95 =>
              aI h88 v95 .int p1 fun v99 =>
              sI h88 v95 p1 (v99 + 1) fun h105 =>
              gR h105 p0 11 9 fun v112 =>
              aI h105 v112 .int p1 fun v116 =>
              some (v116, h105)
set_option maxRecDepth 100000 in
set_option maxHeartbeats 4000000 in
theorem FX12_handler_ok {G : xG} {l : Launch} {p0 : Option Nat} {p1 : Int32} {p2 : Int32} {p3 : Int32} {p4 : Int32} {p5 : Int32} {h0 h1 : Hp} {r : Int32} (hF : FX12_handler p0 p1 p2 p3 p4 p5 h0 = some (r, h1)) : xc G l mX12_handler 3 0 0 [va_rf p0, .int p1, .int p2, .int p3, .int p4, .int p5] h0 (xP mkI r h1) := by
  refine xo_I [.inr (.inr _), .inl _, .inl _, .inl _, .inl _, .inl _] (by decide) (Nat.le_of_ble_eq_true rfl) rfl ?_
  show xv _ _ _ _ _ _ _ [(0, false, va_rf p0), (1, false, .int p1), (2, false, .int p2), (3, false, .int p3), (4, false, .int p4), (5, false, .int p5)] _ _ _
  unfold FX12_handler at hF
  refine xe_aload_n dX12_handler_0 rfl rfl ?_
  refine xe_iload_n dX12_handler_1 rfl rfl ?_
  obtain ⟨a6, e4, t5, hF⟩ := rcv_inv hF
  obtain ⟨v1, h2, o3, hF⟩ := cl_inv hF
  refine xz (xq_callV (As := [.int _]) (rest := []) dX12_handler_2 mk_X12_isMethod ⟨tw_1185, tw_1187, ts_38⟩ (ci := 11) rfl e4 t5 (FX12_isMethod_ok o3) xPZ_q (by decide) (by decide) rfl rfl ?_)
  refine xe_if_eq (tgt := 59) dX12_handler_5 (by decide) (fun c7 => ?_) (fun c7 => ?_)
  · replace hF := if_p c7 hF
    refine xe_bipush (v := (-2)) dX12_handler_59 (by decide) ?_
    exact xe_ireturn dX12_handler_61 (xP_ret (mk := mkI) hF)
  · replace hF := if_n c7 hF
    refine xe_iload_n dX12_handler_8 rfl rfl ?_
    refine xe_i2l dX12_handler_9 ?_
    refine xe_lconst (v := 0) dX12_handler_10 (by decide) ?_
    refine xe_ldc2 (v := 60) dX12_handler_11 tw_1207 ?_
    obtain ⟨v8, h9, o10, hF⟩ := cl_inv hF
    refine xz (xq_callS (As := [.long _, .long _, .long _]) (rest := []) dX12_handler_14 mk_X12_in ⟨tw_1174, tw_1175⟩ (FX12_in_ok o10) xPZ_q (by decide) (by decide) rfl rfl ?_)
    refine xe_if_eq (tgt := 59) dX12_handler_17 (by decide) (fun c11 => ?_) (fun c11 => ?_)
    · replace hF := if_p c11 hF
      refine xe_bipush (v := (-2)) dX12_handler_59 (by decide) ?_
      exact xe_ireturn dX12_handler_61 (xP_ret (mk := mkI) hF)
    · replace hF := if_n c11 hF
      refine xe_iload_n dX12_handler_20 rfl rfl ?_
      refine xe_i2l dX12_handler_21 ?_
      refine xe_lconst (v := 0) dX12_handler_22 (by decide) ?_
      refine xe_iload_n dX12_handler_23 rfl rfl ?_
      refine xe_i2l dX12_handler_24 ?_
      obtain ⟨v12, h13, o14, hF⟩ := cl_inv hF
      refine xz (xq_callS (As := [.long _, .long _, .long _]) (rest := []) dX12_handler_25 mk_X12_in ⟨tw_1174, tw_1175⟩ (FX12_in_ok o14) xPZ_q (by decide) (by decide) rfl rfl ?_)
      refine xe_if_eq (tgt := 59) dX12_handler_28 (by decide) (fun c15 => ?_) (fun c15 => ?_)
      · replace hF := if_p c15 hF
        refine xe_bipush (v := (-2)) dX12_handler_59 (by decide) ?_
        exact xe_ireturn dX12_handler_61 (xP_ret (mk := mkI) hF)
      · replace hF := if_n c15 hF
        refine xe_iload dX12_handler_31 rfl ?_
        refine xe_i2l dX12_handler_33 ?_
        refine xe_lconst (v := 0) dX12_handler_34 (by decide) ?_
        refine xe_ldc2 (v := 59) dX12_handler_35 tw_1208 ?_
        obtain ⟨v16, h17, o18, hF⟩ := cl_inv hF
        refine xz (xq_callS (As := [.long _, .long _, .long _]) (rest := []) dX12_handler_38 mk_X12_in ⟨tw_1174, tw_1175⟩ (FX12_in_ok o18) xPZ_q (by decide) (by decide) rfl rfl ?_)
        refine xe_if_eq (tgt := 59) dX12_handler_41 (by decide) (fun c19 => ?_) (fun c19 => ?_)
        · replace hF := if_p c19 hF
          refine xe_bipush (v := (-2)) dX12_handler_59 (by decide) ?_
          exact xe_ireturn dX12_handler_61 (xP_ret (mk := mkI) hF)
        · replace hF := if_n c19 hF
          refine xe_iload dX12_handler_44 rfl ?_
          refine xe_i2l dX12_handler_46 ?_
          refine xe_ldc2 (v := (-1)) dX12_handler_47 tw_1209 ?_
          refine xe_ldc2 (v := 15) dX12_handler_50 tw_1210 ?_
          obtain ⟨v20, h21, o22, hF⟩ := cl_inv hF
          refine xz (xq_callS (As := [.long _, .long _, .long _]) (rest := []) dX12_handler_53 mk_X12_in ⟨tw_1174, tw_1175⟩ (FX12_in_ok o22) xPZ_q (by decide) (by decide) rfl rfl ?_)
          refine xe_if_ne (tgt := 62) dX12_handler_56 (by decide) (fun c23 => ?_) (fun c23 => ?_)
          · replace hF := if_p c23 hF
            refine xe_bipush (v := (-2)) dX12_handler_59 (by decide) ?_
            exact xe_ireturn dX12_handler_61 (xP_ret (mk := mkI) hF)
          · replace hF := if_n c23 hF
            refine xe_aload_n dX12_handler_62 rfl rfl ?_
            obtain ⟨a25, e26, t27, hF⟩ := gR_inv hF
            refine xq_getR dX12_handler_63 fl_SeldomOpsModel_34 xk_11 e26 t27 rfl ?_
            refine xe_iload_n dX12_handler_66 rfl rfl ?_
            obtain ⟨a29, n30, e31, t32, b33, hF⟩ := aI_inv hF
            refine xq_iald dX12_handler_67 e31 t32 b33 ?_
            refine xe_bipush (v := 6) dX12_handler_68 (by decide) ?_
            refine xe_icmp_ne (tgt := 76) dX12_handler_70 (by decide) (fun c34 => ?_) (fun c34 => ?_)
            · replace hF := if_p c34 hF
              refine xe_bipush (v := (-4)) dX12_handler_73 (by decide) ?_
              exact xe_ireturn dX12_handler_75 (xP_ret (mk := mkI) hF)
            · replace hF := if_n c34 hF
              refine xe_aload_n dX12_handler_76 rfl rfl ?_
              obtain ⟨a40, e38, t39, hF⟩ := rcv_inv hF
              obtain ⟨v35, h36, o37, hF⟩ := cl_inv hF
              refine xz (xq_callV (As := []) (rest := []) dX12_handler_77 mk_X12_change ⟨tw_1177, tw_1179, ts_37⟩ (ci := 11) rfl e38 t39 (FX12_change_ok o37) xP_q (by decide) (by decide) rfl rfl ?_)
              refine xe_bipush (v := 6) dX12_handler_80 (by decide) ?_
              refine xe_iload_n dX12_handler_82 rfl rfl ?_
              refine xe_imul dX12_handler_83 ?_
              refine xe_aload_n dX12_handler_84 rfl rfl ?_
              obtain ⟨a42, e43, t44, hF⟩ := gR_inv hF
              refine xq_getR dX12_handler_85 fl_SeldomOpsModel_34 xk_11 e43 t44 rfl ?_
              refine xe_iload_n dX12_handler_88 rfl rfl ?_
              obtain ⟨a46, n47, e48, t49, b50, hF⟩ := aI_inv hF
              refine xq_iald dX12_handler_89 e48 t49 b50 ?_
              refine xe_iadd dX12_handler_90 ?_
              refine xe_istore dX12_handler_91 (by decide) ?_
              refine xe_aload_n dX12_handler_93 rfl rfl ?_
              obtain ⟨a52, e53, t54, hF⟩ := gR_inv hF
              refine xq_getR dX12_handler_94 fl_SeldomOpsModel_37 xk_11 e53 t54 rfl ?_
              refine xe_iload dX12_handler_97 rfl ?_
              refine xe_iload_n dX12_handler_99 rfl rfl ?_
              obtain ⟨a56, n57, e58, t59, b60, hF⟩ := sI_inv hF
              refine xq_iast dX12_handler_100 e58 t59 b60 ?_
              refine xe_aload_n dX12_handler_101 rfl rfl ?_
              obtain ⟨a63, e64, t65, hF⟩ := gR_inv hF
              refine xq_getR dX12_handler_102 fl_SeldomOpsModel_40 xk_11 e64 t65 rfl ?_
              refine xe_iload dX12_handler_105 rfl ?_
              refine xe_iload_n dX12_handler_107 rfl rfl ?_
              obtain ⟨a67, n68, e69, t70, b71, hF⟩ := sI_inv hF
              refine xq_iast dX12_handler_108 e69 t70 b71 ?_
              refine xe_aload_n dX12_handler_109 rfl rfl ?_
              obtain ⟨a74, e75, t76, hF⟩ := gR_inv hF
              refine xq_getR dX12_handler_110 fl_SeldomOpsModel_43 xk_11 e75 t76 rfl ?_
              refine xe_iload dX12_handler_113 rfl ?_
              refine xe_iload dX12_handler_115 rfl ?_
              obtain ⟨a78, n79, e80, t81, b82, hF⟩ := sI_inv hF
              refine xq_iast dX12_handler_117 e80 t81 b82 ?_
              refine xe_aload_n dX12_handler_118 rfl rfl ?_
              obtain ⟨a85, e86, t87, hF⟩ := gR_inv hF
              refine xq_getR dX12_handler_119 fl_SeldomOpsModel_46 xk_11 e86 t87 rfl ?_
              refine xe_iload dX12_handler_122 rfl ?_
              refine xe_iload dX12_handler_124 rfl ?_
              obtain ⟨a89, n90, e91, t92, b93, hF⟩ := sI_inv hF
              refine xq_iast dX12_handler_126 e91 t92 b93 ?_
              refine xe_aload_n dX12_handler_127 rfl rfl ?_
              obtain ⟨a96, e97, t98, hF⟩ := gR_inv hF
              refine xq_getR dX12_handler_128 fl_SeldomOpsModel_34 xk_11 e97 t98 rfl ?_
              refine xe_iload_n dX12_handler_131 rfl rfl ?_
              refine xe_dup2 dX12_handler_132 rfl (va_rf_cat _) ?_
              obtain ⟨a100, n101, e102, t103, b104, hF⟩ := aI_inv hF
              refine xq_iald dX12_handler_133 e102 t103 b104 ?_
              refine xe_iconst (v := 1) dX12_handler_134 (by decide) ?_
              refine xe_iadd dX12_handler_135 ?_
              obtain ⟨a106, n107, e108, t109, b110, hF⟩ := sI_inv hF
              refine xq_iast dX12_handler_136 e108 t109 b110 ?_
              refine xe_aload_n dX12_handler_137 rfl rfl ?_
              obtain ⟨a113, e114, t115, hF⟩ := gR_inv hF
              refine xq_getR dX12_handler_138 fl_SeldomOpsModel_34 xk_11 e114 t115 rfl ?_
              refine xe_iload_n dX12_handler_141 rfl rfl ?_
              obtain ⟨a117, n118, e119, t120, b121, hF⟩ := aI_inv hF
              refine xq_iald dX12_handler_142 e119 t120 b121 ?_
              exact xe_ireturn dX12_handler_143 (xP_ret (mk := mkI) hF)
/-! SeldomOpsModel.<init>()V -/
def FX12_init (p0 : Option Nat) (h0 : Hp) : Option (Unit × Hp) :=
  nz p0 none <|
  nA h0 (.inr (.int, 8)) fun v3 h4 =>
  pR h4 p0 11 1 (some v3) fun h10 =>
  nA h10 (.inr (.int, 8)) fun v12 h13 =>
  pR h13 p0 11 2 (some v12) fun h19 =>
  nA h19 (.inr (.int, 8)) fun v21 h22 =>
  pR h22 p0 11 3 (some v21) fun h28 =>
  nA h28 (.inr (.int, 64)) fun v30 h31 =>
  pR h31 p0 11 4 (some v30) fun h37 =>
  nA h37 (.inr (.int, 8)) fun v39 h40 =>
  pR h40 p0 11 5 (some v39) fun h46 =>
  nA h46 (.inr (.int, 480)) fun v48 h49 =>
  pR h49 p0 11 6 (some v48) fun h55 =>
  nA h55 (.inr (.int, 480)) fun v57 h58 =>
  pR h58 p0 11 7 (some v57) fun h64 =>
  nA h64 (.inr (.int, 480)) fun v66 h67 =>
  pR h67 p0 11 8 (some v66) fun h73 =>
  nA h73 (.inr (.int, 8)) fun v75 h76 =>
  pR h76 p0 11 9 (some v75) fun h82 =>
  nA h82 (.inr (.int, 48)) fun v84 h85 =>
  pR h85 p0 11 10 (some v84) fun h91 =>
  nA h91 (.inr (.int, 48)) fun v93 h94 =>
  pR h94 p0 11 11 (some v93) fun h100 =>
  nA h100 (.inr (.int, 48)) fun v102 h103 =>
  pR h103 p0 11 12 (some v102) fun h109 =>
  nA h109 (.inr (.int, 48)) fun v111 h112 =>
  pR h112 p0 11 13 (some v111) fun h118 =>
  nA h118 (.inr (.boolean, 8)) fun v120 h121 =>
  pR h121 p0 11 14 (some v120) fun h127 =>
  nA h127 (.inr (.long, 40)) fun v129 h130 =>
  pR h130 p0 11 16 (some v129) fun h136 =>
  nA h136 (.inr (.boolean, 8)) fun v138 h139 =>
  pR h139 p0 11 18 (some v138) fun h145 =>
  nA h145 (.inr (.int, 8)) fun v147 h148 =>
  pR h148 p0 11 19 (some v147) fun h154 =>
  nA h154 (.inr (.int, 8)) fun v156 h157 =>
  pR h157 p0 11 20 (some v156) fun h163 =>
  nA h163 (.inr (.int, 8)) fun v165 h166 =>
  pR h166 p0 11 21 (some v165) fun h172 =>
  nA h172 (.inr (.int, 64)) fun v174 h175 =>
  pR h175 p0 11 22 (some v174) fun h181 =>
  nA h181 (.inr (.int, 64)) fun v183 h184 =>
  pR h184 p0 11 23 (some v183) fun h190 =>
  nA h190 (.inr (.boolean, 480)) fun v192 h193 =>
  pR h193 p0 11 24 (some v192) fun h199 =>
  nA h199 (.inr (.boolean, 60)) fun v201 h202 =>
  pR h202 p0 11 25 (some v201) fun h208 =>
  nA h208 (.inr (.int, 480)) fun v210 h211 =>
  pR h211 p0 11 26 (some v210) fun h217 =>
  nA h217 (.inr (.int, 5760)) fun v219 h220 =>
  pR h220 p0 11 27 (some v219) fun h226 =>
  nA h226 (.inr (.int, 7680)) fun v228 h229 =>
  pR h229 p0 11 28 (some v228) fun h235 =>
  nA h235 (.inr (.int, 64)) fun v237 h238 =>
  pR h238 p0 11 30 (some v237) fun h244 =>
  nA h244 (.inr (.int, 18)) fun v246 h247 =>
  pR h247 p0 11 31 (some v246) fun h253 =>
  pI h253 p0 11 32 (-1) fun h258 =>
  pI h258 p0 11 33 (-1) fun h263 =>
  nA h263 (.inr (.long, 8)) fun v265 h266 =>
  pR h266 p0 11 35 (some v265) fun h272 =>
  nA h272 (.inr (.int, 16)) fun v274 h275 =>
  pR h275 p0 11 36 (some v274) fun h281 =>
  nA h281 (.inr (.int, 12)) fun v283 h284 =>
  pR h284 p0 11 38 (some v283) fun h290 =>
  nA h290 (.inr (.int, 16)) fun v292 h293 =>
  pR h293 p0 11 39 (some v292) fun h299 =>
  nA h299 (.inr (.int, 60)) fun v301 h302 =>
  pR h302 p0 11 41 (some v301) fun h308 =>
  nA h308 (.inr (.int, 60)) fun v310 h311 =>
  pR h311 p0 11 42 (some v310) fun h317 =>
  nA h317 (.inr (.int, 60)) fun v319 h320 =>
  pR h320 p0 11 43 (some v319) fun h326 =>
  nA h326 (.inr (.int, 60)) fun v328 h329 =>
  pR h329 p0 11 44 (some v328) fun h335 =>
  nA h335 (.inr (.long, 6000)) fun v337 h338 =>
  pR h338 p0 11 45 (some v337) fun h344 =>
  nA h344 (.inr (.int, 6)) fun v346 h347 =>
  pR h347 p0 11 48 (some v346) fun h353 =>
  nA h353 (.inr (.int, 6)) fun v355 h356 =>
  pR h356 p0 11 49 (some v355) fun h362 =>
  nA h362 (.inr (.int, 6)) fun v364 h365 =>
  pR h365 p0 11 50 (some v364) fun h371 =>
  nA h371 (.inr (.long, 192)) fun v373 h374 =>
  pR h374 p0 11 51 (some v373) fun h380 =>
  nA h380 (.inr (.long, 108)) fun v382 h383 =>
  pR h383 p0 11 52 (some v382) fun h389 =>
  nA h389 (.inr (.int, 360)) fun v391 h392 =>
  pR h392 p0 11 53 (some v391) fun h398 =>
  pI h398 p0 11 0 0 fun h403 =>
  some ((), h403)
set_option maxRecDepth 100000 in
set_option maxHeartbeats 4000000 in
theorem FX12_init_ok {G : xG} {l : Launch} {p0 : Option Nat} {h0 h1 : Hp} {r : Unit} (hF : FX12_init p0 h0 = some (r, h1)) : xc G l mX12_init 1 43 23456 [va_rf p0] h0 (xP mkV r h1) := by
  refine xo_V [.inr (.inr _)] (by decide) (Nat.le_of_ble_eq_true rfl) rfl ?_
  show xv _ _ _ _ _ _ _ [(0, false, va_rf p0)] _ _ _
  unfold FX12_init at hF
  refine xe_aload_n dX12_init_0 rfl rfl ?_
  obtain ⟨a2, e1, hF⟩ := nzn_inv hF
  refine xq_objInit dX12_init_1 ⟨tw_966, tw_22, tw_23⟩ (by decide) (by decide) e1 ?_
  refine xe_aload_n dX12_init_4 rfl rfl ?_
  refine xe_bipush (v := 8) dX12_init_5 (by decide) ?_
  obtain ⟨v3, h4, e5, e6, hF⟩ := nA_inv hF
  refine xv.weaken (xn_newa (t := .int) (N := 8) (k := 42) (n := 23448) dX12_init_7 rfl (Or.inl rfl) tw_153 (by decide) (by decide) (by decide) e5 e6 ?_) (by first | decide | omega) (by first | decide | (simp only [xnf]; omega))
  obtain ⟨a7, e8, t9, hF⟩ := pR_inv hF
  refine xq_putR dX12_init_9 fl_SeldomOpsModel_7 xk_11 (by decide) (fun _ => ⟨rfl, _, _, rfl⟩) e8 t9 (Or.inr ⟨_, rfl⟩) ?_
  refine xe_aload_n dX12_init_12 rfl rfl ?_
  refine xe_bipush (v := 8) dX12_init_13 (by decide) ?_
  obtain ⟨v12, h13, e14, e15, hF⟩ := nA_inv hF
  refine xv.weaken (xn_newa (t := .int) (N := 8) (k := 41) (n := 23440) dX12_init_15 rfl (Or.inl rfl) tw_153 (by decide) (by decide) (by decide) e14 e15 ?_) (by first | decide | omega) (by first | decide | (simp only [xnf]; omega))
  obtain ⟨a16, e17, t18, hF⟩ := pR_inv hF
  refine xq_putR dX12_init_17 fl_SeldomOpsModel_13 xk_11 (by decide) (fun _ => ⟨rfl, _, _, rfl⟩) e17 t18 (Or.inr ⟨_, rfl⟩) ?_
  refine xe_aload_n dX12_init_20 rfl rfl ?_
  refine xe_bipush (v := 8) dX12_init_21 (by decide) ?_
  obtain ⟨v21, h22, e23, e24, hF⟩ := nA_inv hF
  refine xv.weaken (xn_newa (t := .int) (N := 8) (k := 40) (n := 23432) dX12_init_23 rfl (Or.inl rfl) tw_153 (by decide) (by decide) (by decide) e23 e24 ?_) (by first | decide | omega) (by first | decide | (simp only [xnf]; omega))
  obtain ⟨a25, e26, t27, hF⟩ := pR_inv hF
  refine xq_putR dX12_init_25 fl_SeldomOpsModel_16 xk_11 (by decide) (fun _ => ⟨rfl, _, _, rfl⟩) e26 t27 (Or.inr ⟨_, rfl⟩) ?_
  refine xe_aload_n dX12_init_28 rfl rfl ?_
  refine xe_bipush (v := 64) dX12_init_29 (by decide) ?_
  obtain ⟨v30, h31, e32, e33, hF⟩ := nA_inv hF
  refine xv.weaken (xn_newa (t := .int) (N := 64) (k := 39) (n := 23368) dX12_init_31 rfl (Or.inl rfl) tw_153 (by decide) (by decide) (by decide) e32 e33 ?_) (by first | decide | omega) (by first | decide | (simp only [xnf]; omega))
  obtain ⟨a34, e35, t36, hF⟩ := pR_inv hF
  refine xq_putR dX12_init_33 fl_SeldomOpsModel_19 xk_11 (by decide) (fun _ => ⟨rfl, _, _, rfl⟩) e35 t36 (Or.inr ⟨_, rfl⟩) ?_
  refine xe_aload_n dX12_init_36 rfl rfl ?_
  refine xe_bipush (v := 8) dX12_init_37 (by decide) ?_
  obtain ⟨v39, h40, e41, e42, hF⟩ := nA_inv hF
  refine xv.weaken (xn_newa (t := .int) (N := 8) (k := 38) (n := 23360) dX12_init_39 rfl (Or.inl rfl) tw_153 (by decide) (by decide) (by decide) e41 e42 ?_) (by first | decide | omega) (by first | decide | (simp only [xnf]; omega))
  obtain ⟨a43, e44, t45, hF⟩ := pR_inv hF
  refine xq_putR dX12_init_41 fl_SeldomOpsModel_22 xk_11 (by decide) (fun _ => ⟨rfl, _, _, rfl⟩) e44 t45 (Or.inr ⟨_, rfl⟩) ?_
  refine xe_aload_n dX12_init_44 rfl rfl ?_
  refine xe_sipush (v := 480) dX12_init_45 (by decide) ?_
  obtain ⟨v48, h49, e50, e51, hF⟩ := nA_inv hF
  refine xv.weaken (xn_newa (t := .int) (N := 480) (k := 37) (n := 22880) dX12_init_48 rfl (Or.inl rfl) tw_153 (by decide) (by decide) (by decide) e50 e51 ?_) (by first | decide | omega) (by first | decide | (simp only [xnf]; omega))
  obtain ⟨a52, e53, t54, hF⟩ := pR_inv hF
  refine xq_putR dX12_init_50 fl_SeldomOpsModel_25 xk_11 (by decide) (fun _ => ⟨rfl, _, _, rfl⟩) e53 t54 (Or.inr ⟨_, rfl⟩) ?_
  refine xe_aload_n dX12_init_53 rfl rfl ?_
  refine xe_sipush (v := 480) dX12_init_54 (by decide) ?_
  obtain ⟨v57, h58, e59, e60, hF⟩ := nA_inv hF
  refine xv.weaken (xn_newa (t := .int) (N := 480) (k := 36) (n := 22400) dX12_init_57 rfl (Or.inl rfl) tw_153 (by decide) (by decide) (by decide) e59 e60 ?_) (by first | decide | omega) (by first | decide | (simp only [xnf]; omega))
  obtain ⟨a61, e62, t63, hF⟩ := pR_inv hF
  refine xq_putR dX12_init_59 fl_SeldomOpsModel_28 xk_11 (by decide) (fun _ => ⟨rfl, _, _, rfl⟩) e62 t63 (Or.inr ⟨_, rfl⟩) ?_
  refine xe_aload_n dX12_init_62 rfl rfl ?_
  refine xe_sipush (v := 480) dX12_init_63 (by decide) ?_
  obtain ⟨v66, h67, e68, e69, hF⟩ := nA_inv hF
  refine xv.weaken (xn_newa (t := .int) (N := 480) (k := 35) (n := 21920) dX12_init_66 rfl (Or.inl rfl) tw_153 (by decide) (by decide) (by decide) e68 e69 ?_) (by first | decide | omega) (by first | decide | (simp only [xnf]; omega))
  obtain ⟨a70, e71, t72, hF⟩ := pR_inv hF
  refine xq_putR dX12_init_68 fl_SeldomOpsModel_31 xk_11 (by decide) (fun _ => ⟨rfl, _, _, rfl⟩) e71 t72 (Or.inr ⟨_, rfl⟩) ?_
  refine xe_aload_n dX12_init_71 rfl rfl ?_
  refine xe_bipush (v := 8) dX12_init_72 (by decide) ?_
  obtain ⟨v75, h76, e77, e78, hF⟩ := nA_inv hF
  refine xv.weaken (xn_newa (t := .int) (N := 8) (k := 34) (n := 21912) dX12_init_74 rfl (Or.inl rfl) tw_153 (by decide) (by decide) (by decide) e77 e78 ?_) (by first | decide | omega) (by first | decide | (simp only [xnf]; omega))
  obtain ⟨a79, e80, t81, hF⟩ := pR_inv hF
  refine xq_putR dX12_init_76 fl_SeldomOpsModel_34 xk_11 (by decide) (fun _ => ⟨rfl, _, _, rfl⟩) e80 t81 (Or.inr ⟨_, rfl⟩) ?_
  refine xe_aload_n dX12_init_79 rfl rfl ?_
  refine xe_bipush (v := 48) dX12_init_80 (by decide) ?_
  obtain ⟨v84, h85, e86, e87, hF⟩ := nA_inv hF
  refine xv.weaken (xn_newa (t := .int) (N := 48) (k := 33) (n := 21864) dX12_init_82 rfl (Or.inl rfl) tw_153 (by decide) (by decide) (by decide) e86 e87 ?_) (by first | decide | omega) (by first | decide | (simp only [xnf]; omega))
  obtain ⟨a88, e89, t90, hF⟩ := pR_inv hF
  refine xq_putR dX12_init_84 fl_SeldomOpsModel_37 xk_11 (by decide) (fun _ => ⟨rfl, _, _, rfl⟩) e89 t90 (Or.inr ⟨_, rfl⟩) ?_
  refine xe_aload_n dX12_init_87 rfl rfl ?_
  refine xe_bipush (v := 48) dX12_init_88 (by decide) ?_
  obtain ⟨v93, h94, e95, e96, hF⟩ := nA_inv hF
  refine xv.weaken (xn_newa (t := .int) (N := 48) (k := 32) (n := 21816) dX12_init_90 rfl (Or.inl rfl) tw_153 (by decide) (by decide) (by decide) e95 e96 ?_) (by first | decide | omega) (by first | decide | (simp only [xnf]; omega))
  obtain ⟨a97, e98, t99, hF⟩ := pR_inv hF
  refine xq_putR dX12_init_92 fl_SeldomOpsModel_40 xk_11 (by decide) (fun _ => ⟨rfl, _, _, rfl⟩) e98 t99 (Or.inr ⟨_, rfl⟩) ?_
  refine xe_aload_n dX12_init_95 rfl rfl ?_
  refine xe_bipush (v := 48) dX12_init_96 (by decide) ?_
  obtain ⟨v102, h103, e104, e105, hF⟩ := nA_inv hF
  refine xv.weaken (xn_newa (t := .int) (N := 48) (k := 31) (n := 21768) dX12_init_98 rfl (Or.inl rfl) tw_153 (by decide) (by decide) (by decide) e104 e105 ?_) (by first | decide | omega) (by first | decide | (simp only [xnf]; omega))
  obtain ⟨a106, e107, t108, hF⟩ := pR_inv hF
  refine xq_putR dX12_init_100 fl_SeldomOpsModel_43 xk_11 (by decide) (fun _ => ⟨rfl, _, _, rfl⟩) e107 t108 (Or.inr ⟨_, rfl⟩) ?_
  refine xe_aload_n dX12_init_103 rfl rfl ?_
  refine xe_bipush (v := 48) dX12_init_104 (by decide) ?_
  obtain ⟨v111, h112, e113, e114, hF⟩ := nA_inv hF
  refine xv.weaken (xn_newa (t := .int) (N := 48) (k := 30) (n := 21720) dX12_init_106 rfl (Or.inl rfl) tw_153 (by decide) (by decide) (by decide) e113 e114 ?_) (by first | decide | omega) (by first | decide | (simp only [xnf]; omega))
  obtain ⟨a115, e116, t117, hF⟩ := pR_inv hF
  refine xq_putR dX12_init_108 fl_SeldomOpsModel_46 xk_11 (by decide) (fun _ => ⟨rfl, _, _, rfl⟩) e116 t117 (Or.inr ⟨_, rfl⟩) ?_
  refine xe_aload_n dX12_init_111 rfl rfl ?_
  refine xe_bipush (v := 8) dX12_init_112 (by decide) ?_
  obtain ⟨v120, h121, e122, e123, hF⟩ := nA_inv hF
  refine xv.weaken (xn_newa (t := .boolean) (N := 8) (k := 29) (n := 21712) dX12_init_114 rfl (Or.inr (Or.inr rfl)) tw_299 (by decide) (by decide) (by decide) e122 e123 ?_) (by first | decide | omega) (by first | decide | (simp only [xnf]; omega))
  obtain ⟨a124, e125, t126, hF⟩ := pR_inv hF
  refine xq_putR dX12_init_116 fl_SeldomOpsModel_49 xk_11 (by decide) (fun _ => ⟨rfl, _, _, rfl⟩) e125 t126 (Or.inr ⟨_, rfl⟩) ?_
  refine xe_aload_n dX12_init_119 rfl rfl ?_
  refine xe_bipush (v := 40) dX12_init_120 (by decide) ?_
  obtain ⟨v129, h130, e131, e132, hF⟩ := nA_inv hF
  refine xv.weaken (xn_newa (t := .long) (N := 40) (k := 28) (n := 21672) dX12_init_122 rfl (Or.inr (Or.inl rfl)) tw_59 (by decide) (by decide) (by decide) e131 e132 ?_) (by first | decide | omega) (by first | decide | (simp only [xnf]; omega))
  obtain ⟨a133, e134, t135, hF⟩ := pR_inv hF
  refine xq_putR dX12_init_124 fl_SeldomOpsModel_53 xk_11 (by decide) (fun _ => ⟨rfl, _, _, rfl⟩) e134 t135 (Or.inr ⟨_, rfl⟩) ?_
  refine xe_aload_n dX12_init_127 rfl rfl ?_
  refine xe_bipush (v := 8) dX12_init_128 (by decide) ?_
  obtain ⟨v138, h139, e140, e141, hF⟩ := nA_inv hF
  refine xv.weaken (xn_newa (t := .boolean) (N := 8) (k := 27) (n := 21664) dX12_init_130 rfl (Or.inr (Or.inr rfl)) tw_299 (by decide) (by decide) (by decide) e140 e141 ?_) (by first | decide | omega) (by first | decide | (simp only [xnf]; omega))
  obtain ⟨a142, e143, t144, hF⟩ := pR_inv hF
  refine xq_putR dX12_init_132 fl_SeldomOpsModel_57 xk_11 (by decide) (fun _ => ⟨rfl, _, _, rfl⟩) e143 t144 (Or.inr ⟨_, rfl⟩) ?_
  refine xe_aload_n dX12_init_135 rfl rfl ?_
  refine xe_bipush (v := 8) dX12_init_136 (by decide) ?_
  obtain ⟨v147, h148, e149, e150, hF⟩ := nA_inv hF
  refine xv.weaken (xn_newa (t := .int) (N := 8) (k := 26) (n := 21656) dX12_init_138 rfl (Or.inl rfl) tw_153 (by decide) (by decide) (by decide) e149 e150 ?_) (by first | decide | omega) (by first | decide | (simp only [xnf]; omega))
  obtain ⟨a151, e152, t153, hF⟩ := pR_inv hF
  refine xq_putR dX12_init_140 fl_SeldomOpsModel_60 xk_11 (by decide) (fun _ => ⟨rfl, _, _, rfl⟩) e152 t153 (Or.inr ⟨_, rfl⟩) ?_
  refine xe_aload_n dX12_init_143 rfl rfl ?_
  refine xe_bipush (v := 8) dX12_init_144 (by decide) ?_
  obtain ⟨v156, h157, e158, e159, hF⟩ := nA_inv hF
  refine xv.weaken (xn_newa (t := .int) (N := 8) (k := 25) (n := 21648) dX12_init_146 rfl (Or.inl rfl) tw_153 (by decide) (by decide) (by decide) e158 e159 ?_) (by first | decide | omega) (by first | decide | (simp only [xnf]; omega))
  obtain ⟨a160, e161, t162, hF⟩ := pR_inv hF
  refine xq_putR dX12_init_148 fl_SeldomOpsModel_63 xk_11 (by decide) (fun _ => ⟨rfl, _, _, rfl⟩) e161 t162 (Or.inr ⟨_, rfl⟩) ?_
  refine xe_aload_n dX12_init_151 rfl rfl ?_
  refine xe_bipush (v := 8) dX12_init_152 (by decide) ?_
  obtain ⟨v165, h166, e167, e168, hF⟩ := nA_inv hF
  refine xv.weaken (xn_newa (t := .int) (N := 8) (k := 24) (n := 21640) dX12_init_154 rfl (Or.inl rfl) tw_153 (by decide) (by decide) (by decide) e167 e168 ?_) (by first | decide | omega) (by first | decide | (simp only [xnf]; omega))
  obtain ⟨a169, e170, t171, hF⟩ := pR_inv hF
  refine xq_putR dX12_init_156 fl_SeldomOpsModel_66 xk_11 (by decide) (fun _ => ⟨rfl, _, _, rfl⟩) e170 t171 (Or.inr ⟨_, rfl⟩) ?_
  refine xe_aload_n dX12_init_159 rfl rfl ?_
  refine xe_bipush (v := 64) dX12_init_160 (by decide) ?_
  obtain ⟨v174, h175, e176, e177, hF⟩ := nA_inv hF
  refine xv.weaken (xn_newa (t := .int) (N := 64) (k := 23) (n := 21576) dX12_init_162 rfl (Or.inl rfl) tw_153 (by decide) (by decide) (by decide) e176 e177 ?_) (by first | decide | omega) (by first | decide | (simp only [xnf]; omega))
  obtain ⟨a178, e179, t180, hF⟩ := pR_inv hF
  refine xq_putR dX12_init_164 fl_SeldomOpsModel_69 xk_11 (by decide) (fun _ => ⟨rfl, _, _, rfl⟩) e179 t180 (Or.inr ⟨_, rfl⟩) ?_
  refine xe_aload_n dX12_init_167 rfl rfl ?_
  refine xe_bipush (v := 64) dX12_init_168 (by decide) ?_
  obtain ⟨v183, h184, e185, e186, hF⟩ := nA_inv hF
  refine xv.weaken (xn_newa (t := .int) (N := 64) (k := 22) (n := 21512) dX12_init_170 rfl (Or.inl rfl) tw_153 (by decide) (by decide) (by decide) e185 e186 ?_) (by first | decide | omega) (by first | decide | (simp only [xnf]; omega))
  obtain ⟨a187, e188, t189, hF⟩ := pR_inv hF
  refine xq_putR dX12_init_172 fl_SeldomOpsModel_72 xk_11 (by decide) (fun _ => ⟨rfl, _, _, rfl⟩) e188 t189 (Or.inr ⟨_, rfl⟩) ?_
  refine xe_aload_n dX12_init_175 rfl rfl ?_
  refine xe_sipush (v := 480) dX12_init_176 (by decide) ?_
  obtain ⟨v192, h193, e194, e195, hF⟩ := nA_inv hF
  refine xv.weaken (xn_newa (t := .boolean) (N := 480) (k := 21) (n := 21032) dX12_init_179 rfl (Or.inr (Or.inr rfl)) tw_299 (by decide) (by decide) (by decide) e194 e195 ?_) (by first | decide | omega) (by first | decide | (simp only [xnf]; omega))
  obtain ⟨a196, e197, t198, hF⟩ := pR_inv hF
  refine xq_putR dX12_init_181 fl_SeldomOpsModel_75 xk_11 (by decide) (fun _ => ⟨rfl, _, _, rfl⟩) e197 t198 (Or.inr ⟨_, rfl⟩) ?_
  refine xe_aload_n dX12_init_184 rfl rfl ?_
  refine xe_bipush (v := 60) dX12_init_185 (by decide) ?_
  obtain ⟨v201, h202, e203, e204, hF⟩ := nA_inv hF
  refine xv.weaken (xn_newa (t := .boolean) (N := 60) (k := 20) (n := 20972) dX12_init_187 rfl (Or.inr (Or.inr rfl)) tw_299 (by decide) (by decide) (by decide) e203 e204 ?_) (by first | decide | omega) (by first | decide | (simp only [xnf]; omega))
  obtain ⟨a205, e206, t207, hF⟩ := pR_inv hF
  refine xq_putR dX12_init_189 fl_SeldomOpsModel_78 xk_11 (by decide) (fun _ => ⟨rfl, _, _, rfl⟩) e206 t207 (Or.inr ⟨_, rfl⟩) ?_
  refine xe_aload_n dX12_init_192 rfl rfl ?_
  refine xe_sipush (v := 480) dX12_init_193 (by decide) ?_
  obtain ⟨v210, h211, e212, e213, hF⟩ := nA_inv hF
  refine xv.weaken (xn_newa (t := .int) (N := 480) (k := 19) (n := 20492) dX12_init_196 rfl (Or.inl rfl) tw_153 (by decide) (by decide) (by decide) e212 e213 ?_) (by first | decide | omega) (by first | decide | (simp only [xnf]; omega))
  obtain ⟨a214, e215, t216, hF⟩ := pR_inv hF
  refine xq_putR dX12_init_198 fl_SeldomOpsModel_81 xk_11 (by decide) (fun _ => ⟨rfl, _, _, rfl⟩) e215 t216 (Or.inr ⟨_, rfl⟩) ?_
  refine xe_aload_n dX12_init_201 rfl rfl ?_
  refine xe_sipush (v := 5760) dX12_init_202 (by decide) ?_
  obtain ⟨v219, h220, e221, e222, hF⟩ := nA_inv hF
  refine xv.weaken (xn_newa (t := .int) (N := 5760) (k := 18) (n := 14732) dX12_init_205 rfl (Or.inl rfl) tw_153 (by decide) (by decide) (by decide) e221 e222 ?_) (by first | decide | omega) (by first | decide | (simp only [xnf]; omega))
  obtain ⟨a223, e224, t225, hF⟩ := pR_inv hF
  refine xq_putR dX12_init_207 fl_SeldomOpsModel_84 xk_11 (by decide) (fun _ => ⟨rfl, _, _, rfl⟩) e224 t225 (Or.inr ⟨_, rfl⟩) ?_
  refine xe_aload_n dX12_init_210 rfl rfl ?_
  refine xe_sipush (v := 7680) dX12_init_211 (by decide) ?_
  obtain ⟨v228, h229, e230, e231, hF⟩ := nA_inv hF
  refine xv.weaken (xn_newa (t := .int) (N := 7680) (k := 17) (n := 7052) dX12_init_214 rfl (Or.inl rfl) tw_153 (by decide) (by decide) (by decide) e230 e231 ?_) (by first | decide | omega) (by first | decide | (simp only [xnf]; omega))
  obtain ⟨a232, e233, t234, hF⟩ := pR_inv hF
  refine xq_putR dX12_init_216 fl_SeldomOpsModel_87 xk_11 (by decide) (fun _ => ⟨rfl, _, _, rfl⟩) e233 t234 (Or.inr ⟨_, rfl⟩) ?_
  refine xe_aload_n dX12_init_219 rfl rfl ?_
  refine xe_bipush (v := 64) dX12_init_220 (by decide) ?_
  obtain ⟨v237, h238, e239, e240, hF⟩ := nA_inv hF
  refine xv.weaken (xn_newa (t := .int) (N := 64) (k := 16) (n := 6988) dX12_init_222 rfl (Or.inl rfl) tw_153 (by decide) (by decide) (by decide) e239 e240 ?_) (by first | decide | omega) (by first | decide | (simp only [xnf]; omega))
  obtain ⟨a241, e242, t243, hF⟩ := pR_inv hF
  refine xq_putR dX12_init_224 fl_SeldomOpsModel_90 xk_11 (by decide) (fun _ => ⟨rfl, _, _, rfl⟩) e242 t243 (Or.inr ⟨_, rfl⟩) ?_
  refine xe_aload_n dX12_init_227 rfl rfl ?_
  refine xe_bipush (v := 18) dX12_init_228 (by decide) ?_
  obtain ⟨v246, h247, e248, e249, hF⟩ := nA_inv hF
  refine xv.weaken (xn_newa (t := .int) (N := 18) (k := 15) (n := 6970) dX12_init_230 rfl (Or.inl rfl) tw_153 (by decide) (by decide) (by decide) e248 e249 ?_) (by first | decide | omega) (by first | decide | (simp only [xnf]; omega))
  obtain ⟨a250, e251, t252, hF⟩ := pR_inv hF
  refine xq_putR dX12_init_232 fl_SeldomOpsModel_93 xk_11 (by decide) (fun _ => ⟨rfl, _, _, rfl⟩) e251 t252 (Or.inr ⟨_, rfl⟩) ?_
  refine xe_aload_n dX12_init_235 rfl rfl ?_
  refine xe_iconst (v := (-1)) dX12_init_236 (by decide) ?_
  obtain ⟨a255, e256, t257, hF⟩ := pI_inv hF
  refine xq_putI dX12_init_237 fl_SeldomOpsModel_96 xk_11 (by decide) (fun z => by cases z) e256 t257 (Or.inl rfl) ?_
  refine xe_aload_n dX12_init_240 rfl rfl ?_
  refine xe_iconst (v := (-1)) dX12_init_241 (by decide) ?_
  obtain ⟨a260, e261, t262, hF⟩ := pI_inv hF
  refine xq_putI dX12_init_242 fl_SeldomOpsModel_100 xk_11 (by decide) (fun z => by cases z) e261 t262 (Or.inl rfl) ?_
  refine xe_aload_n dX12_init_245 rfl rfl ?_
  refine xe_bipush (v := 8) dX12_init_246 (by decide) ?_
  obtain ⟨v265, h266, e267, e268, hF⟩ := nA_inv hF
  refine xv.weaken (xn_newa (t := .long) (N := 8) (k := 14) (n := 6962) dX12_init_248 rfl (Or.inr (Or.inl rfl)) tw_59 (by decide) (by decide) (by decide) e267 e268 ?_) (by first | decide | omega) (by first | decide | (simp only [xnf]; omega))
  obtain ⟨a269, e270, t271, hF⟩ := pR_inv hF
  refine xq_putR dX12_init_250 fl_SeldomOpsModel_103 xk_11 (by decide) (fun _ => ⟨rfl, _, _, rfl⟩) e270 t271 (Or.inr ⟨_, rfl⟩) ?_
  refine xe_aload_n dX12_init_253 rfl rfl ?_
  refine xe_bipush (v := 16) dX12_init_254 (by decide) ?_
  obtain ⟨v274, h275, e276, e277, hF⟩ := nA_inv hF
  refine xv.weaken (xn_newa (t := .int) (N := 16) (k := 13) (n := 6946) dX12_init_256 rfl (Or.inl rfl) tw_153 (by decide) (by decide) (by decide) e276 e277 ?_) (by first | decide | omega) (by first | decide | (simp only [xnf]; omega))
  obtain ⟨a278, e279, t280, hF⟩ := pR_inv hF
  refine xq_putR dX12_init_258 fl_SeldomOpsModel_106 xk_11 (by decide) (fun _ => ⟨rfl, _, _, rfl⟩) e279 t280 (Or.inr ⟨_, rfl⟩) ?_
  refine xe_aload_n dX12_init_261 rfl rfl ?_
  refine xe_bipush (v := 12) dX12_init_262 (by decide) ?_
  obtain ⟨v283, h284, e285, e286, hF⟩ := nA_inv hF
  refine xv.weaken (xn_newa (t := .int) (N := 12) (k := 12) (n := 6934) dX12_init_264 rfl (Or.inl rfl) tw_153 (by decide) (by decide) (by decide) e285 e286 ?_) (by first | decide | omega) (by first | decide | (simp only [xnf]; omega))
  obtain ⟨a287, e288, t289, hF⟩ := pR_inv hF
  refine xq_putR dX12_init_266 fl_SeldomOpsModel_109 xk_11 (by decide) (fun _ => ⟨rfl, _, _, rfl⟩) e288 t289 (Or.inr ⟨_, rfl⟩) ?_
  refine xe_aload_n dX12_init_269 rfl rfl ?_
  refine xe_bipush (v := 16) dX12_init_270 (by decide) ?_
  obtain ⟨v292, h293, e294, e295, hF⟩ := nA_inv hF
  refine xv.weaken (xn_newa (t := .int) (N := 16) (k := 11) (n := 6918) dX12_init_272 rfl (Or.inl rfl) tw_153 (by decide) (by decide) (by decide) e294 e295 ?_) (by first | decide | omega) (by first | decide | (simp only [xnf]; omega))
  obtain ⟨a296, e297, t298, hF⟩ := pR_inv hF
  refine xq_putR dX12_init_274 fl_SeldomOpsModel_112 xk_11 (by decide) (fun _ => ⟨rfl, _, _, rfl⟩) e297 t298 (Or.inr ⟨_, rfl⟩) ?_
  refine xe_aload_n dX12_init_277 rfl rfl ?_
  refine xe_bipush (v := 60) dX12_init_278 (by decide) ?_
  obtain ⟨v301, h302, e303, e304, hF⟩ := nA_inv hF
  refine xv.weaken (xn_newa (t := .int) (N := 60) (k := 10) (n := 6858) dX12_init_280 rfl (Or.inl rfl) tw_153 (by decide) (by decide) (by decide) e303 e304 ?_) (by first | decide | omega) (by first | decide | (simp only [xnf]; omega))
  obtain ⟨a305, e306, t307, hF⟩ := pR_inv hF
  refine xq_putR dX12_init_282 fl_SeldomOpsModel_115 xk_11 (by decide) (fun _ => ⟨rfl, _, _, rfl⟩) e306 t307 (Or.inr ⟨_, rfl⟩) ?_
  refine xe_aload_n dX12_init_285 rfl rfl ?_
  refine xe_bipush (v := 60) dX12_init_286 (by decide) ?_
  obtain ⟨v310, h311, e312, e313, hF⟩ := nA_inv hF
  refine xv.weaken (xn_newa (t := .int) (N := 60) (k := 9) (n := 6798) dX12_init_288 rfl (Or.inl rfl) tw_153 (by decide) (by decide) (by decide) e312 e313 ?_) (by first | decide | omega) (by first | decide | (simp only [xnf]; omega))
  obtain ⟨a314, e315, t316, hF⟩ := pR_inv hF
  refine xq_putR dX12_init_290 fl_SeldomOpsModel_118 xk_11 (by decide) (fun _ => ⟨rfl, _, _, rfl⟩) e315 t316 (Or.inr ⟨_, rfl⟩) ?_
  refine xe_aload_n dX12_init_293 rfl rfl ?_
  refine xe_bipush (v := 60) dX12_init_294 (by decide) ?_
  obtain ⟨v319, h320, e321, e322, hF⟩ := nA_inv hF
  refine xv.weaken (xn_newa (t := .int) (N := 60) (k := 8) (n := 6738) dX12_init_296 rfl (Or.inl rfl) tw_153 (by decide) (by decide) (by decide) e321 e322 ?_) (by first | decide | omega) (by first | decide | (simp only [xnf]; omega))
  obtain ⟨a323, e324, t325, hF⟩ := pR_inv hF
  refine xq_putR dX12_init_298 fl_SeldomOpsModel_121 xk_11 (by decide) (fun _ => ⟨rfl, _, _, rfl⟩) e324 t325 (Or.inr ⟨_, rfl⟩) ?_
  refine xe_aload_n dX12_init_301 rfl rfl ?_
  refine xe_bipush (v := 60) dX12_init_302 (by decide) ?_
  obtain ⟨v328, h329, e330, e331, hF⟩ := nA_inv hF
  refine xv.weaken (xn_newa (t := .int) (N := 60) (k := 7) (n := 6678) dX12_init_304 rfl (Or.inl rfl) tw_153 (by decide) (by decide) (by decide) e330 e331 ?_) (by first | decide | omega) (by first | decide | (simp only [xnf]; omega))
  obtain ⟨a332, e333, t334, hF⟩ := pR_inv hF
  refine xq_putR dX12_init_306 fl_SeldomOpsModel_124 xk_11 (by decide) (fun _ => ⟨rfl, _, _, rfl⟩) e333 t334 (Or.inr ⟨_, rfl⟩) ?_
  refine xe_aload_n dX12_init_309 rfl rfl ?_
  refine xe_sipush (v := 6000) dX12_init_310 (by decide) ?_
  obtain ⟨v337, h338, e339, e340, hF⟩ := nA_inv hF
  refine xv.weaken (xn_newa (t := .long) (N := 6000) (k := 6) (n := 678) dX12_init_313 rfl (Or.inr (Or.inl rfl)) tw_59 (by decide) (by decide) (by decide) e339 e340 ?_) (by first | decide | omega) (by first | decide | (simp only [xnf]; omega))
  obtain ⟨a341, e342, t343, hF⟩ := pR_inv hF
  refine xq_putR dX12_init_315 fl_SeldomOpsModel_127 xk_11 (by decide) (fun _ => ⟨rfl, _, _, rfl⟩) e342 t343 (Or.inr ⟨_, rfl⟩) ?_
  refine xe_aload_n dX12_init_318 rfl rfl ?_
  refine xe_bipush (v := 6) dX12_init_319 (by decide) ?_
  obtain ⟨v346, h347, e348, e349, hF⟩ := nA_inv hF
  refine xv.weaken (xn_newa (t := .int) (N := 6) (k := 5) (n := 672) dX12_init_321 rfl (Or.inl rfl) tw_153 (by decide) (by decide) (by decide) e348 e349 ?_) (by first | decide | omega) (by first | decide | (simp only [xnf]; omega))
  obtain ⟨a350, e351, t352, hF⟩ := pR_inv hF
  refine xq_putR dX12_init_323 fl_SeldomOpsModel_130 xk_11 (by decide) (fun _ => ⟨rfl, _, _, rfl⟩) e351 t352 (Or.inr ⟨_, rfl⟩) ?_
  refine xe_aload_n dX12_init_326 rfl rfl ?_
  refine xe_bipush (v := 6) dX12_init_327 (by decide) ?_
  obtain ⟨v355, h356, e357, e358, hF⟩ := nA_inv hF
  refine xv.weaken (xn_newa (t := .int) (N := 6) (k := 4) (n := 666) dX12_init_329 rfl (Or.inl rfl) tw_153 (by decide) (by decide) (by decide) e357 e358 ?_) (by first | decide | omega) (by first | decide | (simp only [xnf]; omega))
  obtain ⟨a359, e360, t361, hF⟩ := pR_inv hF
  refine xq_putR dX12_init_331 fl_SeldomOpsModel_133 xk_11 (by decide) (fun _ => ⟨rfl, _, _, rfl⟩) e360 t361 (Or.inr ⟨_, rfl⟩) ?_
  refine xe_aload_n dX12_init_334 rfl rfl ?_
  refine xe_bipush (v := 6) dX12_init_335 (by decide) ?_
  obtain ⟨v364, h365, e366, e367, hF⟩ := nA_inv hF
  refine xv.weaken (xn_newa (t := .int) (N := 6) (k := 3) (n := 660) dX12_init_337 rfl (Or.inl rfl) tw_153 (by decide) (by decide) (by decide) e366 e367 ?_) (by first | decide | omega) (by first | decide | (simp only [xnf]; omega))
  obtain ⟨a368, e369, t370, hF⟩ := pR_inv hF
  refine xq_putR dX12_init_339 fl_SeldomOpsModel_136 xk_11 (by decide) (fun _ => ⟨rfl, _, _, rfl⟩) e369 t370 (Or.inr ⟨_, rfl⟩) ?_
  refine xe_aload_n dX12_init_342 rfl rfl ?_
  refine xe_sipush (v := 192) dX12_init_343 (by decide) ?_
  obtain ⟨v373, h374, e375, e376, hF⟩ := nA_inv hF
  refine xv.weaken (xn_newa (t := .long) (N := 192) (k := 2) (n := 468) dX12_init_346 rfl (Or.inr (Or.inl rfl)) tw_59 (by decide) (by decide) (by decide) e375 e376 ?_) (by first | decide | omega) (by first | decide | (simp only [xnf]; omega))
  obtain ⟨a377, e378, t379, hF⟩ := pR_inv hF
  refine xq_putR dX12_init_348 fl_SeldomOpsModel_139 xk_11 (by decide) (fun _ => ⟨rfl, _, _, rfl⟩) e378 t379 (Or.inr ⟨_, rfl⟩) ?_
  refine xe_aload_n dX12_init_351 rfl rfl ?_
  refine xe_bipush (v := 108) dX12_init_352 (by decide) ?_
  obtain ⟨v382, h383, e384, e385, hF⟩ := nA_inv hF
  refine xv.weaken (xn_newa (t := .long) (N := 108) (k := 1) (n := 360) dX12_init_354 rfl (Or.inr (Or.inl rfl)) tw_59 (by decide) (by decide) (by decide) e384 e385 ?_) (by first | decide | omega) (by first | decide | (simp only [xnf]; omega))
  obtain ⟨a386, e387, t388, hF⟩ := pR_inv hF
  refine xq_putR dX12_init_356 fl_SeldomOpsModel_142 xk_11 (by decide) (fun _ => ⟨rfl, _, _, rfl⟩) e387 t388 (Or.inr ⟨_, rfl⟩) ?_
  refine xe_aload_n dX12_init_359 rfl rfl ?_
  refine xe_sipush (v := 360) dX12_init_360 (by decide) ?_
  obtain ⟨v391, h392, e393, e394, hF⟩ := nA_inv hF
  refine xv.weaken (xn_newa (t := .int) (N := 360) (k := 0) (n := 0) dX12_init_363 rfl (Or.inl rfl) tw_153 (by decide) (by decide) (by decide) e393 e394 ?_) (by first | decide | omega) (by first | decide | (simp only [xnf]; omega))
  obtain ⟨a395, e396, t397, hF⟩ := pR_inv hF
  refine xq_putR dX12_init_365 fl_SeldomOpsModel_145 xk_11 (by decide) (fun _ => ⟨rfl, _, _, rfl⟩) e396 t397 (Or.inr ⟨_, rfl⟩) ?_
  refine xe_aload_n dX12_init_368 rfl rfl ?_
  refine xe_iconst (v := 0) dX12_init_369 (by decide) ?_
  obtain ⟨a400, e401, t402, hF⟩ := pI_inv hF
  refine xq_putI dX12_init_370 fl_SeldomOpsModel_148 xk_11 (by decide) (fun z => by cases z) e401 t402 (Or.inl rfl) ?_
  exact xe_return dX12_init_373 (xP_ret (mk := mkV) hF)
/-! SeldomOpsModel.isCaught()Z -/
def BX12_isCaught_222 : Nat → (Option Nat → Int32 → Hp → Option (Int32 × Hp)) → Option Nat → Int32 → Int32 → Int32 → Hp → Option (Int32 × Hp)
  | 0, _, _, _, _, _, _ => none
  | n + 1, k75, x0, x1, x2, x4, h0 =>
    gI h0 x0 11 40 fun v1 =>
    if (x4 : Int32) < v1 then
      gR h0 x0 11 43 fun v6 =>
      aI h0 v6 .int x4 fun v10 =>
      gR h0 x0 11 53 fun v16 =>
      aI h0 v16 .int ((60 * x2) + x4) fun v20 =>
      sI h0 v6 x4 (v10 - v20) fun h26 =>
      BX12_isCaught_222 n k75 x0 x1 x2 (x4 + 1) h26
    else
      gI h0 x0 11 47 fun v33 =>
      pI h0 x0 11 47 (v33 - 1) fun h40 =>
      k75 x0 x1 h40
set_option maxRecDepth 100000 in
set_option maxHeartbeats 4000000 in
theorem BX12_isCaught_222_ok {G : xG} {l : Launch} : ∀ (n : Nat) {k75 : Option Nat → Int32 → Hp → Option (Int32 × Hp)} (hk75 : ∀ {x0 : Option Nat} {x1 : Int32} {h0 h1 : Hp} {r : Int32}, k75 x0 x1 h0 = some (r, h1) → xv G l mX12_isCaught 3 0 0 75 [(0, false, va_rf x0), (1, false, .int x1)] [] h0 (xPZ r h1)) {x0 : Option Nat} {x1 : Int32} {x2 : Int32} {x4 : Int32} {h0 h1 : Hp} {r : Int32} (hF : BX12_isCaught_222 n k75 x0 x1 x2 x4 h0 = some (r, h1)), xv G l mX12_isCaught 3 0 0 222 [(0, false, va_rf x0), (1, false, .int x1), (2, false, .int x2), (4, false, .int x4)] [] h0 (xPZ r h1) := by
  intro n
  induction n with
  | zero => intro k75 hk75 x0 x1 x2 x4 h0 h1 r hF; cases hF
  | succ n ih =>
    intro k75 hk75 x0 x1 x2 x4 h0 h1 r hF
    unfold BX12_isCaught_222 at hF
    refine xe_iload dX12_isCaught_222 rfl ?_
    refine xe_aload_n dX12_isCaught_224 rfl rfl ?_
    obtain ⟨a2, e3, t4, hF⟩ := gI_inv hF
    refine xq_getI dX12_isCaught_225 fl_SeldomOpsModel_296 xk_11 e3 t4 rfl ?_
    refine xe_icmp_ge (tgt := 259) dX12_isCaught_228 (by decide) (fun c5 => ?_) (fun c5 => ?_)
    · replace hF := if_p c5 hF
      refine xe_aload_n dX12_isCaught_231 rfl rfl ?_
      obtain ⟨a7, e8, t9, hF⟩ := gR_inv hF
      refine xq_getR dX12_isCaught_232 fl_SeldomOpsModel_121 xk_11 e8 t9 rfl ?_
      refine xe_iload dX12_isCaught_235 rfl ?_
      refine xe_dup2 dX12_isCaught_237 rfl (va_rf_cat _) ?_
      obtain ⟨a11, n12, e13, t14, b15, hF⟩ := aI_inv hF
      refine xq_iald dX12_isCaught_238 e13 t14 b15 ?_
      refine xe_aload_n dX12_isCaught_239 rfl rfl ?_
      obtain ⟨a17, e18, t19, hF⟩ := gR_inv hF
      refine xq_getR dX12_isCaught_240 fl_SeldomOpsModel_145 xk_11 e18 t19 rfl ?_
      refine xe_bipush (v := 60) dX12_isCaught_243 (by decide) ?_
      refine xe_iload_n dX12_isCaught_245 rfl rfl ?_
      refine xe_imul dX12_isCaught_246 ?_
      refine xe_iload dX12_isCaught_247 rfl ?_
      refine xe_iadd dX12_isCaught_249 ?_
      obtain ⟨a21, n22, e23, t24, b25, hF⟩ := aI_inv hF
      refine xq_iald dX12_isCaught_250 e23 t24 b25 ?_
      refine xe_isub dX12_isCaught_251 ?_
      obtain ⟨a27, n28, e29, t30, b31, hF⟩ := sI_inv hF
      refine xq_iast dX12_isCaught_252 e29 t30 b31 ?_
      refine xe_iinc (v := _ + 1) dX12_isCaught_253 rfl rfl (by decide) ?_
      refine xe_goto (tgt := 222) dX12_isCaught_256 (by decide) ?_
      exact xv.lv (ih hk75 hF) (xsub_cons rfl (xsub_cons rfl (xsub_cons rfl (xsub_cons rfl xsub_nil))))
    · replace hF := if_n c5 hF
      refine xe_aload_n dX12_isCaught_259 rfl rfl ?_
      refine xe_dup dX12_isCaught_260 (va_rf_cat _) ?_
      obtain ⟨a34, e35, t36, hF⟩ := gI_inv hF
      refine xq_getI dX12_isCaught_261 fl_SeldomOpsModel_284 xk_11 e35 t36 rfl ?_
      refine xe_iconst (v := 1) dX12_isCaught_264 (by decide) ?_
      refine xe_isub dX12_isCaught_265 ?_
      obtain ⟨a37, e38, t39, hF⟩ := pI_inv hF
      refine xq_putI dX12_isCaught_266 fl_SeldomOpsModel_284 xk_11 (by decide) (fun z => by cases z) e38 t39 (Or.inl rfl) ?_
      refine xe_goto (tgt := 75) dX12_isCaught_269 (by decide) ?_
      exact xv.lv (hk75 hF) (xsub_cons rfl (xsub_cons rfl xsub_nil))
def BX12_isCaught_213 (k75 : Option Nat → Int32 → Hp → Option (Int32 × Hp)) (k102 : Option Nat → Int32 → Int32 → Int32 → Int32 → Hp → Option (Int32 × Hp)) (x0 : Option Nat) (x1 : Int32) (x2 : Int32) (x3 : Int32) (x4 : Int32) (h0 : Hp) : Option (Int32 × Hp) :=
  k102 x0 x1 x2 x3 (x4 + 1) h0
set_option maxRecDepth 100000 in
set_option maxHeartbeats 4000000 in
theorem BX12_isCaught_213_ok {G : xG} {l : Launch} {k75 : Option Nat → Int32 → Hp → Option (Int32 × Hp)} {k102 : Option Nat → Int32 → Int32 → Int32 → Int32 → Hp → Option (Int32 × Hp)} (hk75 : ∀ {x0 : Option Nat} {x1 : Int32} {h0 h1 : Hp} {r : Int32}, k75 x0 x1 h0 = some (r, h1) → xv G l mX12_isCaught 3 0 0 75 [(0, false, va_rf x0), (1, false, .int x1)] [] h0 (xPZ r h1)) (hk102 : ∀ {x0 : Option Nat} {x1 : Int32} {x2 : Int32} {x3 : Int32} {x4 : Int32} {h0 h1 : Hp} {r : Int32}, k102 x0 x1 x2 x3 x4 h0 = some (r, h1) → xv G l mX12_isCaught 3 0 0 102 [(0, false, va_rf x0), (1, false, .int x1), (2, false, .int x2), (3, false, .int x3), (4, false, .int x4)] [] h0 (xPZ r h1)) {x0 : Option Nat} {x1 : Int32} {x2 : Int32} {x3 : Int32} {x4 : Int32} {h0 h1 : Hp} {r : Int32} (hF : BX12_isCaught_213 k75 k102 x0 x1 x2 x3 x4 h0 = some (r, h1)) : xv G l mX12_isCaught 3 0 0 213 [(0, false, va_rf x0), (1, false, .int x1), (2, false, .int x2), (3, false, .int x3), (4, false, .int x4)] [] h0 (xPZ r h1) := by
  unfold BX12_isCaught_213 at hF
  refine xe_iinc (v := _ + 1) dX12_isCaught_213 rfl rfl (by decide) ?_
  refine xe_goto (tgt := 102) dX12_isCaught_216 (by decide) ?_
  exact xv.lv (hk102 hF) (xsub_cons rfl (xsub_cons rfl (xsub_cons rfl (xsub_cons rfl (xsub_cons rfl xsub_nil)))))
def BX12_isCaught_155 (x0 : Option Nat) (x2 : Int32) (x4 : Int32) (h0 : Hp) : Option (Int32 × Hp) :=
  gR h0 x0 11 50 fun v1 =>
  sI h0 v1 x2 0 fun h5 =>
  gI h5 x0 11 65 fun v12 =>
  rcv h5 x0 11 <|
  cl (FX12_put x0 x2 4 (Int32.toInt64 v12) h5) fun v16 h17 =>
  gR h17 x0 11 49 fun v22 =>
  gR h17 x0 11 12 fun v26 =>
  aI h17 v26 .int x4 fun v30 =>
  sI h17 v22 x2 v30 fun h36 =>
  gI h36 x0 11 62 fun v43 =>
  pI h36 x0 11 62 (v43 + 1) fun h50 =>
  pI h50 x0 11 56 (-1) fun h55 =>
  pI h55 x0 11 57 (-1) fun h60 =>
  pI h60 x0 11 58 (-1) fun h65 =>
  bz 1 (some (1, h65))
set_option maxRecDepth 100000 in
set_option maxHeartbeats 4000000 in
theorem BX12_isCaught_155_ok {G : xG} {l : Launch} {x0 : Option Nat} {x2 : Int32} {x4 : Int32} {h0 h1 : Hp} {r : Int32} (hF : BX12_isCaught_155 x0 x2 x4 h0 = some (r, h1)) : xv G l mX12_isCaught 3 0 0 155 [(0, false, va_rf x0), (2, false, .int x2), (4, false, .int x4)] [] h0 (xPZ r h1) := by
  unfold BX12_isCaught_155 at hF
  refine xe_aload_n dX12_isCaught_155 rfl rfl ?_
  obtain ⟨a2, e3, t4, hF⟩ := gR_inv hF
  refine xq_getR dX12_isCaught_156 fl_SeldomOpsModel_136 xk_11 e3 t4 rfl ?_
  refine xe_iload_n dX12_isCaught_159 rfl rfl ?_
  refine xe_iconst (v := 0) dX12_isCaught_160 (by decide) ?_
  obtain ⟨a6, n7, e8, t9, b10, hF⟩ := sI_inv hF
  refine xq_iast dX12_isCaught_161 e8 t9 b10 ?_
  refine xe_aload_n dX12_isCaught_162 rfl rfl ?_
  refine xe_iload_n dX12_isCaught_163 rfl rfl ?_
  refine xe_iconst (v := 4) dX12_isCaught_164 (by decide) ?_
  refine xe_aload_n dX12_isCaught_165 rfl rfl ?_
  obtain ⟨a13, e14, t15, hF⟩ := gI_inv hF
  refine xq_getI dX12_isCaught_166 fl_SeldomOpsModel_333 xk_11 e14 t15 rfl ?_
  refine xe_i2l dX12_isCaught_169 ?_
  obtain ⟨a21, e19, t20, hF⟩ := rcv_inv hF
  obtain ⟨v16, h17, o18, hF⟩ := cl_inv hF
  refine xz (xq_callV (As := [.int _, .int _, .long _]) (rest := []) dX12_isCaught_170 mk_X12_put ⟨tw_1351, tw_1353, ts_61⟩ (ci := 11) rfl e19 t20 (FX12_put_ok o18) xP_q (by decide) (by decide) rfl rfl ?_)
  refine xe_aload_n dX12_isCaught_173 rfl rfl ?_
  obtain ⟨a23, e24, t25, hF⟩ := gR_inv hF
  refine xq_getR dX12_isCaught_174 fl_SeldomOpsModel_133 xk_11 e24 t25 rfl ?_
  refine xe_iload_n dX12_isCaught_177 rfl rfl ?_
  refine xe_aload_n dX12_isCaught_178 rfl rfl ?_
  obtain ⟨a27, e28, t29, hF⟩ := gR_inv hF
  refine xq_getR dX12_isCaught_179 fl_SeldomOpsModel_43 xk_11 e28 t29 rfl ?_
  refine xe_iload dX12_isCaught_182 rfl ?_
  obtain ⟨a31, n32, e33, t34, b35, hF⟩ := aI_inv hF
  refine xq_iald dX12_isCaught_184 e33 t34 b35 ?_
  obtain ⟨a37, n38, e39, t40, b41, hF⟩ := sI_inv hF
  refine xq_iast dX12_isCaught_185 e39 t40 b41 ?_
  refine xe_aload_n dX12_isCaught_186 rfl rfl ?_
  refine xe_dup dX12_isCaught_187 (va_rf_cat _) ?_
  obtain ⟨a44, e45, t46, hF⟩ := gI_inv hF
  refine xq_getI dX12_isCaught_188 fl_SeldomOpsModel_317 xk_11 e45 t46 rfl ?_
  refine xe_iconst (v := 1) dX12_isCaught_191 (by decide) ?_
  refine xe_iadd dX12_isCaught_192 ?_
  obtain ⟨a47, e48, t49, hF⟩ := pI_inv hF
  refine xq_putI dX12_isCaught_193 fl_SeldomOpsModel_317 xk_11 (by decide) (fun z => by cases z) e48 t49 (Or.inl rfl) ?_
  refine xe_aload_n dX12_isCaught_196 rfl rfl ?_
  refine xe_iconst (v := (-1)) dX12_isCaught_197 (by decide) ?_
  obtain ⟨a52, e53, t54, hF⟩ := pI_inv hF
  refine xq_putI dX12_isCaught_198 fl_SeldomOpsModel_302 xk_11 (by decide) (fun z => by cases z) e53 t54 (Or.inl rfl) ?_
  refine xe_aload_n dX12_isCaught_201 rfl rfl ?_
  refine xe_iconst (v := (-1)) dX12_isCaught_202 (by decide) ?_
  obtain ⟨a57, e58, t59, hF⟩ := pI_inv hF
  refine xq_putI dX12_isCaught_203 fl_SeldomOpsModel_305 xk_11 (by decide) (fun z => by cases z) e58 t59 (Or.inl rfl) ?_
  refine xe_aload_n dX12_isCaught_206 rfl rfl ?_
  refine xe_iconst (v := (-1)) dX12_isCaught_207 (by decide) ?_
  obtain ⟨a62, e63, t64, hF⟩ := pI_inv hF
  refine xq_putI dX12_isCaught_208 fl_SeldomOpsModel_308 xk_11 (by decide) (fun z => by cases z) e63 t64 (Or.inl rfl) ?_
  refine xe_iconst (v := 1) dX12_isCaught_211 (by decide) ?_
  obtain ⟨z67, hF⟩ := bz_inv hF
  exact xe_ireturn dX12_isCaught_212 (xPZ_ret z67 hF)
def BX12_isCaught_102 : Nat → (Option Nat → Int32 → Hp → Option (Int32 × Hp)) → Option Nat → Int32 → Int32 → Int32 → Int32 → Hp → Option (Int32 × Hp)
  | 0, _, _, _, _, _, _, _ => none
  | n + 1, k75, x0, x1, x2, x3, x4, h0 =>
    gR h0 x0 11 9 fun v1 =>
    aI h0 v1 .int x3 fun v5 =>
    if (x4 : Int32) < ((6 * x3) + v5) then
      gR h0 x0 11 49 fun v12 =>
      aI h0 v12 .int x2 fun v16 =>
      rcv h0 x0 11 <|
      cl (FX12_covers x0 x4 v16 h0) fun v22 h23 =>
      if (v22 : Int32) = 0 then
        BX12_isCaught_213 k75 (BX12_isCaught_102 n k75) x0 x1 x2 x3 x4 h23
      else
        gR h23 x0 11 13 fun v29 =>
        aI h23 v29 .int x4 fun v33 =>
        if (v33 : Int32) = (-1) then
          BX12_isCaught_155 x0 x2 x4 h23
        else
          gR h23 x0 11 13 fun v40 =>
          aI h23 v40 .int x4 fun v44 =>
          if (v44 : Int32) = x1 then
            BX12_isCaught_155 x0 x2 x4 h23
          else
            BX12_isCaught_213 k75 (BX12_isCaught_102 n k75) x0 x1 x2 x3 x4 h23
    else
      BX12_isCaught_222 100000 k75 x0 x1 x2 0 h0
set_option maxRecDepth 100000 in
set_option maxHeartbeats 4000000 in
theorem BX12_isCaught_102_ok {G : xG} {l : Launch} : ∀ (n : Nat) {k75 : Option Nat → Int32 → Hp → Option (Int32 × Hp)} (hk75 : ∀ {x0 : Option Nat} {x1 : Int32} {h0 h1 : Hp} {r : Int32}, k75 x0 x1 h0 = some (r, h1) → xv G l mX12_isCaught 3 0 0 75 [(0, false, va_rf x0), (1, false, .int x1)] [] h0 (xPZ r h1)) {x0 : Option Nat} {x1 : Int32} {x2 : Int32} {x3 : Int32} {x4 : Int32} {h0 h1 : Hp} {r : Int32} (hF : BX12_isCaught_102 n k75 x0 x1 x2 x3 x4 h0 = some (r, h1)), xv G l mX12_isCaught 3 0 0 102 [(0, false, va_rf x0), (1, false, .int x1), (2, false, .int x2), (3, false, .int x3), (4, false, .int x4)] [] h0 (xPZ r h1) := by
  intro n
  induction n with
  | zero => intro k75 hk75 x0 x1 x2 x3 x4 h0 h1 r hF; cases hF
  | succ n ih =>
    intro k75 hk75 x0 x1 x2 x3 x4 h0 h1 r hF
    unfold BX12_isCaught_102 at hF
    refine xe_iload dX12_isCaught_102 rfl ?_
    refine xe_bipush (v := 6) dX12_isCaught_104 (by decide) ?_
    refine xe_iload_n dX12_isCaught_106 rfl rfl ?_
    refine xe_imul dX12_isCaught_107 ?_
    refine xe_aload_n dX12_isCaught_108 rfl rfl ?_
    obtain ⟨a2, e3, t4, hF⟩ := gR_inv hF
    refine xq_getR dX12_isCaught_109 fl_SeldomOpsModel_34 xk_11 e3 t4 rfl ?_
    refine xe_iload_n dX12_isCaught_112 rfl rfl ?_
    obtain ⟨a6, n7, e8, t9, b10, hF⟩ := aI_inv hF
    refine xq_iald dX12_isCaught_113 e8 t9 b10 ?_
    refine xe_iadd dX12_isCaught_114 ?_
    refine xe_icmp_ge (tgt := 219) dX12_isCaught_115 (by decide) (fun c11 => ?_) (fun c11 => ?_)
    · replace hF := if_p c11 hF
      refine xe_aload_n dX12_isCaught_118 rfl rfl ?_
      refine xe_iload dX12_isCaught_119 rfl ?_
      refine xe_aload_n dX12_isCaught_121 rfl rfl ?_
      obtain ⟨a13, e14, t15, hF⟩ := gR_inv hF
      refine xq_getR dX12_isCaught_122 fl_SeldomOpsModel_133 xk_11 e14 t15 rfl ?_
      refine xe_iload_n dX12_isCaught_125 rfl rfl ?_
      obtain ⟨a17, n18, e19, t20, b21, hF⟩ := aI_inv hF
      refine xq_iald dX12_isCaught_126 e19 t20 b21 ?_
      obtain ⟨a27, e25, t26, hF⟩ := rcv_inv hF
      obtain ⟨v22, h23, o24, hF⟩ := cl_inv hF
      refine xz (xq_callV (As := [.int _, .int _]) (rest := []) dX12_isCaught_127 mk_X12_covers ⟨tw_1268, tw_1270, ts_46⟩ (ci := 11) rfl e25 t26 (FX12_covers_ok o24) xPZ_q (by decide) (by decide) rfl rfl ?_)
      refine xe_if_eq (tgt := 213) dX12_isCaught_130 (by decide) (fun c28 => ?_) (fun c28 => ?_)
      · replace hF := if_p c28 hF
        exact xv.lv (BX12_isCaught_213_ok hk75 (ih hk75) hF) (xsub_cons rfl (xsub_cons rfl (xsub_cons rfl (xsub_cons rfl (xsub_cons rfl xsub_nil)))))
      · replace hF := if_n c28 hF
        refine xe_aload_n dX12_isCaught_133 rfl rfl ?_
        obtain ⟨a30, e31, t32, hF⟩ := gR_inv hF
        refine xq_getR dX12_isCaught_134 fl_SeldomOpsModel_46 xk_11 e31 t32 rfl ?_
        refine xe_iload dX12_isCaught_137 rfl ?_
        obtain ⟨a34, n35, e36, t37, b38, hF⟩ := aI_inv hF
        refine xq_iald dX12_isCaught_139 e36 t37 b38 ?_
        refine xe_iconst (v := (-1)) dX12_isCaught_140 (by decide) ?_
        refine xe_icmp_eq (tgt := 155) dX12_isCaught_141 (by decide) (fun c39 => ?_) (fun c39 => ?_)
        · replace hF := if_p c39 hF
          exact xv.lv (BX12_isCaught_155_ok hF) (xsub_cons rfl (xsub_cons rfl (xsub_cons rfl xsub_nil)))
        · replace hF := if_n c39 hF
          refine xe_aload_n dX12_isCaught_144 rfl rfl ?_
          obtain ⟨a41, e42, t43, hF⟩ := gR_inv hF
          refine xq_getR dX12_isCaught_145 fl_SeldomOpsModel_46 xk_11 e42 t43 rfl ?_
          refine xe_iload dX12_isCaught_148 rfl ?_
          obtain ⟨a45, n46, e47, t48, b49, hF⟩ := aI_inv hF
          refine xq_iald dX12_isCaught_150 e47 t48 b49 ?_
          refine xe_iload_n dX12_isCaught_151 rfl rfl ?_
          refine xe_icmp_ne (tgt := 213) dX12_isCaught_152 (by decide) (fun c50 => ?_) (fun c50 => ?_)
          · replace hF := if_p c50 hF
            exact xv.lv (BX12_isCaught_155_ok hF) (xsub_cons rfl (xsub_cons rfl (xsub_cons rfl xsub_nil)))
          · replace hF := if_n c50 hF
            exact xv.lv (BX12_isCaught_213_ok hk75 (ih hk75) hF) (xsub_cons rfl (xsub_cons rfl (xsub_cons rfl (xsub_cons rfl (xsub_cons rfl xsub_nil)))))
    · replace hF := if_n c11 hF
      refine xe_iconst (v := 0) dX12_isCaught_219 (by decide) ?_
      refine xe_istore dX12_isCaught_220 (by decide) ?_
      exact xv.lv (BX12_isCaught_222_ok _ hk75 hF) (xsub_cons rfl (xsub_cons rfl (xsub_cons rfl (xsub_cons rfl xsub_nil))))
def BX12_isCaught_75 : Nat → Option Nat → Int32 → Hp → Option (Int32 × Hp)
  | 0, _, _, _ => none
  | n + 1, x0, x1, h0 =>
    gI h0 x0 11 47 fun v1 =>
    if (0 : Int32) < v1 then
      gI h0 x0 11 47 fun v6 =>
      gR h0 x0 11 48 fun v10 =>
      aI h0 v10 .int (v6 - 1) fun v14 =>
      BX12_isCaught_102 100000 (BX12_isCaught_75 n) x0 x1 (v6 - 1) v14 (6 * v14) h0
    else
      bz 0 (some (0, h0))
set_option maxRecDepth 100000 in
set_option maxHeartbeats 4000000 in
theorem BX12_isCaught_75_ok {G : xG} {l : Launch} : ∀ (n : Nat) {x0 : Option Nat} {x1 : Int32} {h0 h1 : Hp} {r : Int32} (hF : BX12_isCaught_75 n x0 x1 h0 = some (r, h1)), xv G l mX12_isCaught 3 0 0 75 [(0, false, va_rf x0), (1, false, .int x1)] [] h0 (xPZ r h1) := by
  intro n
  induction n with
  | zero => intro x0 x1 h0 h1 r hF; cases hF
  | succ n ih =>
    intro x0 x1 h0 h1 r hF
    unfold BX12_isCaught_75 at hF
    refine xe_aload_n dX12_isCaught_75 rfl rfl ?_
    obtain ⟨a2, e3, t4, hF⟩ := gI_inv hF
    refine xq_getI dX12_isCaught_76 fl_SeldomOpsModel_284 xk_11 e3 t4 rfl ?_
    refine xe_if_le (tgt := 272) dX12_isCaught_79 (by decide) (fun c5 => ?_) (fun c5 => ?_)
    · replace hF := if_p c5 hF
      refine xe_aload_n dX12_isCaught_82 rfl rfl ?_
      obtain ⟨a7, e8, t9, hF⟩ := gI_inv hF
      refine xq_getI dX12_isCaught_83 fl_SeldomOpsModel_284 xk_11 e8 t9 rfl ?_
      refine xe_iconst (v := 1) dX12_isCaught_86 (by decide) ?_
      refine xe_isub dX12_isCaught_87 ?_
      refine xe_istore_n dX12_isCaught_88 rfl (by decide) ?_
      refine xe_aload_n dX12_isCaught_89 rfl rfl ?_
      obtain ⟨a11, e12, t13, hF⟩ := gR_inv hF
      refine xq_getR dX12_isCaught_90 fl_SeldomOpsModel_130 xk_11 e12 t13 rfl ?_
      refine xe_iload_n dX12_isCaught_93 rfl rfl ?_
      obtain ⟨a15, n16, e17, t18, b19, hF⟩ := aI_inv hF
      refine xq_iald dX12_isCaught_94 e17 t18 b19 ?_
      refine xe_istore_n dX12_isCaught_95 rfl (by decide) ?_
      refine xe_bipush (v := 6) dX12_isCaught_96 (by decide) ?_
      refine xe_iload_n dX12_isCaught_98 rfl rfl ?_
      refine xe_imul dX12_isCaught_99 ?_
      refine xe_istore dX12_isCaught_100 (by decide) ?_
      exact xv.lv (BX12_isCaught_102_ok _ ih hF) (xsub_cons rfl (xsub_cons rfl (xsub_cons rfl (xsub_cons rfl (xsub_cons rfl xsub_nil)))))
    · replace hF := if_n c5 hF
      refine xe_iconst (v := 0) dX12_isCaught_272 (by decide) ?_
      obtain ⟨z20, hF⟩ := bz_inv hF
      exact xe_ireturn dX12_isCaught_273 (xPZ_ret z20 hF)
def BX12_isCaught_72 (x0 : Option Nat) (x1 : Int32) (s0 : Option Nat) (s1 : Int32) (h0 : Hp) : Option (Int32 × Hp) :=
  pI h0 s0 11 65 s1 fun h4 =>
  BX12_isCaught_75 100000 x0 x1 h4
set_option maxRecDepth 100000 in
set_option maxHeartbeats 4000000 in
theorem BX12_isCaught_72_ok {G : xG} {l : Launch} {x0 : Option Nat} {x1 : Int32} {s0 : Option Nat} {s1 : Int32} {h0 h1 : Hp} {r : Int32} (hF : BX12_isCaught_72 x0 x1 s0 s1 h0 = some (r, h1)) : xv G l mX12_isCaught 3 0 0 72 [(0, false, va_rf x0), (1, false, .int x1)] [.int s1, va_rf s0] h0 (xPZ r h1) := by
  unfold BX12_isCaught_72 at hF
  obtain ⟨a1, e2, t3, hF⟩ := pI_inv hF
  refine xq_putI dX12_isCaught_72 fl_SeldomOpsModel_333 xk_11 (by decide) (fun z => by cases z) e2 t3 (Or.inl rfl) ?_
  exact xv.lv (BX12_isCaught_75_ok _ hF) (xsub_cons rfl (xsub_cons rfl xsub_nil))
def FX12_isCaught (p0 : Option Nat) (h0 : Hp) : Option (Int32 × Hp) :=
  gI h0 p0 11 64 fun v1 =>
  pI h0 p0 11 56 v1 fun h8 =>
  gR h8 p0 11 49 fun v10 =>
  gI h8 p0 11 47 fun v14 =>
  aI h8 v10 .int (v14 - 1) fun v18 =>
  pI h8 p0 11 57 v18 fun h27 =>
  gR h27 p0 11 48 fun v29 =>
  gI h27 p0 11 47 fun v33 =>
  aI h27 v29 .int (v33 - 1) fun v37 =>
  pI h27 p0 11 58 v37 fun h46 =>
  gI h46 p0 11 65 fun v48 =>
  if (v48 : Int32) = (-2) then
    gI h46 p0 11 40 fun v53 =>
    if (v53 : Int32) = 60 then
      BX12_isCaught_72 p0 v1 p0 (-1) h46
    else
      rcv h46 p0 11 <|
      cl (FX12_newThing p0 (v1 - 100) 0 h46) fun v58 h59 =>
      BX12_isCaught_72 p0 v1 p0 v58 h59
  else
    BX12_isCaught_75 100000 p0 v1 h46
set_option maxRecDepth 100000 in
set_option maxHeartbeats 4000000 in
theorem FX12_isCaught_ok {G : xG} {l : Launch} {p0 : Option Nat} {h0 h1 : Hp} {r : Int32} (hF : FX12_isCaught p0 h0 = some (r, h1)) : xc G l mX12_isCaught 3 0 0 [va_rf p0] h0 (xPZ r h1) := by
  refine xo_Z [.inr (.inr _)] (by decide) (Nat.le_of_ble_eq_true rfl) rfl ?_
  show xv _ _ _ _ _ _ _ [(0, false, va_rf p0)] _ _ _
  unfold FX12_isCaught at hF
  refine xe_aload_n dX12_isCaught_0 rfl rfl ?_
  obtain ⟨a2, e3, t4, hF⟩ := gI_inv hF
  refine xq_getI dX12_isCaught_1 fl_SeldomOpsModel_330 xk_11 e3 t4 rfl ?_
  refine xe_istore_n dX12_isCaught_4 rfl (by decide) ?_
  refine xe_aload_n dX12_isCaught_5 rfl rfl ?_
  refine xe_iload_n dX12_isCaught_6 rfl rfl ?_
  obtain ⟨a5, e6, t7, hF⟩ := pI_inv hF
  refine xq_putI dX12_isCaught_7 fl_SeldomOpsModel_302 xk_11 (by decide) (fun z => by cases z) e6 t7 (Or.inl rfl) ?_
  refine xe_aload_n dX12_isCaught_10 rfl rfl ?_
  refine xe_aload_n dX12_isCaught_11 rfl rfl ?_
  obtain ⟨a11, e12, t13, hF⟩ := gR_inv hF
  refine xq_getR dX12_isCaught_12 fl_SeldomOpsModel_133 xk_11 e12 t13 rfl ?_
  refine xe_aload_n dX12_isCaught_15 rfl rfl ?_
  obtain ⟨a15, e16, t17, hF⟩ := gI_inv hF
  refine xq_getI dX12_isCaught_16 fl_SeldomOpsModel_284 xk_11 e16 t17 rfl ?_
  refine xe_iconst (v := 1) dX12_isCaught_19 (by decide) ?_
  refine xe_isub dX12_isCaught_20 ?_
  obtain ⟨a19, n20, e21, t22, b23, hF⟩ := aI_inv hF
  refine xq_iald dX12_isCaught_21 e21 t22 b23 ?_
  obtain ⟨a24, e25, t26, hF⟩ := pI_inv hF
  refine xq_putI dX12_isCaught_22 fl_SeldomOpsModel_305 xk_11 (by decide) (fun z => by cases z) e25 t26 (Or.inl rfl) ?_
  refine xe_aload_n dX12_isCaught_25 rfl rfl ?_
  refine xe_aload_n dX12_isCaught_26 rfl rfl ?_
  obtain ⟨a30, e31, t32, hF⟩ := gR_inv hF
  refine xq_getR dX12_isCaught_27 fl_SeldomOpsModel_130 xk_11 e31 t32 rfl ?_
  refine xe_aload_n dX12_isCaught_30 rfl rfl ?_
  obtain ⟨a34, e35, t36, hF⟩ := gI_inv hF
  refine xq_getI dX12_isCaught_31 fl_SeldomOpsModel_284 xk_11 e35 t36 rfl ?_
  refine xe_iconst (v := 1) dX12_isCaught_34 (by decide) ?_
  refine xe_isub dX12_isCaught_35 ?_
  obtain ⟨a38, n39, e40, t41, b42, hF⟩ := aI_inv hF
  refine xq_iald dX12_isCaught_36 e40 t41 b42 ?_
  obtain ⟨a43, e44, t45, hF⟩ := pI_inv hF
  refine xq_putI dX12_isCaught_37 fl_SeldomOpsModel_308 xk_11 (by decide) (fun z => by cases z) e44 t45 (Or.inl rfl) ?_
  refine xe_aload_n dX12_isCaught_40 rfl rfl ?_
  obtain ⟨a49, e50, t51, hF⟩ := gI_inv hF
  refine xq_getI dX12_isCaught_41 fl_SeldomOpsModel_333 xk_11 e50 t51 rfl ?_
  refine xe_bipush (v := (-2)) dX12_isCaught_44 (by decide) ?_
  refine xe_icmp_ne (tgt := 75) dX12_isCaught_46 (by decide) (fun c52 => ?_) (fun c52 => ?_)
  · replace hF := if_p c52 hF
    refine xe_aload_n dX12_isCaught_49 rfl rfl ?_
    refine xe_aload_n dX12_isCaught_50 rfl rfl ?_
    obtain ⟨a54, e55, t56, hF⟩ := gI_inv hF
    refine xq_getI dX12_isCaught_51 fl_SeldomOpsModel_296 xk_11 e55 t56 rfl ?_
    refine xe_bipush (v := 60) dX12_isCaught_54 (by decide) ?_
    refine xe_icmp_ne (tgt := 63) dX12_isCaught_56 (by decide) (fun c57 => ?_) (fun c57 => ?_)
    · replace hF := if_p c57 hF
      refine xe_iconst (v := (-1)) dX12_isCaught_59 (by decide) ?_
      refine xe_goto (tgt := 72) dX12_isCaught_60 (by decide) ?_
      exact xv.lv (BX12_isCaught_72_ok hF) (xsub_cons rfl (xsub_cons rfl xsub_nil))
    · replace hF := if_n c57 hF
      refine xe_aload_n dX12_isCaught_63 rfl rfl ?_
      refine xe_iload_n dX12_isCaught_64 rfl rfl ?_
      refine xe_bipush (v := 100) dX12_isCaught_65 (by decide) ?_
      refine xe_isub dX12_isCaught_67 ?_
      refine xe_iconst (v := 0) dX12_isCaught_68 (by decide) ?_
      obtain ⟨a63, e61, t62, hF⟩ := rcv_inv hF
      obtain ⟨v58, h59, o60, hF⟩ := cl_inv hF
      refine xz (xq_callV (As := [.int _, .int _]) (rest := [va_rf _]) dX12_isCaught_69 mk_X12_newThing ⟨tw_1406, tw_1408, ts_69⟩ (ci := 11) rfl e61 t62 (FX12_newThing_ok o60) xP_q (by decide) (Nat.le_trans (cs_r cs_0) (by decide)) rfl rfl ?_)
      exact xv.lv (BX12_isCaught_72_ok hF) (xsub_cons rfl (xsub_cons rfl xsub_nil))
  · replace hF := if_n c52 hF
    exact xv.lv (BX12_isCaught_75_ok _ hF) (xsub_cons rfl (xsub_cons rfl xsub_nil))
