/-! SeldomOpsModel.plain(IIII)V -/
def BX12_plain_44 (x0 : Option Nat) (x1 : Int32) (x2 : Int32) (x3 : Int32) (h0 : Hp) : Option (Unit × Hp) :=
  gR h0 x0 11 16 fun v1 =>
  aL h0 v1 x3 fun v5 =>
  rcv h0 x0 11 <|
  cl (FX12_put x0 x1 x2 v5 h0) fun v11 h12 =>
  some ((), h12)
set_option maxRecDepth 100000 in
set_option maxHeartbeats 4000000 in
theorem BX12_plain_44_ok {G : xG} {l : Launch} {x0 : Option Nat} {x1 : Int32} {x2 : Int32} {x3 : Int32} {h0 h1 : Hp} {r : Unit} (hF : BX12_plain_44 x0 x1 x2 x3 h0 = some (r, h1)) : xv G l mX12_plain 3 0 0 44 [(0, false, va_rf x0), (1, false, .int x1), (2, false, .int x2), (3, false, .int x3)] [] h0 (xP mkV r h1) := by
  unfold BX12_plain_44 at hF
  refine xe_aload_n dX12_plain_44 rfl rfl ?_
  refine xe_iload_n dX12_plain_45 rfl rfl ?_
  refine xe_iload_n dX12_plain_46 rfl rfl ?_
  refine xe_aload_n dX12_plain_47 rfl rfl ?_
  obtain ⟨a2, e3, t4, hF⟩ := gR_inv hF
  refine xq_getR dX12_plain_48 fl_SeldomOpsModel_53 xk_11 e3 t4 rfl ?_
  refine xe_iload_n dX12_plain_51 rfl rfl ?_
  obtain ⟨a6, n7, e8, t9, b10, hF⟩ := aL_inv hF
  refine xq_lald dX12_plain_52 e8 t9 b10 ?_
  obtain ⟨a16, e14, t15, hF⟩ := rcv_inv hF
  obtain ⟨v11, h12, o13, hF⟩ := cl_inv hF
  refine xz (xq_callV (As := [.int _, .int _, .long _]) (rest := []) dX12_plain_53 mk_X12_put ⟨tw_1351, tw_1353, ts_61⟩ (ci := 11) rfl e14 t15 (FX12_put_ok o13) xP_q (by decide) (by decide) rfl rfl ?_)
  refine xe_goto (tgt := 152) dX12_plain_56 (by decide) ?_
  exact xe_return dX12_plain_152 (xP_ret (mk := mkV) hF)
def FX12_plain (p0 : Option Nat) (p1 : Int32) (p2 : Int32) (p3 : Int32) (p4 : Int32) (h0 : Hp) : Option (Unit × Hp) :=
  if (p2 : Int32) = 1 then
    BX12_plain_44 p0 p1 p2 p3 h0
  else
  if (p2 : Int32) = 3 then
    BX12_plain_44 p0 p1 p2 p3 h0
  else
  if (p2 : Int32) = 4 then
    rcv h0 p0 11 <|
    cl (FX12_put p0 p1 4 (-1) h0) fun v4 h5 =>
    some ((), h5)
  else
  if (p2 : Int32) = 5 then
    gR h0 p0 11 52 fun v11 =>
    aL h0 v11 ((18 * p1) + p3) fun v15 =>
    rcv h0 p0 11 <|
    cl (FX12_put p0 p1 p4 v15 h0) fun v21 h22 =>
    some ((), h22)
  else
  if (p2 : Int32) = 6 then
    gR h0 p0 11 52 fun v28 =>
    rcv h0 p0 11 <|
    cl (FX12_take p0 p1 p4 h0) fun v32 h33 =>
    sL h33 v28 ((18 * p1) + p3) v32 fun h38 =>
    some ((), h38)
  else
  if (p2 : Int32) = 7 then
    gR h0 p0 11 52 fun v46 =>
    gR h0 p0 11 52 fun v50 =>
    aL h0 v50 ((18 * p1) + p3) fun v54 =>
    sL h0 v46 ((18 * p1) + p3) (Int32.toInt64 (Int64.toInt32 (v54 + (Int32.toInt64 p4)))) fun h60 =>
    some ((), h60)
  else
  rcv h0 p0 11 <|
  cl (FX12_put p0 p1 p2 (Int32.toInt64 p3) h0) fun v67 h68 =>
  some ((), h68)
set_option maxRecDepth 100000 in
set_option maxHeartbeats 4000000 in
theorem FX12_plain_ok {G : xG} {l : Launch} {p0 : Option Nat} {p1 : Int32} {p2 : Int32} {p3 : Int32} {p4 : Int32} {h0 h1 : Hp} {r : Unit} (hF : FX12_plain p0 p1 p2 p3 p4 h0 = some (r, h1)) : xc G l mX12_plain 3 0 0 [va_rf p0, .int p1, .int p2, .int p3, .int p4] h0 (xP mkV r h1) := by
  refine xo_V [.inr (.inr _), .inl _, .inl _, .inl _, .inl _] (by decide) (Nat.le_of_ble_eq_true rfl) rfl ?_
  show xv _ _ _ _ _ _ _ [(0, false, va_rf p0), (1, false, .int p1), (2, false, .int p2), (3, false, .int p3), (4, false, .int p4)] _ _ _
  unfold FX12_plain at hF
  refine xe_iload_n dX12_plain_0 rfl rfl ?_
  refine xs_case (j := 1) (tgt := 44) dX12_plain_1 (by decide) (by decide) rfl (by decide) (fun c1 => ?_) (fun c1 => ?_)
  · replace hF := if_p c1 hF
    exact xv.lv (BX12_plain_44_ok hF) (xsub_cons rfl (xsub_cons rfl (xsub_cons rfl (xsub_cons rfl xsub_nil))))
  replace hF := if_n c1 hF
  refine xs_case (j := 3) (tgt := 44) dX12_plain_1 (by decide) (by decide) rfl (by decide) (fun c2 => ?_) (fun c2 => ?_)
  · replace hF := if_p c2 hF
    exact xv.lv (BX12_plain_44_ok hF) (xsub_cons rfl (xsub_cons rfl (xsub_cons rfl (xsub_cons rfl xsub_nil))))
  replace hF := if_n c2 hF
  refine xs_case (j := 4) (tgt := 59) dX12_plain_1 (by decide) (by decide) rfl (by decide) (fun c3 => ?_) (fun c3 => ?_)
  · replace hF := if_p c3 hF
    refine xe_aload_n dX12_plain_59 rfl rfl ?_
    refine xe_iload_n dX12_plain_60 rfl rfl ?_
    refine xe_iconst (v := 4) dX12_plain_61 (by decide) ?_
    refine xe_ldc2 (v := (-1)) dX12_plain_62 tw_1209 ?_
    obtain ⟨a9, e7, t8, hF⟩ := rcv_inv hF
    obtain ⟨v4, h5, o6, hF⟩ := cl_inv hF
    refine xz (xq_callV (As := [.int _, .int _, .long _]) (rest := []) dX12_plain_65 mk_X12_put ⟨tw_1351, tw_1353, ts_61⟩ (ci := 11) rfl e7 t8 (FX12_put_ok o6) xP_q (by decide) (by decide) rfl rfl ?_)
    refine xe_goto (tgt := 152) dX12_plain_68 (by decide) ?_
    exact xe_return dX12_plain_152 (xP_ret (mk := mkV) hF)
  replace hF := if_n c3 hF
  refine xs_case (j := 5) (tgt := 71) dX12_plain_1 (by decide) (by decide) rfl (by decide) (fun c10 => ?_) (fun c10 => ?_)
  · replace hF := if_p c10 hF
    refine xe_aload_n dX12_plain_71 rfl rfl ?_
    refine xe_iload_n dX12_plain_72 rfl rfl ?_
    refine xe_iload dX12_plain_73 rfl ?_
    refine xe_aload_n dX12_plain_75 rfl rfl ?_
    obtain ⟨a12, e13, t14, hF⟩ := gR_inv hF
    refine xq_getR dX12_plain_76 fl_SeldomOpsModel_142 xk_11 e13 t14 rfl ?_
    refine xe_bipush (v := 18) dX12_plain_79 (by decide) ?_
    refine xe_iload_n dX12_plain_81 rfl rfl ?_
    refine xe_imul dX12_plain_82 ?_
    refine xe_iload_n dX12_plain_83 rfl rfl ?_
    refine xe_iadd dX12_plain_84 ?_
    obtain ⟨a16, n17, e18, t19, b20, hF⟩ := aL_inv hF
    refine xq_lald dX12_plain_85 e18 t19 b20 ?_
    obtain ⟨a26, e24, t25, hF⟩ := rcv_inv hF
    obtain ⟨v21, h22, o23, hF⟩ := cl_inv hF
    refine xz (xq_callV (As := [.int _, .int _, .long _]) (rest := []) dX12_plain_86 mk_X12_put ⟨tw_1351, tw_1353, ts_61⟩ (ci := 11) rfl e24 t25 (FX12_put_ok o23) xP_q (by decide) (by decide) rfl rfl ?_)
    refine xe_goto (tgt := 152) dX12_plain_89 (by decide) ?_
    exact xe_return dX12_plain_152 (xP_ret (mk := mkV) hF)
  replace hF := if_n c10 hF
  refine xs_case (j := 6) (tgt := 92) dX12_plain_1 (by decide) (by decide) rfl (by decide) (fun c27 => ?_) (fun c27 => ?_)
  · replace hF := if_p c27 hF
    refine xe_aload_n dX12_plain_92 rfl rfl ?_
    obtain ⟨a29, e30, t31, hF⟩ := gR_inv hF
    refine xq_getR dX12_plain_93 fl_SeldomOpsModel_142 xk_11 e30 t31 rfl ?_
    refine xe_bipush (v := 18) dX12_plain_96 (by decide) ?_
    refine xe_iload_n dX12_plain_98 rfl rfl ?_
    refine xe_imul dX12_plain_99 ?_
    refine xe_iload_n dX12_plain_100 rfl rfl ?_
    refine xe_iadd dX12_plain_101 ?_
    refine xe_aload_n dX12_plain_102 rfl rfl ?_
    refine xe_iload_n dX12_plain_103 rfl rfl ?_
    refine xe_iload dX12_plain_104 rfl ?_
    obtain ⟨a37, e35, t36, hF⟩ := rcv_inv hF
    obtain ⟨v32, h33, o34, hF⟩ := cl_inv hF
    refine xz (xq_callV (As := [.int _, .int _]) (rest := [.int _, va_rf _]) dX12_plain_106 mk_X12_take ⟨tw_1355, tw_1357, ts_62⟩ (ci := 11) rfl e35 t36 (FX12_take_ok o34) xP_q (by decide) (Nat.le_trans (cs_i (cs_r cs_0)) (by decide)) rfl rfl ?_)
    obtain ⟨a39, n40, e41, t42, b43, hF⟩ := sL_inv hF
    refine xq_last dX12_plain_109 e41 t42 b43 ?_
    refine xe_goto (tgt := 152) dX12_plain_110 (by decide) ?_
    exact xe_return dX12_plain_152 (xP_ret (mk := mkV) hF)
  replace hF := if_n c27 hF
  refine xs_case (j := 7) (tgt := 113) dX12_plain_1 (by decide) (by decide) rfl (by decide) (fun c45 => ?_) (fun c45 => ?_)
  · replace hF := if_p c45 hF
    refine xe_aload_n dX12_plain_113 rfl rfl ?_
    obtain ⟨a47, e48, t49, hF⟩ := gR_inv hF
    refine xq_getR dX12_plain_114 fl_SeldomOpsModel_142 xk_11 e48 t49 rfl ?_
    refine xe_bipush (v := 18) dX12_plain_117 (by decide) ?_
    refine xe_iload_n dX12_plain_119 rfl rfl ?_
    refine xe_imul dX12_plain_120 ?_
    refine xe_iload_n dX12_plain_121 rfl rfl ?_
    refine xe_iadd dX12_plain_122 ?_
    refine xe_aload_n dX12_plain_123 rfl rfl ?_
    obtain ⟨a51, e52, t53, hF⟩ := gR_inv hF
    refine xq_getR dX12_plain_124 fl_SeldomOpsModel_142 xk_11 e52 t53 rfl ?_
    refine xe_bipush (v := 18) dX12_plain_127 (by decide) ?_
    refine xe_iload_n dX12_plain_129 rfl rfl ?_
    refine xe_imul dX12_plain_130 ?_
    refine xe_iload_n dX12_plain_131 rfl rfl ?_
    refine xe_iadd dX12_plain_132 ?_
    obtain ⟨a55, n56, e57, t58, b59, hF⟩ := aL_inv hF
    refine xq_lald dX12_plain_133 e57 t58 b59 ?_
    refine xe_iload dX12_plain_134 rfl ?_
    refine xe_i2l dX12_plain_136 ?_
    refine xe_ladd dX12_plain_137 ?_
    refine xe_l2i dX12_plain_138 ?_
    refine xe_i2l dX12_plain_139 ?_
    obtain ⟨a61, n62, e63, t64, b65, hF⟩ := sL_inv hF
    refine xq_last dX12_plain_140 e63 t64 b65 ?_
    refine xe_goto (tgt := 152) dX12_plain_141 (by decide) ?_
    exact xe_return dX12_plain_152 (xP_ret (mk := mkV) hF)
  replace hF := if_n c45 hF
  refine xs_rest (tgt := 144) [1, 3, 4, 5, 6, 7] dX12_plain_1 (by decide) (List.forall_mem_cons.mpr ⟨c1, List.forall_mem_cons.mpr ⟨c2, List.forall_mem_cons.mpr ⟨c3, List.forall_mem_cons.mpr ⟨c10, List.forall_mem_cons.mpr ⟨c27, List.forall_mem_cons.mpr ⟨c45, fun _ h => by cases h⟩⟩⟩⟩⟩⟩) (by decide) ?_
  refine xe_aload_n dX12_plain_144 rfl rfl ?_
  refine xe_iload_n dX12_plain_145 rfl rfl ?_
  refine xe_iload_n dX12_plain_146 rfl rfl ?_
  refine xe_iload_n dX12_plain_147 rfl rfl ?_
  refine xe_i2l dX12_plain_148 ?_
  obtain ⟨a72, e70, t71, hF⟩ := rcv_inv hF
  obtain ⟨v67, h68, o69, hF⟩ := cl_inv hF
  refine xz (xq_callV (As := [.int _, .int _, .long _]) (rest := []) dX12_plain_149 mk_X12_put ⟨tw_1351, tw_1353, ts_61⟩ (ci := 11) rfl e70 t71 (FX12_put_ok o69) xP_q (by decide) (by decide) rfl rfl ?_)
  exact xe_return dX12_plain_152 (xP_ret (mk := mkV) hF)
/-! SeldomOpsModel.reckoned(JJII)J -/
def FX12_reckoned (p0 : Int64) (p1 : Int64) (p2 : Int32) (p3 : Int32) (h0 : Hp) : Option (Int64 × Hp) :=
  if (p2 : Int32) = 0 then
    some ((p0 + p1), h0)
  else
  if (p2 : Int32) = 1 then
    some ((p0 - p1), h0)
  else
  if (p2 : Int32) = 2 then
    some ((p0 * p1), h0)
  else
  if (p2 : Int32) = 3 then
    if (p1 : Int64) = 0 then none else
    some ((p0 / p1), h0)
  else
  if (p2 : Int32) = 4 then
    if (p1 : Int64) = (-1) then
      some (0, h0)
    else
      if (p1 : Int64) = 0 then none else
      some ((p0 - p0 / p1 * p1), h0)
  else
  if (p2 : Int32) = 5 then
    some ((p0 &&& p1), h0)
  else
  if (p2 : Int32) = 6 then
    some ((p0 ||| p1), h0)
  else
  if (p2 : Int32) = 7 then
    some ((p0 ^^^ p1), h0)
  else
  if (p2 : Int32) = 8 then
    if (p3 : Int32) = 0 then
      some ((Int32.toInt64 ((Int64.toInt32 p0) <<< ((Int64.toInt32 p1) &&& 31))), h0)
    else
      some ((p0 <<< (Int32.toInt64 (Int64.toInt32 p1) &&& 63)), h0)
  else
  if (p2 : Int32) = 9 then
    if (p3 : Int32) = 0 then
      some ((Int32.toInt64 ((Int64.toInt32 p0) >>> ((Int64.toInt32 p1) &&& 31))), h0)
    else
      some ((p0 >>> (Int32.toInt64 (Int64.toInt32 p1) &&& 63)), h0)
  else
  if (p2 : Int32) = 10 then
    if (p3 : Int32) = 0 then
      some ((Int32.toInt64 (Int32.toUInt32 (Int64.toInt32 p0) >>> (Int32.toUInt32 (Int64.toInt32 p1) &&& Int32.toUInt32 31)).toInt32), h0)
    else
      some ((Int64.toUInt64 p0 >>> ((Int32.toInt64 (Int64.toInt32 p1)).toUInt64 &&& Int64.toUInt64 63)).toInt64, h0)
  else
  some ((0 - p0), h0)
set_option maxRecDepth 100000 in
set_option maxHeartbeats 4000000 in
theorem FX12_reckoned_ok {G : xG} {l : Launch} {p0 : Int64} {p1 : Int64} {p2 : Int32} {p3 : Int32} {h0 h1 : Hp} {r : Int64} (hF : FX12_reckoned p0 p1 p2 p3 h0 = some (r, h1)) : xc G l mX12_reckoned 1 0 0 [.long p0, .long p1, .int p2, .int p3] h0 (xP mkL r h1) := by
  refine xo_L [.inr (.inl _), .inr (.inl _), .inl _, .inl _] (by decide) (Nat.le_of_ble_eq_true rfl) rfl ?_
  show xv _ _ _ _ _ _ _ [(0, true, .long p0), (2, true, .long p1), (4, false, .int p2), (5, false, .int p3)] _ _ _
  unfold FX12_reckoned at hF
  refine xe_iload dX12_reckoned_0 rfl ?_
  refine xs_case (j := 0) (tgt := 60) dX12_reckoned_2 (by decide) (by decide) rfl (by decide) (fun c1 => ?_) (fun c1 => ?_)
  · replace hF := if_p c1 hF
    refine xe_lload_n dX12_reckoned_60 rfl rfl ?_
    refine xe_lload_n dX12_reckoned_61 rfl rfl ?_
    refine xe_ladd dX12_reckoned_62 ?_
    exact xe_lreturn dX12_reckoned_63 (xP_ret (mk := mkL) hF)
  replace hF := if_n c1 hF
  refine xs_case (j := 1) (tgt := 64) dX12_reckoned_2 (by decide) (by decide) rfl (by decide) (fun c2 => ?_) (fun c2 => ?_)
  · replace hF := if_p c2 hF
    refine xe_lload_n dX12_reckoned_64 rfl rfl ?_
    refine xe_lload_n dX12_reckoned_65 rfl rfl ?_
    refine xe_lsub dX12_reckoned_66 ?_
    exact xe_lreturn dX12_reckoned_67 (xP_ret (mk := mkL) hF)
  replace hF := if_n c2 hF
  refine xs_case (j := 2) (tgt := 68) dX12_reckoned_2 (by decide) (by decide) rfl (by decide) (fun c3 => ?_) (fun c3 => ?_)
  · replace hF := if_p c3 hF
    refine xe_lload_n dX12_reckoned_68 rfl rfl ?_
    refine xe_lload_n dX12_reckoned_69 rfl rfl ?_
    refine xe_lmul dX12_reckoned_70 ?_
    exact xe_lreturn dX12_reckoned_71 (xP_ret (mk := mkL) hF)
  replace hF := if_n c3 hF
  refine xs_case (j := 3) (tgt := 72) dX12_reckoned_2 (by decide) (by decide) rfl (by decide) (fun c4 => ?_) (fun c4 => ?_)
  · replace hF := if_p c4 hF
    refine xe_lload_n dX12_reckoned_72 rfl rfl ?_
    refine xe_lload_n dX12_reckoned_73 rfl rfl ?_
    obtain ⟨c5, hF⟩ := dv_inv hF
    refine xe_ldiv dX12_reckoned_74 c5 ?_
    exact xe_lreturn dX12_reckoned_75 (xP_ret (mk := mkL) hF)
  replace hF := if_n c4 hF
  refine xs_case (j := 4) (tgt := 76) dX12_reckoned_2 (by decide) (by decide) rfl (by decide) (fun c6 => ?_) (fun c6 => ?_)
  · replace hF := if_p c6 hF
    refine xe_lload_n dX12_reckoned_76 rfl rfl ?_
    refine xe_ldc2 (v := (-1)) dX12_reckoned_77 tw_1209 ?_
    refine xe_lcmp dX12_reckoned_80 ?_
    refine xe_lif_ne (tgt := 88) dX12_reckoned_81 (by decide) (fun c7 => ?_) (fun c7 => ?_)
    · replace hF := if_p c7 hF
      refine xe_lconst (v := 0) dX12_reckoned_84 (by decide) ?_
      refine xe_goto (tgt := 91) dX12_reckoned_85 (by decide) ?_
      exact xe_lreturn dX12_reckoned_91 (xP_ret (mk := mkL) hF)
    · replace hF := if_n c7 hF
      refine xe_lload_n dX12_reckoned_88 rfl rfl ?_
      refine xe_lload_n dX12_reckoned_89 rfl rfl ?_
      obtain ⟨c8, hF⟩ := dv_inv hF
      refine xe_lrem dX12_reckoned_90 c8 ?_
      exact xe_lreturn dX12_reckoned_91 (xP_ret (mk := mkL) hF)
  replace hF := if_n c6 hF
  refine xs_case (j := 5) (tgt := 92) dX12_reckoned_2 (by decide) (by decide) rfl (by decide) (fun c9 => ?_) (fun c9 => ?_)
  · replace hF := if_p c9 hF
    refine xe_lload_n dX12_reckoned_92 rfl rfl ?_
    refine xe_lload_n dX12_reckoned_93 rfl rfl ?_
    refine xe_land dX12_reckoned_94 ?_
    exact xe_lreturn dX12_reckoned_95 (xP_ret (mk := mkL) hF)
  replace hF := if_n c9 hF
  refine xs_case (j := 6) (tgt := 96) dX12_reckoned_2 (by decide) (by decide) rfl (by decide) (fun c10 => ?_) (fun c10 => ?_)
  · replace hF := if_p c10 hF
    refine xe_lload_n dX12_reckoned_96 rfl rfl ?_
    refine xe_lload_n dX12_reckoned_97 rfl rfl ?_
    refine xe_lor dX12_reckoned_98 ?_
    exact xe_lreturn dX12_reckoned_99 (xP_ret (mk := mkL) hF)
  replace hF := if_n c10 hF
  refine xs_case (j := 7) (tgt := 100) dX12_reckoned_2 (by decide) (by decide) rfl (by decide) (fun c11 => ?_) (fun c11 => ?_)
  · replace hF := if_p c11 hF
    refine xe_lload_n dX12_reckoned_100 rfl rfl ?_
    refine xe_lload_n dX12_reckoned_101 rfl rfl ?_
    refine xe_lxor dX12_reckoned_102 ?_
    exact xe_lreturn dX12_reckoned_103 (xP_ret (mk := mkL) hF)
  replace hF := if_n c11 hF
  refine xs_case (j := 8) (tgt := 104) dX12_reckoned_2 (by decide) (by decide) rfl (by decide) (fun c12 => ?_) (fun c12 => ?_)
  · replace hF := if_p c12 hF
    refine xe_iload dX12_reckoned_104 rfl ?_
    refine xe_if_ne (tgt := 118) dX12_reckoned_106 (by decide) (fun c13 => ?_) (fun c13 => ?_)
    · replace hF := if_p c13 hF
      refine xe_lload_n dX12_reckoned_109 rfl rfl ?_
      refine xe_l2i dX12_reckoned_110 ?_
      refine xe_lload_n dX12_reckoned_111 rfl rfl ?_
      refine xe_l2i dX12_reckoned_112 ?_
      refine xe_ishl dX12_reckoned_113 ?_
      refine xe_i2l dX12_reckoned_114 ?_
      refine xe_goto (tgt := 122) dX12_reckoned_115 (by decide) ?_
      exact xe_lreturn dX12_reckoned_122 (xP_ret (mk := mkL) hF)
    · replace hF := if_n c13 hF
      refine xe_lload_n dX12_reckoned_118 rfl rfl ?_
      refine xe_lload_n dX12_reckoned_119 rfl rfl ?_
      refine xe_l2i dX12_reckoned_120 ?_
      refine xe_lshl dX12_reckoned_121 ?_
      exact xe_lreturn dX12_reckoned_122 (xP_ret (mk := mkL) hF)
  replace hF := if_n c12 hF
  refine xs_case (j := 9) (tgt := 123) dX12_reckoned_2 (by decide) (by decide) rfl (by decide) (fun c14 => ?_) (fun c14 => ?_)
  · replace hF := if_p c14 hF
    refine xe_iload dX12_reckoned_123 rfl ?_
    refine xe_if_ne (tgt := 137) dX12_reckoned_125 (by decide) (fun c15 => ?_) (fun c15 => ?_)
    · replace hF := if_p c15 hF
      refine xe_lload_n dX12_reckoned_128 rfl rfl ?_
      refine xe_l2i dX12_reckoned_129 ?_
      refine xe_lload_n dX12_reckoned_130 rfl rfl ?_
      refine xe_l2i dX12_reckoned_131 ?_
      refine xe_ishr dX12_reckoned_132 ?_
      refine xe_i2l dX12_reckoned_133 ?_
      refine xe_goto (tgt := 141) dX12_reckoned_134 (by decide) ?_
      exact xe_lreturn dX12_reckoned_141 (xP_ret (mk := mkL) hF)
    · replace hF := if_n c15 hF
      refine xe_lload_n dX12_reckoned_137 rfl rfl ?_
      refine xe_lload_n dX12_reckoned_138 rfl rfl ?_
      refine xe_l2i dX12_reckoned_139 ?_
      refine xe_lshr dX12_reckoned_140 ?_
      exact xe_lreturn dX12_reckoned_141 (xP_ret (mk := mkL) hF)
  replace hF := if_n c14 hF
  refine xs_case (j := 10) (tgt := 142) dX12_reckoned_2 (by decide) (by decide) rfl (by decide) (fun c16 => ?_) (fun c16 => ?_)
  · replace hF := if_p c16 hF
    refine xe_iload dX12_reckoned_142 rfl ?_
    refine xe_if_ne (tgt := 156) dX12_reckoned_144 (by decide) (fun c17 => ?_) (fun c17 => ?_)
    · replace hF := if_p c17 hF
      refine xe_lload_n dX12_reckoned_147 rfl rfl ?_
      refine xe_l2i dX12_reckoned_148 ?_
      refine xe_lload_n dX12_reckoned_149 rfl rfl ?_
      refine xe_l2i dX12_reckoned_150 ?_
      refine xe_iushr dX12_reckoned_151 ?_
      refine xe_i2l dX12_reckoned_152 ?_
      refine xe_goto (tgt := 160) dX12_reckoned_153 (by decide) ?_
      exact xe_lreturn dX12_reckoned_160 (xP_ret (mk := mkL) hF)
    · replace hF := if_n c17 hF
      refine xe_lload_n dX12_reckoned_156 rfl rfl ?_
      refine xe_lload_n dX12_reckoned_157 rfl rfl ?_
      refine xe_l2i dX12_reckoned_158 ?_
      refine xe_lushr dX12_reckoned_159 ?_
      exact xe_lreturn dX12_reckoned_160 (xP_ret (mk := mkL) hF)
  replace hF := if_n c16 hF
  refine xs_rest (tgt := 161) [0, 1, 2, 3, 4, 5, 6, 7, 8, 9, 10] dX12_reckoned_2 (by decide) (List.forall_mem_cons.mpr ⟨c1, List.forall_mem_cons.mpr ⟨c2, List.forall_mem_cons.mpr ⟨c3, List.forall_mem_cons.mpr ⟨c4, List.forall_mem_cons.mpr ⟨c6, List.forall_mem_cons.mpr ⟨c9, List.forall_mem_cons.mpr ⟨c10, List.forall_mem_cons.mpr ⟨c11, List.forall_mem_cons.mpr ⟨c12, List.forall_mem_cons.mpr ⟨c14, List.forall_mem_cons.mpr ⟨c16, fun _ h => by cases h⟩⟩⟩⟩⟩⟩⟩⟩⟩⟩⟩) (by decide) ?_
  refine xe_lload_n dX12_reckoned_161 rfl rfl ?_
  refine xe_lneg dX12_reckoned_162 ?_
  exact xe_lreturn dX12_reckoned_163 (xP_ret (mk := mkL) hF)
/-! SeldomOpsModel.fail(I)V -/
def FX12_fail (p0 : Option Nat) (p1 : Int32) (h0 : Hp) : Option (Unit × Hp) :=
  pI h0 p0 11 64 p1 fun h4 =>
  some ((), h4)
set_option maxRecDepth 100000 in
set_option maxHeartbeats 4000000 in
theorem FX12_fail_ok {G : xG} {l : Launch} {p0 : Option Nat} {p1 : Int32} {h0 h1 : Hp} {r : Unit} (hF : FX12_fail p0 p1 h0 = some (r, h1)) : xc G l mX12_fail 1 0 0 [va_rf p0, .int p1] h0 (xP mkV r h1) := by
  refine xo_V [.inr (.inr _), .inl _] (by decide) (Nat.le_of_ble_eq_true rfl) rfl ?_
  show xv _ _ _ _ _ _ _ [(0, false, va_rf p0), (1, false, .int p1)] _ _ _
  unfold FX12_fail at hF
  refine xe_aload_n dX12_fail_0 rfl rfl ?_
  refine xe_iload_n dX12_fail_1 rfl rfl ?_
  obtain ⟨a1, e2, t3, hF⟩ := pI_inv hF
  refine xq_putI dX12_fail_2 fl_SeldomOpsModel_330 xk_11 (by decide) (fun z => by cases z) e2 t3 (Or.inl rfl) ?_
  exact xe_return dX12_fail_5 (xP_ret (mk := mkV) hF)
/-! SeldomOpsModel.narrow(JI)J -/
def FX12_narrow (p0 : Int64) (p1 : Int32) (h0 : Hp) : Option (Int64 × Hp) :=
  if (p1 : Int32) = 0 then
    some ((Int32.toInt64 (((Int64.toInt32 p0) <<< (24 &&& 31)) >>> (24 &&& 31))), h0)
  else
    if (p1 : Int32) = 1 then
      some ((Int32.toInt64 (((Int64.toInt32 p0) <<< (16 &&& 31)) >>> (16 &&& 31))), h0)
    else
      some ((Int32.toInt64 ((Int64.toInt32 p0) &&& 65535)), h0)
set_option maxRecDepth 100000 in
set_option maxHeartbeats 4000000 in
theorem FX12_narrow_ok {G : xG} {l : Launch} {p0 : Int64} {p1 : Int32} {h0 h1 : Hp} {r : Int64} (hF : FX12_narrow p0 p1 h0 = some (r, h1)) : xc G l mX12_narrow 1 0 0 [.long p0, .int p1] h0 (xP mkL r h1) := by
  refine xo_L [.inr (.inl _), .inl _] (by decide) (Nat.le_of_ble_eq_true rfl) rfl ?_
  show xv _ _ _ _ _ _ _ [(0, true, .long p0), (2, false, .int p1)] _ _ _
  unfold FX12_narrow at hF
  refine xe_lload_n dX12_narrow_0 rfl rfl ?_
  refine xe_l2i dX12_narrow_1 ?_
  refine xe_istore_n dX12_narrow_2 rfl (by decide) ?_
  refine xe_iload_n dX12_narrow_3 rfl rfl ?_
  refine xe_if_ne (tgt := 18) dX12_narrow_4 (by decide) (fun c1 => ?_) (fun c1 => ?_)
  · replace hF := if_p c1 hF
    refine xe_iload_n dX12_narrow_7 rfl rfl ?_
    refine xe_bipush (v := 24) dX12_narrow_8 (by decide) ?_
    refine xe_ishl dX12_narrow_10 ?_
    refine xe_bipush (v := 24) dX12_narrow_11 (by decide) ?_
    refine xe_ishr dX12_narrow_13 ?_
    refine xe_i2l dX12_narrow_14 ?_
    refine xe_goto (tgt := 40) dX12_narrow_15 (by decide) ?_
    exact xe_lreturn dX12_narrow_40 (xP_ret (mk := mkL) hF)
  · replace hF := if_n c1 hF
    refine xe_iload_n dX12_narrow_18 rfl rfl ?_
    refine xe_iconst (v := 1) dX12_narrow_19 (by decide) ?_
    refine xe_icmp_ne (tgt := 34) dX12_narrow_20 (by decide) (fun c2 => ?_) (fun c2 => ?_)
    · replace hF := if_p c2 hF
      refine xe_iload_n dX12_narrow_23 rfl rfl ?_
      refine xe_bipush (v := 16) dX12_narrow_24 (by decide) ?_
      refine xe_ishl dX12_narrow_26 ?_
      refine xe_bipush (v := 16) dX12_narrow_27 (by decide) ?_
      refine xe_ishr dX12_narrow_29 ?_
      refine xe_i2l dX12_narrow_30 ?_
      refine xe_goto (tgt := 40) dX12_narrow_31 (by decide) ?_
      exact xe_lreturn dX12_narrow_40 (xP_ret (mk := mkL) hF)
    · replace hF := if_n c2 hF
      refine xe_iload_n dX12_narrow_34 rfl rfl ?_
      refine xe_ldcw (v := 65535) dX12_narrow_35 tw_1373 ?_
      refine xe_iand dX12_narrow_38 ?_
      refine xe_i2l dX12_narrow_39 ?_
      exact xe_lreturn dX12_narrow_40 (xP_ret (mk := mkL) hF)
/-! SeldomOpsModel.isNone(JZ)Z -/
def BX12_isNone_27 (x0 : Int64) (x3 : Int64) (s0 : Int64) (h0 : Hp) : Option (Int32 × Hp) :=
  if ((x0 &&& x3) : Int64) = x3 then
    if ((x0 &&& s0) : Int64) = 0 then
      bz 0 (some (0, h0))
    else
      bz 1 (some (1, h0))
  else
    bz 0 (some (0, h0))
set_option maxRecDepth 100000 in
set_option maxHeartbeats 4000000 in
theorem BX12_isNone_27_ok {G : xG} {l : Launch} {x0 : Int64} {x3 : Int64} {s0 : Int64} {h0 h1 : Hp} {r : Int32} (hF : BX12_isNone_27 x0 x3 s0 h0 = some (r, h1)) : xv G l mX12_isNone 1 0 0 27 [(0, true, .long x0), (3, true, .long x3)] [.long s0] h0 (xPZ r h1) := by
  unfold BX12_isNone_27 at hF
  refine xe_lstore dX12_isNone_27 (by decide) ?_
  refine xe_lload_n dX12_isNone_29 rfl rfl ?_
  refine xe_lload_n dX12_isNone_30 rfl rfl ?_
  refine xe_land dX12_isNone_31 ?_
  refine xe_lload_n dX12_isNone_32 rfl rfl ?_
  refine xe_lcmp dX12_isNone_33 ?_
  refine xe_lif_ne (tgt := 50) dX12_isNone_34 (by decide) (fun c1 => ?_) (fun c1 => ?_)
  · replace hF := if_p c1 hF
    refine xe_lload_n dX12_isNone_37 rfl rfl ?_
    refine xe_lload dX12_isNone_38 rfl ?_
    refine xe_land dX12_isNone_40 ?_
    refine xe_lconst (v := 0) dX12_isNone_41 (by decide) ?_
    refine xe_lcmp dX12_isNone_42 ?_
    refine xe_lif_eq (tgt := 50) dX12_isNone_43 (by decide) (fun c2 => ?_) (fun c2 => ?_)
    · replace hF := if_p c2 hF
      refine xe_iconst (v := 0) dX12_isNone_50 (by decide) ?_
      obtain ⟨z3, hF⟩ := bz_inv hF
      exact xe_ireturn dX12_isNone_51 (xPZ_ret z3 hF)
    · replace hF := if_n c2 hF
      refine xe_iconst (v := 1) dX12_isNone_46 (by decide) ?_
      refine xe_goto (tgt := 51) dX12_isNone_47 (by decide) ?_
      obtain ⟨z4, hF⟩ := bz_inv hF
      exact xe_ireturn dX12_isNone_51 (xPZ_ret z4 hF)
  · replace hF := if_n c1 hF
    refine xe_iconst (v := 0) dX12_isNone_50 (by decide) ?_
    obtain ⟨z5, hF⟩ := bz_inv hF
    exact xe_ireturn dX12_isNone_51 (xPZ_ret z5 hF)
def BX12_isNone_13 (x0 : Int64) (x2 : Int32) (s0 : Int64) (h0 : Hp) : Option (Int32 × Hp) :=
  if (x2 : Int32) = 0 then
    BX12_isNone_27 x0 s0 8388607 h0
  else
    BX12_isNone_27 x0 s0 4503599627370495 h0
set_option maxRecDepth 100000 in
set_option maxHeartbeats 4000000 in
theorem BX12_isNone_13_ok {G : xG} {l : Launch} {x0 : Int64} {x2 : Int32} {s0 : Int64} {h0 h1 : Hp} {r : Int32} (hF : BX12_isNone_13 x0 x2 s0 h0 = some (r, h1)) : xv G l mX12_isNone 1 0 0 13 [(0, true, .long x0), (2, false, .int x2)] [.long s0] h0 (xPZ r h1) := by
  unfold BX12_isNone_13 at hF
  refine xe_lstore_n dX12_isNone_13 rfl (by decide) ?_
  refine xe_iload_n dX12_isNone_14 rfl rfl ?_
  refine xe_if_eq (tgt := 24) dX12_isNone_15 (by decide) (fun c1 => ?_) (fun c1 => ?_)
  · replace hF := if_p c1 hF
    refine xe_ldc2 (v := 8388607) dX12_isNone_24 tw_1383 ?_
    exact xv.lv (BX12_isNone_27_ok hF) (xsub_cons rfl (xsub_cons rfl xsub_nil))
  · replace hF := if_n c1 hF
    refine xe_ldc2 (v := 4503599627370495) dX12_isNone_18 tw_1382 ?_
    refine xe_goto (tgt := 27) dX12_isNone_21 (by decide) ?_
    exact xv.lv (BX12_isNone_27_ok hF) (xsub_cons rfl (xsub_cons rfl xsub_nil))
def FX12_isNone (p0 : Int64) (p1 : Int32) (h0 : Hp) : Option (Int32 × Hp) :=
  if (p1 : Int32) = 0 then
    BX12_isNone_13 p0 p1 2139095040 h0
  else
    BX12_isNone_13 p0 p1 9218868437227405312 h0
set_option maxRecDepth 100000 in
set_option maxHeartbeats 4000000 in
theorem FX12_isNone_ok {G : xG} {l : Launch} {p0 : Int64} {p1 : Int32} {h0 h1 : Hp} {r : Int32} (hF : FX12_isNone p0 p1 h0 = some (r, h1)) : xc G l mX12_isNone 1 0 0 [.long p0, .int p1] h0 (xPZ r h1) := by
  refine xo_Z [.inr (.inl _), .inl _] (by decide) (Nat.le_of_ble_eq_true rfl) rfl ?_
  show xv _ _ _ _ _ _ _ [(0, true, .long p0), (2, false, .int p1)] _ _ _
  unfold FX12_isNone at hF
  refine xe_iload_n dX12_isNone_0 rfl rfl ?_
  refine xe_if_eq (tgt := 10) dX12_isNone_1 (by decide) (fun c1 => ?_) (fun c1 => ?_)
  · replace hF := if_p c1 hF
    refine xe_ldc2 (v := 2139095040) dX12_isNone_10 tw_1381 ?_
    exact xv.lv (BX12_isNone_13_ok hF) (xsub_cons rfl (xsub_cons rfl xsub_nil))
  · replace hF := if_n c1 hF
    refine xe_ldc2 (v := 9218868437227405312) dX12_isNone_4 tw_1380 ?_
    refine xe_goto (tgt := 13) dX12_isNone_7 (by decide) ?_
    exact xv.lv (BX12_isNone_13_ok hF) (xsub_cons rfl (xsub_cons rfl xsub_nil))
/-! SeldomOpsModel.inOrder(JZ)J -/
def BX12_inOrder_14 (x0 : Int64) (s0 : Int64) (s1 : Int64) (h0 : Hp) : Option (Int64 × Hp) :=
  if (x0 : Int64) < 0 then
    some ((0 - (s0 &&& s1)), h0)
  else
    some ((s0 &&& s1), h0)
set_option maxRecDepth 100000 in
set_option maxHeartbeats 4000000 in
theorem BX12_inOrder_14_ok {G : xG} {l : Launch} {x0 : Int64} {s0 : Int64} {s1 : Int64} {h0 h1 : Hp} {r : Int64} (hF : BX12_inOrder_14 x0 s0 s1 h0 = some (r, h1)) : xv G l mX12_inOrder 1 0 0 14 [(0, true, .long x0)] [.long s1, .long s0] h0 (xP mkL r h1) := by
  unfold BX12_inOrder_14 at hF
  refine xe_land dX12_inOrder_14 ?_
  refine xe_lstore_n dX12_inOrder_15 rfl (by decide) ?_
  refine xe_lload_n dX12_inOrder_16 rfl rfl ?_
  refine xe_lconst (v := 0) dX12_inOrder_17 (by decide) ?_
  refine xe_lcmp dX12_inOrder_18 ?_
  refine xe_lif_ge (tgt := 27) dX12_inOrder_19 (by decide) (fun c1 => ?_) (fun c1 => ?_)
  · replace hF := if_p c1 hF
    refine xe_lload_n dX12_inOrder_22 rfl rfl ?_
    refine xe_lneg dX12_inOrder_23 ?_
    refine xe_goto (tgt := 28) dX12_inOrder_24 (by decide) ?_
    exact xe_lreturn dX12_inOrder_28 (xP_ret (mk := mkL) hF)
  · replace hF := if_n c1 hF
    refine xe_lload_n dX12_inOrder_27 rfl rfl ?_
    exact xe_lreturn dX12_inOrder_28 (xP_ret (mk := mkL) hF)
def FX12_inOrder (p0 : Int64) (p1 : Int32) (h0 : Hp) : Option (Int64 × Hp) :=
  if (p1 : Int32) = 0 then
    BX12_inOrder_14 p0 p0 2147483647 h0
  else
    BX12_inOrder_14 p0 p0 9223372036854775807 h0
set_option maxRecDepth 100000 in
set_option maxHeartbeats 4000000 in
theorem FX12_inOrder_ok {G : xG} {l : Launch} {p0 : Int64} {p1 : Int32} {h0 h1 : Hp} {r : Int64} (hF : FX12_inOrder p0 p1 h0 = some (r, h1)) : xc G l mX12_inOrder 1 0 0 [.long p0, .int p1] h0 (xP mkL r h1) := by
  refine xo_L [.inr (.inl _), .inl _] (by decide) (Nat.le_of_ble_eq_true rfl) rfl ?_
  show xv _ _ _ _ _ _ _ [(0, true, .long p0), (2, false, .int p1)] _ _ _
  unfold FX12_inOrder at hF
  refine xe_lload_n dX12_inOrder_0 rfl rfl ?_
  refine xe_iload_n dX12_inOrder_1 rfl rfl ?_
  refine xe_if_eq (tgt := 11) dX12_inOrder_2 (by decide) (fun c1 => ?_) (fun c1 => ?_)
  · replace hF := if_p c1 hF
    refine xe_ldc2 (v := 2147483647) dX12_inOrder_11 tw_1388 ?_
    exact xv.lv (BX12_inOrder_14_ok hF) (xsub_cons rfl xsub_nil)
  · replace hF := if_n c1 hF
    refine xe_ldc2 (v := 9223372036854775807) dX12_inOrder_5 tw_1387 ?_
    refine xe_goto (tgt := 14) dX12_inOrder_8 (by decide) ?_
    exact xv.lv (BX12_inOrder_14_ok hF) (xsub_cons rfl xsub_nil)
/-! SeldomOpsModel.compared(JJI)I -/
def BX12_compared_41 (x4 : Int32) (h0 : Hp) : Option (Int32 × Hp) :=
  if ((x4 - x4 / 2 * 2) : Int32) = 1 then
    some ((-1), h0)
  else
    some (1, h0)
set_option maxRecDepth 100000 in
set_option maxHeartbeats 4000000 in
theorem BX12_compared_41_ok {G : xG} {l : Launch} {x4 : Int32} {h0 h1 : Hp} {r : Int32} (hF : BX12_compared_41 x4 h0 = some (r, h1)) : xv G l mX12_compared 2 0 0 41 [(4, false, .int x4)] [] h0 (xP mkI r h1) := by
  unfold BX12_compared_41 at hF
  refine xe_iload dX12_compared_41 rfl ?_
  refine xe_iconst (v := 2) dX12_compared_43 (by decide) ?_
  refine xe_irem dX12_compared_44 (by decide) ?_
  refine xe_iconst (v := 1) dX12_compared_45 (by decide) ?_
  refine xe_icmp_ne (tgt := 53) dX12_compared_46 (by decide) (fun c2 => ?_) (fun c2 => ?_)
  · replace hF := if_p c2 hF
    refine xe_iconst (v := (-1)) dX12_compared_49 (by decide) ?_
    refine xe_goto (tgt := 54) dX12_compared_50 (by decide) ?_
    exact xe_ireturn dX12_compared_54 (xP_ret (mk := mkI) hF)
  · replace hF := if_n c2 hF
    refine xe_iconst (v := 1) dX12_compared_53 (by decide) ?_
    exact xe_ireturn dX12_compared_54 (xP_ret (mk := mkI) hF)
def BX12_compared_105 (x5 : Int64) (s0 : Int64) (h0 : Hp) : Option (Int32 × Hp) :=
  if (x5 : Int64) < s0 then
    some ((-1), h0)
  else
    if (s0 : Int64) < x5 then
      some (1, h0)
    else
      some (0, h0)
set_option maxRecDepth 100000 in
set_option maxHeartbeats 4000000 in
theorem BX12_compared_105_ok {G : xG} {l : Launch} {x5 : Int64} {s0 : Int64} {h0 h1 : Hp} {r : Int32} (hF : BX12_compared_105 x5 s0 h0 = some (r, h1)) : xv G l mX12_compared 2 0 0 105 [(5, true, .long x5)] [.long s0] h0 (xP mkI r h1) := by
  unfold BX12_compared_105 at hF
  refine xe_lstore dX12_compared_105 (by decide) ?_
  refine xe_lload dX12_compared_107 rfl ?_
  refine xe_lload dX12_compared_109 rfl ?_
  refine xe_lcmp dX12_compared_111 ?_
  refine xe_lif_ge (tgt := 119) dX12_compared_112 (by decide) (fun c1 => ?_) (fun c1 => ?_)
  · replace hF := if_p c1 hF
    refine xe_iconst (v := (-1)) dX12_compared_115 (by decide) ?_
    refine xe_goto (tgt := 132) dX12_compared_116 (by decide) ?_
    exact xe_ireturn dX12_compared_132 (xP_ret (mk := mkI) hF)
  · replace hF := if_n c1 hF
    refine xe_lload dX12_compared_119 rfl ?_
    refine xe_lload dX12_compared_121 rfl ?_
    refine xe_lcmp dX12_compared_123 ?_
    refine xe_lif_le (tgt := 131) dX12_compared_124 (by decide) (fun c2 => ?_) (fun c2 => ?_)
    · replace hF := if_p c2 hF
      refine xe_iconst (v := 1) dX12_compared_127 (by decide) ?_
      refine xe_goto (tgt := 132) dX12_compared_128 (by decide) ?_
      exact xe_ireturn dX12_compared_132 (xP_ret (mk := mkI) hF)
    · replace hF := if_n c2 hF
      refine xe_iconst (v := 0) dX12_compared_131 (by decide) ?_
      exact xe_ireturn dX12_compared_132 (xP_ret (mk := mkI) hF)
def BX12_compared_102 (x5 : Int64) (s0 : Int64) (s1 : Int32) (h0 : Hp) : Option (Int32 × Hp) :=
  cl (FX12_inOrder s0 s1 h0) fun v1 h2 =>
  BX12_compared_105 x5 v1 h2
set_option maxRecDepth 100000 in
set_option maxHeartbeats 4000000 in
theorem BX12_compared_102_ok {G : xG} {l : Launch} {x5 : Int64} {s0 : Int64} {s1 : Int32} {h0 h1 : Hp} {r : Int32} (hF : BX12_compared_102 x5 s0 s1 h0 = some (r, h1)) : xv G l mX12_compared 2 0 0 102 [(5, true, .long x5)] [.int s1, .long s0] h0 (xP mkI r h1) := by
  unfold BX12_compared_102 at hF
  obtain ⟨v1, h2, o3, hF⟩ := cl_inv hF
  refine xz (xq_callS (As := [.long _, .int _]) (rest := []) dX12_compared_102 mk_X12_inOrder ⟨tw_1384, tw_1385⟩ (FX12_inOrder_ok o3) xP_q (by decide) (by decide) rfl rfl ?_)
  exact xv.lv (BX12_compared_105_ok hF) (xsub_cons rfl xsub_nil)
def BX12_compared_79 (x2 : Int64) (x4 : Int32) (s0 : Int64) (h0 : Hp) : Option (Int32 × Hp) :=
  if (x4 : Int32) = 0 then
    BX12_compared_105 s0 x2 h0
  else
    if (2 : Int32) < x4 then
      BX12_compared_102 s0 x2 1 h0
    else
      BX12_compared_102 s0 x2 0 h0
set_option maxRecDepth 100000 in
set_option maxHeartbeats 4000000 in
theorem BX12_compared_79_ok {G : xG} {l : Launch} {x2 : Int64} {x4 : Int32} {s0 : Int64} {h0 h1 : Hp} {r : Int32} (hF : BX12_compared_79 x2 x4 s0 h0 = some (r, h1)) : xv G l mX12_compared 2 0 0 79 [(2, true, .long x2), (4, false, .int x4)] [.long s0] h0 (xP mkI r h1) := by
  unfold BX12_compared_79 at hF
  refine xe_lstore dX12_compared_79 (by decide) ?_
  refine xe_iload dX12_compared_81 rfl ?_
  refine xe_if_ne (tgt := 90) dX12_compared_83 (by decide) (fun c1 => ?_) (fun c1 => ?_)
  · replace hF := if_p c1 hF
    refine xe_lload_n dX12_compared_86 rfl rfl ?_
    refine xe_goto (tgt := 105) dX12_compared_87 (by decide) ?_
    exact xv.lv (BX12_compared_105_ok hF) (xsub_cons rfl xsub_nil)
  · replace hF := if_n c1 hF
    refine xe_lload_n dX12_compared_90 rfl rfl ?_
    refine xe_iload dX12_compared_91 rfl ?_
    refine xe_iconst (v := 2) dX12_compared_93 (by decide) ?_
    refine xe_icmp_le (tgt := 101) dX12_compared_94 (by decide) (fun c2 => ?_) (fun c2 => ?_)
    · replace hF := if_p c2 hF
      refine xe_iconst (v := 1) dX12_compared_97 (by decide) ?_
      refine xe_goto (tgt := 102) dX12_compared_98 (by decide) ?_
      exact xv.lv (BX12_compared_102_ok hF) (xsub_cons rfl xsub_nil)
    · replace hF := if_n c2 hF
      refine xe_iconst (v := 0) dX12_compared_101 (by decide) ?_
      exact xv.lv (BX12_compared_102_ok hF) (xsub_cons rfl xsub_nil)
def BX12_compared_76 (x2 : Int64) (x4 : Int32) (s0 : Int64) (s1 : Int32) (h0 : Hp) : Option (Int32 × Hp) :=
  cl (FX12_inOrder s0 s1 h0) fun v1 h2 =>
  BX12_compared_79 x2 x4 v1 h2
set_option maxRecDepth 100000 in
set_option maxHeartbeats 4000000 in
theorem BX12_compared_76_ok {G : xG} {l : Launch} {x2 : Int64} {x4 : Int32} {s0 : Int64} {s1 : Int32} {h0 h1 : Hp} {r : Int32} (hF : BX12_compared_76 x2 x4 s0 s1 h0 = some (r, h1)) : xv G l mX12_compared 2 0 0 76 [(2, true, .long x2), (4, false, .int x4)] [.int s1, .long s0] h0 (xP mkI r h1) := by
  unfold BX12_compared_76 at hF
  obtain ⟨v1, h2, o3, hF⟩ := cl_inv hF
  refine xz (xq_callS (As := [.long _, .int _]) (rest := []) dX12_compared_76 mk_X12_inOrder ⟨tw_1384, tw_1385⟩ (FX12_inOrder_ok o3) xP_q (by decide) (by decide) rfl rfl ?_)
  exact xv.lv (BX12_compared_79_ok hF) (xsub_cons rfl (xsub_cons rfl xsub_nil))
def BX12_compared_55 (x0 : Int64) (x2 : Int64) (x4 : Int32) (h0 : Hp) : Option (Int32 × Hp) :=
  if (x4 : Int32) = 0 then
    BX12_compared_79 x2 x4 x0 h0
  else
    if (2 : Int32) < x4 then
      BX12_compared_76 x2 x4 x0 1 h0
    else
      BX12_compared_76 x2 x4 x0 0 h0
set_option maxRecDepth 100000 in
set_option maxHeartbeats 4000000 in
theorem BX12_compared_55_ok {G : xG} {l : Launch} {x0 : Int64} {x2 : Int64} {x4 : Int32} {h0 h1 : Hp} {r : Int32} (hF : BX12_compared_55 x0 x2 x4 h0 = some (r, h1)) : xv G l mX12_compared 2 0 0 55 [(0, true, .long x0), (2, true, .long x2), (4, false, .int x4)] [] h0 (xP mkI r h1) := by
  unfold BX12_compared_55 at hF
  refine xe_iload dX12_compared_55 rfl ?_
  refine xe_if_ne (tgt := 64) dX12_compared_57 (by decide) (fun c1 => ?_) (fun c1 => ?_)
  · replace hF := if_p c1 hF
    refine xe_lload_n dX12_compared_60 rfl rfl ?_
    refine xe_goto (tgt := 79) dX12_compared_61 (by decide) ?_
    exact xv.lv (BX12_compared_79_ok hF) (xsub_cons rfl (xsub_cons rfl xsub_nil))
  · replace hF := if_n c1 hF
    refine xe_lload_n dX12_compared_64 rfl rfl ?_
    refine xe_iload dX12_compared_65 rfl ?_
    refine xe_iconst (v := 2) dX12_compared_67 (by decide) ?_
    refine xe_icmp_le (tgt := 75) dX12_compared_68 (by decide) (fun c2 => ?_) (fun c2 => ?_)
    · replace hF := if_p c2 hF
      refine xe_iconst (v := 1) dX12_compared_71 (by decide) ?_
      refine xe_goto (tgt := 76) dX12_compared_72 (by decide) ?_
      exact xv.lv (BX12_compared_76_ok hF) (xsub_cons rfl (xsub_cons rfl xsub_nil))
    · replace hF := if_n c2 hF
      refine xe_iconst (v := 0) dX12_compared_75 (by decide) ?_
      exact xv.lv (BX12_compared_76_ok hF) (xsub_cons rfl (xsub_cons rfl xsub_nil))
def BX12_compared_35 (x0 : Int64) (x2 : Int64) (x4 : Int32) (s0 : Int64) (s1 : Int32) (h0 : Hp) : Option (Int32 × Hp) :=
  cl (FX12_isNone s0 s1 h0) fun v1 h2 =>
  if (v1 : Int32) = 0 then
    BX12_compared_55 x0 x2 x4 h2
  else
    BX12_compared_41 x4 h2
set_option maxRecDepth 100000 in
set_option maxHeartbeats 4000000 in
theorem BX12_compared_35_ok {G : xG} {l : Launch} {x0 : Int64} {x2 : Int64} {x4 : Int32} {s0 : Int64} {s1 : Int32} {h0 h1 : Hp} {r : Int32} (hF : BX12_compared_35 x0 x2 x4 s0 s1 h0 = some (r, h1)) : xv G l mX12_compared 2 0 0 35 [(0, true, .long x0), (2, true, .long x2), (4, false, .int x4)] [.int s1, .long s0] h0 (xP mkI r h1) := by
  unfold BX12_compared_35 at hF
  obtain ⟨v1, h2, o3, hF⟩ := cl_inv hF
  refine xz (xq_callS (As := [.long _, .int _]) (rest := []) dX12_compared_35 mk_X12_isNone ⟨tw_1377, tw_1378⟩ (FX12_isNone_ok o3) xPZ_q (by decide) (by decide) rfl rfl ?_)
  refine xe_if_eq (tgt := 55) dX12_compared_38 (by decide) (fun c4 => ?_) (fun c4 => ?_)
  · replace hF := if_p c4 hF
    exact xv.lv (BX12_compared_55_ok hF) (xsub_cons rfl (xsub_cons rfl (xsub_cons rfl xsub_nil)))
  · replace hF := if_n c4 hF
    exact xv.lv (BX12_compared_41_ok hF) (xsub_cons rfl xsub_nil)
def BX12_compared_17 (x0 : Int64) (x2 : Int64) (x4 : Int32) (s0 : Int64) (s1 : Int32) (h0 : Hp) : Option (Int32 × Hp) :=
  cl (FX12_isNone s0 s1 h0) fun v1 h2 =>
  if (v1 : Int32) = 0 then
    if (2 : Int32) < x4 then
      BX12_compared_35 x0 x2 x4 x2 1 h2
    else
      BX12_compared_35 x0 x2 x4 x2 0 h2
  else
    BX12_compared_41 x4 h2
set_option maxRecDepth 100000 in
set_option maxHeartbeats 4000000 in
theorem BX12_compared_17_ok {G : xG} {l : Launch} {x0 : Int64} {x2 : Int64} {x4 : Int32} {s0 : Int64} {s1 : Int32} {h0 h1 : Hp} {r : Int32} (hF : BX12_compared_17 x0 x2 x4 s0 s1 h0 = some (r, h1)) : xv G l mX12_compared 2 0 0 17 [(0, true, .long x0), (2, true, .long x2), (4, false, .int x4)] [.int s1, .long s0] h0 (xP mkI r h1) := by
  unfold BX12_compared_17 at hF
  obtain ⟨v1, h2, o3, hF⟩ := cl_inv hF
  refine xz (xq_callS (As := [.long _, .int _]) (rest := []) dX12_compared_17 mk_X12_isNone ⟨tw_1377, tw_1378⟩ (FX12_isNone_ok o3) xPZ_q (by decide) (by decide) rfl rfl ?_)
  refine xe_if_ne (tgt := 41) dX12_compared_20 (by decide) (fun c4 => ?_) (fun c4 => ?_)
  · replace hF := if_p c4 hF
    refine xe_lload_n dX12_compared_23 rfl rfl ?_
    refine xe_iload dX12_compared_24 rfl ?_
    refine xe_iconst (v := 2) dX12_compared_26 (by decide) ?_
    refine xe_icmp_le (tgt := 34) dX12_compared_27 (by decide) (fun c5 => ?_) (fun c5 => ?_)
    · replace hF := if_p c5 hF
      refine xe_iconst (v := 1) dX12_compared_30 (by decide) ?_
      refine xe_goto (tgt := 35) dX12_compared_31 (by decide) ?_
      exact xv.lv (BX12_compared_35_ok hF) (xsub_cons rfl (xsub_cons rfl (xsub_cons rfl xsub_nil)))
    · replace hF := if_n c5 hF
      refine xe_iconst (v := 0) dX12_compared_34 (by decide) ?_
      exact xv.lv (BX12_compared_35_ok hF) (xsub_cons rfl (xsub_cons rfl (xsub_cons rfl xsub_nil)))
  · replace hF := if_n c4 hF
    exact xv.lv (BX12_compared_41_ok hF) (xsub_cons rfl xsub_nil)
def FX12_compared (p0 : Int64) (p1 : Int64) (p2 : Int32) (h0 : Hp) : Option (Int32 × Hp) :=
  if (0 : Int32) < p2 then
    if (2 : Int32) < p2 then
      BX12_compared_17 p0 p1 p2 p0 1 h0
    else
      BX12_compared_17 p0 p1 p2 p0 0 h0
  else
    BX12_compared_55 p0 p1 p2 h0
set_option maxRecDepth 100000 in
set_option maxHeartbeats 4000000 in
theorem FX12_compared_ok {G : xG} {l : Launch} {p0 : Int64} {p1 : Int64} {p2 : Int32} {h0 h1 : Hp} {r : Int32} (hF : FX12_compared p0 p1 p2 h0 = some (r, h1)) : xc G l mX12_compared 2 0 0 [.long p0, .long p1, .int p2] h0 (xP mkI r h1) := by
  refine xo_I [.inr (.inl _), .inr (.inl _), .inl _] (by decide) (Nat.le_of_ble_eq_true rfl) rfl ?_
  show xv _ _ _ _ _ _ _ [(0, true, .long p0), (2, true, .long p1), (4, false, .int p2)] _ _ _
  unfold FX12_compared at hF
  refine xe_iload dX12_compared_0 rfl ?_
  refine xe_if_le (tgt := 55) dX12_compared_2 (by decide) (fun c1 => ?_) (fun c1 => ?_)
  · replace hF := if_p c1 hF
    refine xe_lload_n dX12_compared_5 rfl rfl ?_
    refine xe_iload dX12_compared_6 rfl ?_
    refine xe_iconst (v := 2) dX12_compared_8 (by decide) ?_
    refine xe_icmp_le (tgt := 16) dX12_compared_9 (by decide) (fun c2 => ?_) (fun c2 => ?_)
    · replace hF := if_p c2 hF
      refine xe_iconst (v := 1) dX12_compared_12 (by decide) ?_
      refine xe_goto (tgt := 17) dX12_compared_13 (by decide) ?_
      exact xv.lv (BX12_compared_17_ok hF) (xsub_cons rfl (xsub_cons rfl (xsub_cons rfl xsub_nil)))
    · replace hF := if_n c2 hF
      refine xe_iconst (v := 0) dX12_compared_16 (by decide) ?_
      exact xv.lv (BX12_compared_17_ok hF) (xsub_cons rfl (xsub_cons rfl (xsub_cons rfl xsub_nil)))
  · replace hF := if_n c1 hF
    exact xv.lv (BX12_compared_55_ok hF) (xsub_cons rfl (xsub_cons rfl (xsub_cons rfl xsub_nil)))
/-! SeldomOpsModel.number3(IIII)V -/
def BX12_number3_97 (s0 : Option Nat) (s1 : Int32) (s2 : Int32) (s3 : Int64) (h0 : Hp) : Option (Unit × Hp) :=
  rcv h0 s0 11 <|
  cl (FX12_put s0 s1 s2 s3 h0) fun v1 h2 =>
  some ((), h2)
set_option maxRecDepth 100000 in
set_option maxHeartbeats 4000000 in
theorem BX12_number3_97_ok {G : xG} {l : Launch} {s0 : Option Nat} {s1 : Int32} {s2 : Int32} {s3 : Int64} {h0 h1 : Hp} {r : Unit} (hF : BX12_number3_97 s0 s1 s2 s3 h0 = some (r, h1)) : xv G l mX12_number3 3 0 0 97 [] [.long s3, .int s2, .int s1, va_rf s0] h0 (xP mkV r h1) := by
  unfold BX12_number3_97 at hF
  obtain ⟨a6, e4, t5, hF⟩ := rcv_inv hF
  obtain ⟨v1, h2, o3, hF⟩ := cl_inv hF
  refine xz (xq_callV (As := [.int _, .int _, .long _]) (rest := []) dX12_number3_97 mk_X12_put ⟨tw_1351, tw_1353, ts_61⟩ (ci := 11) rfl e4 t5 (FX12_put_ok o3) xP_q (by decide) (by decide) rfl rfl ?_)
  refine xe_goto (tgt := 225) dX12_number3_100 (by decide) ?_
  exact xe_return dX12_number3_225 (xP_ret (mk := mkV) hF)
def BX12_number3_67 (x0 : Option Nat) (x1 : Int32) (x3 : Int32) (x4 : Int32) (x5 : Int64) (x7 : Int64) (h0 : Hp) : Option (Unit × Hp) :=
  cl (FX12_reckoned x7 x5 x3 x4 h0) fun v1 h2 =>
  if (x4 : Int32) = 0 then
    BX12_number3_97 x0 x1 x4 (Int32.toInt64 (Int64.toInt32 v1)) h2
  else
    BX12_number3_97 x0 x1 x4 v1 h2
set_option maxRecDepth 100000 in
set_option maxHeartbeats 4000000 in
theorem BX12_number3_67_ok {G : xG} {l : Launch} {x0 : Option Nat} {x1 : Int32} {x3 : Int32} {x4 : Int32} {x5 : Int64} {x7 : Int64} {h0 h1 : Hp} {r : Unit} (hF : BX12_number3_67 x0 x1 x3 x4 x5 x7 h0 = some (r, h1)) : xv G l mX12_number3 3 0 0 67 [(0, false, va_rf x0), (1, false, .int x1), (3, false, .int x3), (4, false, .int x4), (5, true, .long x5), (7, true, .long x7)] [] h0 (xP mkV r h1) := by
  unfold BX12_number3_67 at hF
  refine xe_lload dX12_number3_67 rfl ?_
  refine xe_lload dX12_number3_69 rfl ?_
  refine xe_iload_n dX12_number3_71 rfl rfl ?_
  refine xe_iload dX12_number3_72 rfl ?_
  obtain ⟨v1, h2, o3, hF⟩ := cl_inv hF
  refine xz (xq_callS (As := [.long _, .long _, .int _, .int _]) (rest := []) dX12_number3_74 mk_X12_reckoned ⟨tw_1367, tw_1368⟩ (FX12_reckoned_ok o3) xP_q (by decide) (by decide) rfl rfl ?_)
  refine xe_lstore dX12_number3_77 (by decide) ?_
  refine xe_aload_n dX12_number3_79 rfl rfl ?_
  refine xe_iload_n dX12_number3_80 rfl rfl ?_
  refine xe_iload dX12_number3_81 rfl ?_
  refine xe_iload dX12_number3_83 rfl ?_
  refine xe_if_ne (tgt := 95) dX12_number3_85 (by decide) (fun c4 => ?_) (fun c4 => ?_)
  · replace hF := if_p c4 hF
    refine xe_lload dX12_number3_88 rfl ?_
    refine xe_l2i dX12_number3_90 ?_
    refine xe_i2l dX12_number3_91 ?_
    refine xe_goto (tgt := 97) dX12_number3_92 (by decide) ?_
    exact xv.lv (BX12_number3_97_ok hF) xsub_nil
  · replace hF := if_n c4 hF
    refine xe_lload dX12_number3_95 rfl ?_
    exact xv.lv (BX12_number3_97_ok hF) xsub_nil
def BX12_number3_54 (x0 : Option Nat) (x1 : Int32) (x3 : Int32) (x4 : Int32) (x5 : Int64) (x7 : Int64) (h0 : Hp) : Option (Unit × Hp) :=
  if (x5 : Int64) = 0 then
    rcv h0 x0 11 <|
    cl (FX12_fail x0 0 h0) fun v2 h3 =>
    some ((), h3)
  else
    BX12_number3_67 x0 x1 x3 x4 x5 x7 h0
set_option maxRecDepth 100000 in
set_option maxHeartbeats 4000000 in
theorem BX12_number3_54_ok {G : xG} {l : Launch} {x0 : Option Nat} {x1 : Int32} {x3 : Int32} {x4 : Int32} {x5 : Int64} {x7 : Int64} {h0 h1 : Hp} {r : Unit} (hF : BX12_number3_54 x0 x1 x3 x4 x5 x7 h0 = some (r, h1)) : xv G l mX12_number3 3 0 0 54 [(0, false, va_rf x0), (1, false, .int x1), (3, false, .int x3), (4, false, .int x4), (5, true, .long x5), (7, true, .long x7)] [] h0 (xP mkV r h1) := by
  unfold BX12_number3_54 at hF
  refine xe_lload dX12_number3_54 rfl ?_
  refine xe_lconst (v := 0) dX12_number3_56 (by decide) ?_
  refine xe_lcmp dX12_number3_57 ?_
  refine xe_lif_ne (tgt := 67) dX12_number3_58 (by decide) (fun c1 => ?_) (fun c1 => ?_)
  · replace hF := if_p c1 hF
    refine xe_aload_n dX12_number3_61 rfl rfl ?_
    refine xe_iconst (v := 0) dX12_number3_62 (by decide) ?_
    obtain ⟨a7, e5, t6, hF⟩ := rcv_inv hF
    obtain ⟨v2, h3, o4, hF⟩ := cl_inv hF
    refine xz (xq_callV (As := [.int _]) (rest := []) dX12_number3_63 mk_X12_fail ⟨tw_1363, tw_1365, ts_64⟩ (ci := 11) rfl e5 t6 (FX12_fail_ok o4) xP_q (by decide) (by decide) rfl rfl ?_)
    exact xe_return dX12_number3_66 (xP_ret (mk := mkV) hF)
  · replace hF := if_n c1 hF
    exact xv.lv (BX12_number3_67_ok hF) (xsub_cons rfl (xsub_cons rfl (xsub_cons rfl (xsub_cons rfl (xsub_cons rfl (xsub_cons rfl xsub_nil))))))
def BX12_number3_33 (x0 : Option Nat) (x1 : Int32) (x3 : Int32) (x4 : Int32) (s0 : Int64) (h0 : Hp) : Option (Unit × Hp) :=
  rcv h0 x0 11 <|
  cl (FX12_take x0 x1 x4 h0) fun v1 h2 =>
  if (x3 : Int32) = 3 then
    BX12_number3_54 x0 x1 x3 x4 s0 v1 h2
  else
    if (x3 : Int32) = 4 then
      BX12_number3_54 x0 x1 x3 x4 s0 v1 h2
    else
      BX12_number3_67 x0 x1 x3 x4 s0 v1 h2
set_option maxRecDepth 100000 in
set_option maxHeartbeats 4000000 in
theorem BX12_number3_33_ok {G : xG} {l : Launch} {x0 : Option Nat} {x1 : Int32} {x3 : Int32} {x4 : Int32} {s0 : Int64} {h0 h1 : Hp} {r : Unit} (hF : BX12_number3_33 x0 x1 x3 x4 s0 h0 = some (r, h1)) : xv G l mX12_number3 3 0 0 33 [(0, false, va_rf x0), (1, false, .int x1), (3, false, .int x3), (4, false, .int x4)] [.long s0] h0 (xP mkV r h1) := by
  unfold BX12_number3_33 at hF
  refine xe_lstore dX12_number3_33 (by decide) ?_
  refine xe_aload_n dX12_number3_35 rfl rfl ?_
  refine xe_iload_n dX12_number3_36 rfl rfl ?_
  refine xe_iload dX12_number3_37 rfl ?_
  obtain ⟨a6, e4, t5, hF⟩ := rcv_inv hF
  obtain ⟨v1, h2, o3, hF⟩ := cl_inv hF
  refine xz (xq_callV (As := [.int _, .int _]) (rest := []) dX12_number3_39 mk_X12_take ⟨tw_1355, tw_1357, ts_62⟩ (ci := 11) rfl e4 t5 (FX12_take_ok o3) xP_q (by decide) (by decide) rfl rfl ?_)
  refine xe_lstore dX12_number3_42 (by decide) ?_
  refine xe_iload_n dX12_number3_44 rfl rfl ?_
  refine xe_iconst (v := 3) dX12_number3_45 (by decide) ?_
  refine xe_icmp_eq (tgt := 54) dX12_number3_46 (by decide) (fun c7 => ?_) (fun c7 => ?_)
  · replace hF := if_p c7 hF
    exact xv.lv (BX12_number3_54_ok hF) (xsub_cons rfl (xsub_cons rfl (xsub_cons rfl (xsub_cons rfl (xsub_cons rfl (xsub_cons rfl xsub_nil))))))
  · replace hF := if_n c7 hF
    refine xe_iload_n dX12_number3_49 rfl rfl ?_
    refine xe_iconst (v := 4) dX12_number3_50 (by decide) ?_
    refine xe_icmp_ne (tgt := 67) dX12_number3_51 (by decide) (fun c8 => ?_) (fun c8 => ?_)
    · replace hF := if_p c8 hF
      exact xv.lv (BX12_number3_54_ok hF) (xsub_cons rfl (xsub_cons rfl (xsub_cons rfl (xsub_cons rfl (xsub_cons rfl (xsub_cons rfl xsub_nil))))))
    · replace hF := if_n c8 hF
      exact xv.lv (BX12_number3_67_ok hF) (xsub_cons rfl (xsub_cons rfl (xsub_cons rfl (xsub_cons rfl (xsub_cons rfl (xsub_cons rfl xsub_nil))))))
def BX12_number3_30 (x0 : Option Nat) (x1 : Int32) (x3 : Int32) (x4 : Int32) (s0 : Option Nat) (s1 : Int32) (s2 : Int32) (h0 : Hp) : Option (Unit × Hp) :=
  rcv h0 s0 11 <|
  cl (FX12_take s0 s1 s2 h0) fun v1 h2 =>
  BX12_number3_33 x0 x1 x3 x4 v1 h2
set_option maxRecDepth 100000 in
set_option maxHeartbeats 4000000 in
theorem BX12_number3_30_ok {G : xG} {l : Launch} {x0 : Option Nat} {x1 : Int32} {x3 : Int32} {x4 : Int32} {s0 : Option Nat} {s1 : Int32} {s2 : Int32} {h0 h1 : Hp} {r : Unit} (hF : BX12_number3_30 x0 x1 x3 x4 s0 s1 s2 h0 = some (r, h1)) : xv G l mX12_number3 3 0 0 30 [(0, false, va_rf x0), (1, false, .int x1), (3, false, .int x3), (4, false, .int x4)] [.int s2, .int s1, va_rf s0] h0 (xP mkV r h1) := by
  unfold BX12_number3_30 at hF
  obtain ⟨a6, e4, t5, hF⟩ := rcv_inv hF
  obtain ⟨v1, h2, o3, hF⟩ := cl_inv hF
  refine xz (xq_callV (As := [.int _, .int _]) (rest := []) dX12_number3_30 mk_X12_take ⟨tw_1355, tw_1357, ts_62⟩ (ci := 11) rfl e4 t5 (FX12_take_ok o3) xP_q (by decide) (by decide) rfl rfl ?_)
  exact xv.lv (BX12_number3_33_ok hF) (xsub_cons rfl (xsub_cons rfl (xsub_cons rfl (xsub_cons rfl xsub_nil))))
def BX12_number3_166 (s0 : Option Nat) (s1 : Int32) (s2 : Int32) (s3 : Int64) (h0 : Hp) : Option (Unit × Hp) :=
  rcv h0 s0 11 <|
  cl (FX12_put s0 s1 s2 s3 h0) fun v1 h2 =>
  some ((), h2)
set_option maxRecDepth 100000 in
set_option maxHeartbeats 4000000 in
theorem BX12_number3_166_ok {G : xG} {l : Launch} {s0 : Option Nat} {s1 : Int32} {s2 : Int32} {s3 : Int64} {h0 h1 : Hp} {r : Unit} (hF : BX12_number3_166 s0 s1 s2 s3 h0 = some (r, h1)) : xv G l mX12_number3 3 0 0 166 [] [.long s3, .int s2, .int s1, va_rf s0] h0 (xP mkV r h1) := by
  unfold BX12_number3_166 at hF
  obtain ⟨a6, e4, t5, hF⟩ := rcv_inv hF
  obtain ⟨v1, h2, o3, hF⟩ := cl_inv hF
  refine xz (xq_callV (As := [.int _, .int _, .long _]) (rest := []) dX12_number3_166 mk_X12_put ⟨tw_1351, tw_1353, ts_61⟩ (ci := 11) rfl e4 t5 (FX12_put_ok o3) xP_q (by decide) (by decide) rfl rfl ?_)
  refine xe_goto (tgt := 225) dX12_number3_169 (by decide) ?_
  exact xe_return dX12_number3_225 (xP_ret (mk := mkV) hF)
def BX12_number3_138 (x3 : Int32) (x5 : Int64) (s0 : Option Nat) (s1 : Int32) (s2 : Int32) (h0 : Hp) : Option (Unit × Hp) :=
  if (x3 : Int32) = 4 then
    BX12_number3_166 s0 s1 s2 x5 h0
  else
    if (x3 : Int32) = 3 then
      BX12_number3_166 s0 s1 s2 (Int32.toInt64 (Int64.toInt32 x5)) h0
    else
      cl (FX12_narrow x5 x3 h0) fun v3 h4 =>
      BX12_number3_166 s0 s1 s2 v3 h4
set_option maxRecDepth 100000 in
set_option maxHeartbeats 4000000 in
theorem BX12_number3_138_ok {G : xG} {l : Launch} {x3 : Int32} {x5 : Int64} {s0 : Option Nat} {s1 : Int32} {s2 : Int32} {h0 h1 : Hp} {r : Unit} (hF : BX12_number3_138 x3 x5 s0 s1 s2 h0 = some (r, h1)) : xv G l mX12_number3 3 0 0 138 [(3, false, .int x3), (5, true, .long x5)] [.int s2, .int s1, va_rf s0] h0 (xP mkV r h1) := by
  unfold BX12_number3_138 at hF
  refine xe_iload_n dX12_number3_138 rfl rfl ?_
  refine xe_iconst (v := 4) dX12_number3_139 (by decide) ?_
  refine xe_icmp_ne (tgt := 148) dX12_number3_140 (by decide) (fun c1 => ?_) (fun c1 => ?_)
  · replace hF := if_p c1 hF
    refine xe_lload dX12_number3_143 rfl ?_
    refine xe_goto (tgt := 166) dX12_number3_145 (by decide) ?_
    exact xv.lv (BX12_number3_166_ok hF) xsub_nil
  · replace hF := if_n c1 hF
    refine xe_iload_n dX12_number3_148 rfl rfl ?_
    refine xe_iconst (v := 3) dX12_number3_149 (by decide) ?_
    refine xe_icmp_ne (tgt := 160) dX12_number3_150 (by decide) (fun c2 => ?_) (fun c2 => ?_)
    · replace hF := if_p c2 hF
      refine xe_lload dX12_number3_153 rfl ?_
      refine xe_l2i dX12_number3_155 ?_
      refine xe_i2l dX12_number3_156 ?_
      refine xe_goto (tgt := 166) dX12_number3_157 (by decide) ?_
      exact xv.lv (BX12_number3_166_ok hF) xsub_nil
    · replace hF := if_n c2 hF
      refine xe_lload dX12_number3_160 rfl ?_
      refine xe_iload_n dX12_number3_162 rfl rfl ?_
      obtain ⟨v3, h4, o5, hF⟩ := cl_inv hF
      refine xz (xq_callS (As := [.long _, .int _]) (rest := [.int _, .int _, va_rf _]) dX12_number3_163 mk_X12_narrow ⟨tw_1370, tw_1371⟩ (FX12_narrow_ok o5) xP_q (by decide) (Nat.le_trans (cs_i (cs_i (cs_r cs_0))) (by decide)) rfl rfl ?_)
      exact xv.lv (BX12_number3_166_ok hF) xsub_nil
def BX12_number3_121 (x0 : Option Nat) (x1 : Int32) (x3 : Int32) (s0 : Option Nat) (s1 : Int32) (s2 : Int32) (h0 : Hp) : Option (Unit × Hp) :=
  rcv h0 s0 11 <|
  cl (FX12_take s0 s1 s2 h0) fun v1 h2 =>
  if (x3 : Int32) = 4 then
    BX12_number3_138 x3 v1 x0 x1 1 h2
  else
    BX12_number3_138 x3 v1 x0 x1 0 h2
set_option maxRecDepth 100000 in
set_option maxHeartbeats 4000000 in
theorem BX12_number3_121_ok {G : xG} {l : Launch} {x0 : Option Nat} {x1 : Int32} {x3 : Int32} {s0 : Option Nat} {s1 : Int32} {s2 : Int32} {h0 h1 : Hp} {r : Unit} (hF : BX12_number3_121 x0 x1 x3 s0 s1 s2 h0 = some (r, h1)) : xv G l mX12_number3 3 0 0 121 [(0, false, va_rf x0), (1, false, .int x1), (3, false, .int x3)] [.int s2, .int s1, va_rf s0] h0 (xP mkV r h1) := by
  unfold BX12_number3_121 at hF
  obtain ⟨a6, e4, t5, hF⟩ := rcv_inv hF
  obtain ⟨v1, h2, o3, hF⟩ := cl_inv hF
  refine xz (xq_callV (As := [.int _, .int _]) (rest := []) dX12_number3_121 mk_X12_take ⟨tw_1355, tw_1357, ts_62⟩ (ci := 11) rfl e4 t5 (FX12_take_ok o3) xP_q (by decide) (by decide) rfl rfl ?_)
  refine xe_lstore dX12_number3_124 (by decide) ?_
  refine xe_aload_n dX12_number3_126 rfl rfl ?_
  refine xe_iload_n dX12_number3_127 rfl rfl ?_
  refine xe_iload_n dX12_number3_128 rfl rfl ?_
  refine xe_iconst (v := 4) dX12_number3_129 (by decide) ?_
  refine xe_icmp_ne (tgt := 137) dX12_number3_130 (by decide) (fun c7 => ?_) (fun c7 => ?_)
  · replace hF := if_p c7 hF
    refine xe_iconst (v := 1) dX12_number3_133 (by decide) ?_
    refine xe_goto (tgt := 138) dX12_number3_134 (by decide) ?_
    exact xv.lv (BX12_number3_138_ok hF) (xsub_cons rfl (xsub_cons rfl xsub_nil))
  · replace hF := if_n c7 hF
    refine xe_iconst (v := 0) dX12_number3_137 (by decide) ?_
    exact xv.lv (BX12_number3_138_ok hF) (xsub_cons rfl (xsub_cons rfl xsub_nil))
def BX12_number3_190 (x0 : Option Nat) (x1 : Int32) (x3 : Int32) (s0 : Int32) (h0 : Hp) : Option (Unit × Hp) :=
  rcv h0 x0 11 <|
  cl (FX12_take x0 x1 s0 h0) fun v1 h2 =>
  rcv h2 x0 11 <|
  cl (FX12_take x0 x1 s0 h2) fun v7 h8 =>
  cl (FX12_compared v7 v1 x3 h8) fun v13 h14 =>
  rcv h14 x0 11 <|
  cl (FX12_put x0 x1 0 (Int32.toInt64 v13) h14) fun v16 h17 =>
  some ((), h17)
set_option maxRecDepth 100000 in
set_option maxHeartbeats 4000000 in
theorem BX12_number3_190_ok {G : xG} {l : Launch} {x0 : Option Nat} {x1 : Int32} {x3 : Int32} {s0 : Int32} {h0 h1 : Hp} {r : Unit} (hF : BX12_number3_190 x0 x1 x3 s0 h0 = some (r, h1)) : xv G l mX12_number3 3 0 0 190 [(0, false, va_rf x0), (1, false, .int x1), (3, false, .int x3)] [.int s0] h0 (xP mkV r h1) := by
  unfold BX12_number3_190 at hF
  refine xe_istore dX12_number3_190 (by decide) ?_
  refine xe_aload_n dX12_number3_192 rfl rfl ?_
  refine xe_iload_n dX12_number3_193 rfl rfl ?_
  refine xe_iload dX12_number3_194 rfl ?_
  obtain ⟨a6, e4, t5, hF⟩ := rcv_inv hF
  obtain ⟨v1, h2, o3, hF⟩ := cl_inv hF
  refine xz (xq_callV (As := [.int _, .int _]) (rest := []) dX12_number3_196 mk_X12_take ⟨tw_1355, tw_1357, ts_62⟩ (ci := 11) rfl e4 t5 (FX12_take_ok o3) xP_q (by decide) (by decide) rfl rfl ?_)
  refine xe_lstore dX12_number3_199 (by decide) ?_
  refine xe_aload_n dX12_number3_201 rfl rfl ?_
  refine xe_iload_n dX12_number3_202 rfl rfl ?_
  refine xe_iload dX12_number3_203 rfl ?_
  obtain ⟨a12, e10, t11, hF⟩ := rcv_inv hF
  obtain ⟨v7, h8, o9, hF⟩ := cl_inv hF
  refine xz (xq_callV (As := [.int _, .int _]) (rest := []) dX12_number3_205 mk_X12_take ⟨tw_1355, tw_1357, ts_62⟩ (ci := 11) rfl e10 t11 (FX12_take_ok o9) xP_q (by decide) (by decide) rfl rfl ?_)
  refine xe_lstore dX12_number3_208 (by decide) ?_
  refine xe_aload_n dX12_number3_210 rfl rfl ?_
  refine xe_iload_n dX12_number3_211 rfl rfl ?_
  refine xe_iconst (v := 0) dX12_number3_212 (by decide) ?_
  refine xe_lload dX12_number3_213 rfl ?_
  refine xe_lload dX12_number3_215 rfl ?_
  refine xe_iload_n dX12_number3_217 rfl rfl ?_
  obtain ⟨v13, h14, o15, hF⟩ := cl_inv hF
  refine xz (xq_callS (As := [.long _, .long _, .int _]) (rest := [.int _, .int _, va_rf _]) dX12_number3_218 mk_X12_compared ⟨tw_1374, tw_1375⟩ (FX12_compared_ok o15) xP_q (by decide) (Nat.le_trans (cs_i (cs_i (cs_r cs_0))) (by decide)) rfl rfl ?_)
  refine xe_i2l dX12_number3_221 ?_
  obtain ⟨a21, e19, t20, hF⟩ := rcv_inv hF
  obtain ⟨v16, h17, o18, hF⟩ := cl_inv hF
  refine xz (xq_callV (As := [.int _, .int _, .long _]) (rest := []) dX12_number3_222 mk_X12_put ⟨tw_1351, tw_1353, ts_61⟩ (ci := 11) rfl e19 t20 (FX12_put_ok o18) xP_q (by decide) (by decide) rfl rfl ?_)
  exact xe_return dX12_number3_225 (xP_ret (mk := mkV) hF)
def FX12_number3 (p0 : Option Nat) (p1 : Int32) (p2 : Int32) (p3 : Int32) (p4 : Int32) (h0 : Hp) : Option (Unit × Hp) :=
  if (p2 : Int32) = 17 then
    if (p3 : Int32) = 11 then
      BX12_number3_33 p0 p1 p3 p4 0 h0
    else
      if (p3 : Int32) < 8 then
        BX12_number3_30 p0 p1 p3 p4 p0 p1 p4 h0
      else
        BX12_number3_30 p0 p1 p3 p4 p0 p1 0 h0
  else
    if (p2 : Int32) = 18 then
      if (p3 : Int32) = 3 then
        BX12_number3_121 p0 p1 p3 p0 p1 1 h0
      else
        BX12_number3_121 p0 p1 p3 p0 p1 0 h0
    else
      if (p3 : Int32) = 0 then
        BX12_number3_190 p0 p1 p3 1 h0
      else
        if (p3 : Int32) < 3 then
          BX12_number3_190 p0 p1 p3 2 h0
        else
          BX12_number3_190 p0 p1 p3 3 h0
set_option maxRecDepth 100000 in
set_option maxHeartbeats 4000000 in
theorem FX12_number3_ok {G : xG} {l : Launch} {p0 : Option Nat} {p1 : Int32} {p2 : Int32} {p3 : Int32} {p4 : Int32} {h0 h1 : Hp} {r : Unit} (hF : FX12_number3 p0 p1 p2 p3 p4 h0 = some (r, h1)) : xc G l mX12_number3 3 0 0 [va_rf p0, .int p1, .int p2, .int p3, .int p4] h0 (xP mkV r h1) := by
  refine xo_V [.inr (.inr _), .inl _, .inl _, .inl _, .inl _] (by decide) (Nat.le_of_ble_eq_true rfl) rfl ?_
  show xv _ _ _ _ _ _ _ [(0, false, va_rf p0), (1, false, .int p1), (2, false, .int p2), (3, false, .int p3), (4, false, .int p4)] _ _ _
  unfold FX12_number3 at hF
  refine xe_iload_n dX12_number3_0 rfl rfl ?_
  refine xe_bipush (v := 17) dX12_number3_1 (by decide) ?_
  refine xe_icmp_ne (tgt := 103) dX12_number3_3 (by decide) (fun c1 => ?_) (fun c1 => ?_)
  · replace hF := if_p c1 hF
    refine xe_iload_n dX12_number3_6 rfl rfl ?_
    refine xe_bipush (v := 11) dX12_number3_7 (by decide) ?_
    refine xe_icmp_ne (tgt := 16) dX12_number3_9 (by decide) (fun c2 => ?_) (fun c2 => ?_)
    · replace hF := if_p c2 hF
      refine xe_lconst (v := 0) dX12_number3_12 (by decide) ?_
      refine xe_goto (tgt := 33) dX12_number3_13 (by decide) ?_
      exact xv.lv (BX12_number3_33_ok hF) (xsub_cons rfl (xsub_cons rfl (xsub_cons rfl (xsub_cons rfl xsub_nil))))
    · replace hF := if_n c2 hF
      refine xe_aload_n dX12_number3_16 rfl rfl ?_
      refine xe_iload_n dX12_number3_17 rfl rfl ?_
      refine xe_iload_n dX12_number3_18 rfl rfl ?_
      refine xe_bipush (v := 8) dX12_number3_19 (by decide) ?_
      refine xe_icmp_ge (tgt := 29) dX12_number3_21 (by decide) (fun c3 => ?_) (fun c3 => ?_)
      · replace hF := if_p c3 hF
        refine xe_iload dX12_number3_24 rfl ?_
        refine xe_goto (tgt := 30) dX12_number3_26 (by decide) ?_
        exact xv.lv (BX12_number3_30_ok hF) (xsub_cons rfl (xsub_cons rfl (xsub_cons rfl (xsub_cons rfl xsub_nil))))
      · replace hF := if_n c3 hF
        refine xe_iconst (v := 0) dX12_number3_29 (by decide) ?_
        exact xv.lv (BX12_number3_30_ok hF) (xsub_cons rfl (xsub_cons rfl (xsub_cons rfl (xsub_cons rfl xsub_nil))))
  · replace hF := if_n c1 hF
    refine xe_iload_n dX12_number3_103 rfl rfl ?_
    refine xe_bipush (v := 18) dX12_number3_104 (by decide) ?_
    refine xe_icmp_ne (tgt := 172) dX12_number3_106 (by decide) (fun c4 => ?_) (fun c4 => ?_)
    · replace hF := if_p c4 hF
      refine xe_aload_n dX12_number3_109 rfl rfl ?_
      refine xe_iload_n dX12_number3_110 rfl rfl ?_
      refine xe_iload_n dX12_number3_111 rfl rfl ?_
      refine xe_iconst (v := 3) dX12_number3_112 (by decide) ?_
      refine xe_icmp_ne (tgt := 120) dX12_number3_113 (by decide) (fun c5 => ?_) (fun c5 => ?_)
      · replace hF := if_p c5 hF
        refine xe_iconst (v := 1) dX12_number3_116 (by decide) ?_
        refine xe_goto (tgt := 121) dX12_number3_117 (by decide) ?_
        exact xv.lv (BX12_number3_121_ok hF) (xsub_cons rfl (xsub_cons rfl (xsub_cons rfl xsub_nil)))
      · replace hF := if_n c5 hF
        refine xe_iconst (v := 0) dX12_number3_120 (by decide) ?_
        exact xv.lv (BX12_number3_121_ok hF) (xsub_cons rfl (xsub_cons rfl (xsub_cons rfl xsub_nil)))
    · replace hF := if_n c4 hF
      refine xe_iload_n dX12_number3_172 rfl rfl ?_
      refine xe_if_ne (tgt := 180) dX12_number3_173 (by decide) (fun c6 => ?_) (fun c6 => ?_)
      · replace hF := if_p c6 hF
        refine xe_iconst (v := 1) dX12_number3_176 (by decide) ?_
        refine xe_goto (tgt := 190) dX12_number3_177 (by decide) ?_
        exact xv.lv (BX12_number3_190_ok hF) (xsub_cons rfl (xsub_cons rfl (xsub_cons rfl xsub_nil)))
      · replace hF := if_n c6 hF
        refine xe_iload_n dX12_number3_180 rfl rfl ?_
        refine xe_iconst (v := 3) dX12_number3_181 (by decide) ?_
        refine xe_icmp_ge (tgt := 189) dX12_number3_182 (by decide) (fun c7 => ?_) (fun c7 => ?_)
        · replace hF := if_p c7 hF
          refine xe_iconst (v := 2) dX12_number3_185 (by decide) ?_
          refine xe_goto (tgt := 190) dX12_number3_186 (by decide) ?_
          exact xv.lv (BX12_number3_190_ok hF) (xsub_cons rfl (xsub_cons rfl (xsub_cons rfl xsub_nil)))
        · replace hF := if_n c7 hF
          refine xe_iconst (v := 3) dX12_number3_189 (by decide) ?_
          exact xv.lv (BX12_number3_190_ok hF) (xsub_cons rfl (xsub_cons rfl (xsub_cons rfl xsub_nil)))
/-! SeldomOpsModel.takeInt(I)I -/
def FX12_takeInt (p0 : Option Nat) (p1 : Int32) (h0 : Hp) : Option (Int32 × Hp) :=
  rcv h0 p0 11 <|
  cl (FX12_take p0 p1 0 h0) fun v1 h2 =>
  some ((Int64.toInt32 v1), h2)
set_option maxRecDepth 100000 in
set_option maxHeartbeats 4000000 in
theorem FX12_takeInt_ok {G : xG} {l : Launch} {p0 : Option Nat} {p1 : Int32} {h0 h1 : Hp} {r : Int32} (hF : FX12_takeInt p0 p1 h0 = some (r, h1)) : xc G l mX12_takeInt 3 0 0 [va_rf p0, .int p1] h0 (xP mkI r h1) := by
  refine xo_I [.inr (.inr _), .inl _] (by decide) (Nat.le_of_ble_eq_true rfl) rfl ?_
  show xv _ _ _ _ _ _ _ [(0, false, va_rf p0), (1, false, .int p1)] _ _ _
  unfold FX12_takeInt at hF
  refine xe_aload_n dX12_takeInt_0 rfl rfl ?_
  refine xe_iload_n dX12_takeInt_1 rfl rfl ?_
  refine xe_iconst (v := 0) dX12_takeInt_2 (by decide) ?_
  obtain ⟨a6, e4, t5, hF⟩ := rcv_inv hF
  obtain ⟨v1, h2, o3, hF⟩ := cl_inv hF
  refine xz (xq_callV (As := [.int _, .int _]) (rest := []) dX12_takeInt_3 mk_X12_take ⟨tw_1355, tw_1357, ts_62⟩ (ci := 11) rfl e4 t5 (FX12_take_ok o3) xP_q (by decide) (by decide) rfl rfl ?_)
  refine xe_l2i dX12_takeInt_6 ?_
  exact xe_ireturn dX12_takeInt_7 (xP_ret (mk := mkI) hF)
/-! SeldomOpsModel.leads(IIII)Z -/
def BX12_leads_47 (s0 : Int32) (s1 : Int32) (h0 : Hp) : Option (Int32 × Hp) :=
  if (s0 : Int32) = s1 then
    bz 1 (some (1, h0))
  else
    bz 0 (some (0, h0))
set_option maxRecDepth 100000 in
set_option maxHeartbeats 4000000 in
theorem BX12_leads_47_ok {G : xG} {l : Launch} {s0 : Int32} {s1 : Int32} {h0 h1 : Hp} {r : Int32} (hF : BX12_leads_47 s0 s1 h0 = some (r, h1)) : xv G l mX12_leads 4 0 0 47 [] [.int s1, .int s0] h0 (xPZ r h1) := by
  unfold BX12_leads_47 at hF
  refine xe_icmp_ne (tgt := 54) dX12_leads_47 (by decide) (fun c1 => ?_) (fun c1 => ?_)
  · replace hF := if_p c1 hF
    refine xe_iconst (v := 1) dX12_leads_50 (by decide) ?_
    refine xe_goto (tgt := 55) dX12_leads_51 (by decide) ?_
    obtain ⟨z2, hF⟩ := bz_inv hF
    exact xe_ireturn dX12_leads_55 (xPZ_ret z2 hF)
  · replace hF := if_n c1 hF
    refine xe_iconst (v := 0) dX12_leads_54 (by decide) ?_
    obtain ⟨z3, hF⟩ := bz_inv hF
    exact xe_ireturn dX12_leads_55 (xPZ_ret z3 hF)
def BX12_leads_37 (x4 : Int32) (s0 : Int32) (h0 : Hp) : Option (Int32 × Hp) :=
  if (x4 : Int32) = 0 then
    BX12_leads_47 s0 1 h0
  else
    BX12_leads_47 s0 0 h0
set_option maxRecDepth 100000 in
set_option maxHeartbeats 4000000 in
theorem BX12_leads_37_ok {G : xG} {l : Launch} {x4 : Int32} {s0 : Int32} {h0 h1 : Hp} {r : Int32} (hF : BX12_leads_37 x4 s0 h0 = some (r, h1)) : xv G l mX12_leads 4 0 0 37 [(4, false, .int x4)] [.int s0] h0 (xPZ r h1) := by
  unfold BX12_leads_37 at hF
  refine xe_iload dX12_leads_37 rfl ?_
  refine xe_if_ne (tgt := 46) dX12_leads_39 (by decide) (fun c1 => ?_) (fun c1 => ?_)
  · replace hF := if_p c1 hF
    refine xe_iconst (v := 1) dX12_leads_42 (by decide) ?_
    refine xe_goto (tgt := 47) dX12_leads_43 (by decide) ?_
    exact xv.lv (BX12_leads_47_ok hF) xsub_nil
  · replace hF := if_n c1 hF
    refine xe_iconst (v := 0) dX12_leads_46 (by decide) ?_
    exact xv.lv (BX12_leads_47_ok hF) xsub_nil
def BX12_leads_235 (k187 : Option Nat → Int32 → Int32 → Int32 → Hp → Option (Int32 × Hp)) (x0 : Option Nat) (x3 : Int32) (x5 : Int32) (x6 : Int32) (s0 : Option Nat) (s1 : Int32) (h0 : Hp) : Option (Int32 × Hp) :=
  pI h0 s0 11 66 s1 fun h4 =>
  k187 x0 x3 x5 (x6 + 1) h4
set_option maxRecDepth 100000 in
set_option maxHeartbeats 4000000 in
theorem BX12_leads_235_ok {G : xG} {l : Launch} {k187 : Option Nat → Int32 → Int32 → Int32 → Hp → Option (Int32 × Hp)} (hk187 : ∀ {x0 : Option Nat} {x3 : Int32} {x5 : Int32} {x6 : Int32} {h0 h1 : Hp} {r : Int32}, k187 x0 x3 x5 x6 h0 = some (r, h1) → xv G l mX12_leads 4 0 0 187 [(0, false, va_rf x0), (3, false, .int x3), (5, false, .int x5), (6, false, .int x6)] [] h0 (xPZ r h1)) {x0 : Option Nat} {x3 : Int32} {x5 : Int32} {x6 : Int32} {s0 : Option Nat} {s1 : Int32} {h0 h1 : Hp} {r : Int32} (hF : BX12_leads_235 k187 x0 x3 x5 x6 s0 s1 h0 = some (r, h1)) : xv G l mX12_leads 4 0 0 235 [(0, false, va_rf x0), (3, false, .int x3), (5, false, .int x5), (6, false, .int x6)] [.int s1, va_rf s0] h0 (xPZ r h1) := by
  unfold BX12_leads_235 at hF
  obtain ⟨a1, e2, t3, hF⟩ := pI_inv hF
  refine xq_putI dX12_leads_235 fl_SeldomOpsModel_363 xk_11 (by decide) (fun z => by cases z) e2 t3 (Or.inl rfl) ?_
  refine xe_iinc (v := _ + 1) dX12_leads_238 rfl rfl (by decide) ?_
  refine xe_goto (tgt := 187) dX12_leads_241 (by decide) ?_
  exact xv.lv (hk187 hF) (xsub_cons rfl (xsub_cons rfl (xsub_cons rfl (xsub_cons rfl xsub_nil))))
def BX12_leads_187 : Nat → Option Nat → Int32 → Int32 → Int32 → Hp → Option (Int32 × Hp)
  | 0, _, _, _, _, _ => none
  | n + 1, x0, x3, x5, x6, h0 =>
    gR h0 x0 11 21 fun v1 =>
    aI h0 v1 .int x3 fun v5 =>
    if (x6 : Int32) < v5 then
      gR h0 x0 11 22 fun v12 =>
      aI h0 v12 .int ((8 * x3) + x6) fun v16 =>
      if (v16 : Int32) = x5 then
        gR h0 x0 11 23 fun v23 =>
        aI h0 v23 .int ((8 * x3) + x6) fun v27 =>
        BX12_leads_235 (BX12_leads_187 n) x0 x3 x5 x6 x0 v27 h0
      else
        gI h0 x0 11 66 fun v33 =>
        BX12_leads_235 (BX12_leads_187 n) x0 x3 x5 x6 x0 v33 h0
    else
      bz 1 (some (1, h0))
set_option maxRecDepth 100000 in
set_option maxHeartbeats 4000000 in
theorem BX12_leads_187_ok {G : xG} {l : Launch} : ∀ (n : Nat) {x0 : Option Nat} {x3 : Int32} {x5 : Int32} {x6 : Int32} {h0 h1 : Hp} {r : Int32} (hF : BX12_leads_187 n x0 x3 x5 x6 h0 = some (r, h1)), xv G l mX12_leads 4 0 0 187 [(0, false, va_rf x0), (3, false, .int x3), (5, false, .int x5), (6, false, .int x6)] [] h0 (xPZ r h1) := by
  intro n
  induction n with
  | zero => intro x0 x3 x5 x6 h0 h1 r hF; cases hF
  | succ n ih =>
    intro x0 x3 x5 x6 h0 h1 r hF
    unfold BX12_leads_187 at hF
    refine xe_iload dX12_leads_187 rfl ?_
    refine xe_aload_n dX12_leads_189 rfl rfl ?_
    obtain ⟨a2, e3, t4, hF⟩ := gR_inv hF
    refine xq_getR dX12_leads_190 fl_SeldomOpsModel_66 xk_11 e3 t4 rfl ?_
    refine xe_iload_n dX12_leads_193 rfl rfl ?_
    obtain ⟨a6, n7, e8, t9, b10, hF⟩ := aI_inv hF
    refine xq_iald dX12_leads_194 e8 t9 b10 ?_
    refine xe_icmp_ge (tgt := 244) dX12_leads_195 (by decide) (fun c11 => ?_) (fun c11 => ?_)
    · replace hF := if_p c11 hF
      refine xe_aload_n dX12_leads_198 rfl rfl ?_
      refine xe_aload_n dX12_leads_199 rfl rfl ?_
      obtain ⟨a13, e14, t15, hF⟩ := gR_inv hF
      refine xq_getR dX12_leads_200 fl_SeldomOpsModel_69 xk_11 e14 t15 rfl ?_
      refine xe_bipush (v := 8) dX12_leads_203 (by decide) ?_
      refine xe_iload_n dX12_leads_205 rfl rfl ?_
      refine xe_imul dX12_leads_206 ?_
      refine xe_iload dX12_leads_207 rfl ?_
      refine xe_iadd dX12_leads_209 ?_
      obtain ⟨a17, n18, e19, t20, b21, hF⟩ := aI_inv hF
      refine xq_iald dX12_leads_210 e19 t20 b21 ?_
      refine xe_iload dX12_leads_211 rfl ?_
      refine xe_icmp_ne (tgt := 231) dX12_leads_213 (by decide) (fun c22 => ?_) (fun c22 => ?_)
      · replace hF := if_p c22 hF
        refine xe_aload_n dX12_leads_216 rfl rfl ?_
        obtain ⟨a24, e25, t26, hF⟩ := gR_inv hF
        refine xq_getR dX12_leads_217 fl_SeldomOpsModel_72 xk_11 e25 t26 rfl ?_
        refine xe_bipush (v := 8) dX12_leads_220 (by decide) ?_
        refine xe_iload_n dX12_leads_222 rfl rfl ?_
        refine xe_imul dX12_leads_223 ?_
        refine xe_iload dX12_leads_224 rfl ?_
        refine xe_iadd dX12_leads_226 ?_
        obtain ⟨a28, n29, e30, t31, b32, hF⟩ := aI_inv hF
        refine xq_iald dX12_leads_227 e30 t31 b32 ?_
        refine xe_goto (tgt := 235) dX12_leads_228 (by decide) ?_
        exact xv.lv (BX12_leads_235_ok ih hF) (xsub_cons rfl (xsub_cons rfl (xsub_cons rfl (xsub_cons rfl xsub_nil))))
      · replace hF := if_n c22 hF
        refine xe_aload_n dX12_leads_231 rfl rfl ?_
        obtain ⟨a34, e35, t36, hF⟩ := gI_inv hF
        refine xq_getI dX12_leads_232 fl_SeldomOpsModel_363 xk_11 e35 t36 rfl ?_
        exact xv.lv (BX12_leads_235_ok ih hF) (xsub_cons rfl (xsub_cons rfl (xsub_cons rfl (xsub_cons rfl xsub_nil))))
    · replace hF := if_n c11 hF
      refine xe_iconst (v := 1) dX12_leads_244 (by decide) ?_
      obtain ⟨z37, hF⟩ := bz_inv hF
      exact xe_ireturn dX12_leads_245 (xPZ_ret z37 hF)
def FX12_leads (p0 : Option Nat) (p1 : Int32) (p2 : Int32) (p3 : Int32) (p4 : Int32) (h0 : Hp) : Option (Int32 × Hp) :=
  pI h0 p0 11 66 p3 fun h4 =>
  if (p2 : Int32) = 20 then
    bz 1 (some (1, h4))
  else
    if (p2 : Int32) = 22 then
      rcv h4 p0 11 <|
      cl (FX12_take p0 p1 4 h4) fun v9 h10 =>
      if (v9 : Int64) = (-1) then
        BX12_leads_37 p4 1 h10
      else
        BX12_leads_37 p4 0 h10
    else
      rcv h4 p0 11 <|
      cl (FX12_takeInt p0 p1 h4) fun v16 h17 =>
      if (p2 : Int32) = 21 then
        if (p4 : Int32) = 0 then
          if (v16 : Int32) = 0 then
            bz 1 (some (1, h17))
          else
            bz 0 (some (0, h17))
        else
          if (p4 : Int32) = 1 then
            if (v16 : Int32) = 0 then
              bz 0 (some (0, h17))
            else
              bz 1 (some (1, h17))
          else
            if (p4 : Int32) = 2 then
              if (v16 : Int32) < 0 then
                bz 1 (some (1, h17))
              else
                bz 0 (some (0, h17))
            else
              if (p4 : Int32) = 3 then
                if (v16 : Int32) < 0 then
                  bz 0 (some (0, h17))
                else
                  bz 1 (some (1, h17))
              else
                if (p4 : Int32) = 4 then
                  if (0 : Int32) < v16 then
                    bz 1 (some (1, h17))
                  else
                    bz 0 (some (0, h17))
                else
                  if (0 : Int32) < v16 then
                    bz 0 (some (0, h17))
                  else
                    bz 1 (some (1, h17))
      else
        gR h17 p0 11 20 fun v46 =>
        aI h17 v46 .int p3 fun v50 =>
        pI h17 p0 11 66 v50 fun h59 =>
        BX12_leads_187 100000 p0 p3 v16 0 h59
set_option maxRecDepth 100000 in
set_option maxHeartbeats 4000000 in
theorem FX12_leads_ok {G : xG} {l : Launch} {p0 : Option Nat} {p1 : Int32} {p2 : Int32} {p3 : Int32} {p4 : Int32} {h0 h1 : Hp} {r : Int32} (hF : FX12_leads p0 p1 p2 p3 p4 h0 = some (r, h1)) : xc G l mX12_leads 4 0 0 [va_rf p0, .int p1, .int p2, .int p3, .int p4] h0 (xPZ r h1) := by
  refine xo_Z [.inr (.inr _), .inl _, .inl _, .inl _, .inl _] (by decide) (Nat.le_of_ble_eq_true rfl) rfl ?_
  show xv _ _ _ _ _ _ _ [(0, false, va_rf p0), (1, false, .int p1), (2, false, .int p2), (3, false, .int p3), (4, false, .int p4)] _ _ _
  unfold FX12_leads at hF
  refine xe_aload_n dX12_leads_0 rfl rfl ?_
  refine xe_iload_n dX12_leads_1 rfl rfl ?_
  obtain ⟨a1, e2, t3, hF⟩ := pI_inv hF
  refine xq_putI dX12_leads_2 fl_SeldomOpsModel_363 xk_11 (by decide) (fun z => by cases z) e2 t3 (Or.inl rfl) ?_
  refine xe_iload_n dX12_leads_5 rfl rfl ?_
  refine xe_bipush (v := 20) dX12_leads_6 (by decide) ?_
  refine xe_icmp_ne (tgt := 13) dX12_leads_8 (by decide) (fun c6 => ?_) (fun c6 => ?_)
  · replace hF := if_p c6 hF
    refine xe_iconst (v := 1) dX12_leads_11 (by decide) ?_
    obtain ⟨z7, hF⟩ := bz_inv hF
    exact xe_ireturn dX12_leads_12 (xPZ_ret z7 hF)
  · replace hF := if_n c6 hF
    refine xe_iload_n dX12_leads_13 rfl rfl ?_
    refine xe_bipush (v := 22) dX12_leads_14 (by decide) ?_
    refine xe_icmp_ne (tgt := 56) dX12_leads_16 (by decide) (fun c8 => ?_) (fun c8 => ?_)
    · replace hF := if_p c8 hF
      refine xe_aload_n dX12_leads_19 rfl rfl ?_
      refine xe_iload_n dX12_leads_20 rfl rfl ?_
      refine xe_iconst (v := 4) dX12_leads_21 (by decide) ?_
      obtain ⟨a14, e12, t13, hF⟩ := rcv_inv hF
      obtain ⟨v9, h10, o11, hF⟩ := cl_inv hF
      refine xz (xq_callV (As := [.int _, .int _]) (rest := []) dX12_leads_22 mk_X12_take ⟨tw_1355, tw_1357, ts_62⟩ (ci := 11) rfl e12 t13 (FX12_take_ok o11) xP_q (by decide) (by decide) rfl rfl ?_)
      refine xe_ldc2 (v := (-1)) dX12_leads_25 tw_1209 ?_
      refine xe_lcmp dX12_leads_28 ?_
      refine xe_lif_ne (tgt := 36) dX12_leads_29 (by decide) (fun c15 => ?_) (fun c15 => ?_)
      · replace hF := if_p c15 hF
        refine xe_iconst (v := 1) dX12_leads_32 (by decide) ?_
        refine xe_goto (tgt := 37) dX12_leads_33 (by decide) ?_
        exact xv.lv (BX12_leads_37_ok hF) (xsub_cons rfl xsub_nil)
      · replace hF := if_n c15 hF
        refine xe_iconst (v := 0) dX12_leads_36 (by decide) ?_
        exact xv.lv (BX12_leads_37_ok hF) (xsub_cons rfl xsub_nil)
    · replace hF := if_n c8 hF
      refine xe_aload_n dX12_leads_56 rfl rfl ?_
      refine xe_iload_n dX12_leads_57 rfl rfl ?_
      obtain ⟨a21, e19, t20, hF⟩ := rcv_inv hF
      obtain ⟨v16, h17, o18, hF⟩ := cl_inv hF
      refine xz (xq_callV (As := [.int _]) (rest := []) dX12_leads_58 mk_X12_takeInt ⟨tw_1393, tw_1395, ts_66⟩ (ci := 11) rfl e19 t20 (FX12_takeInt_ok o18) xP_q (by decide) (by decide) rfl rfl ?_)
      refine xe_istore dX12_leads_61 (by decide) ?_
      refine xe_iload_n dX12_leads_63 rfl rfl ?_
      refine xe_bipush (v := 21) dX12_leads_64 (by decide) ?_
      refine xe_icmp_ne (tgt := 174) dX12_leads_66 (by decide) (fun c22 => ?_) (fun c22 => ?_)
      · replace hF := if_p c22 hF
        refine xe_iload dX12_leads_69 rfl ?_
        refine xe_if_ne (tgt := 87) dX12_leads_71 (by decide) (fun c23 => ?_) (fun c23 => ?_)
        · replace hF := if_p c23 hF
          refine xe_iload dX12_leads_74 rfl ?_
          refine xe_if_ne (tgt := 83) dX12_leads_76 (by decide) (fun c24 => ?_) (fun c24 => ?_)
          · replace hF := if_p c24 hF
            refine xe_iconst (v := 1) dX12_leads_79 (by decide) ?_
            refine xe_goto (tgt := 173) dX12_leads_80 (by decide) ?_
            obtain ⟨z25, hF⟩ := bz_inv hF
            exact xe_ireturn dX12_leads_173 (xPZ_ret z25 hF)
          · replace hF := if_n c24 hF
            refine xe_iconst (v := 0) dX12_leads_83 (by decide) ?_
            refine xe_goto (tgt := 173) dX12_leads_84 (by decide) ?_
            obtain ⟨z26, hF⟩ := bz_inv hF
            exact xe_ireturn dX12_leads_173 (xPZ_ret z26 hF)
        · replace hF := if_n c23 hF
          refine xe_iload dX12_leads_87 rfl ?_
          refine xe_iconst (v := 1) dX12_leads_89 (by decide) ?_
          refine xe_icmp_ne (tgt := 106) dX12_leads_90 (by decide) (fun c27 => ?_) (fun c27 => ?_)
          · replace hF := if_p c27 hF
            refine xe_iload dX12_leads_93 rfl ?_
            refine xe_if_eq (tgt := 102) dX12_leads_95 (by decide) (fun c28 => ?_) (fun c28 => ?_)
            · replace hF := if_p c28 hF
              refine xe_iconst (v := 0) dX12_leads_102 (by decide) ?_
              refine xe_goto (tgt := 173) dX12_leads_103 (by decide) ?_
              obtain ⟨z29, hF⟩ := bz_inv hF
              exact xe_ireturn dX12_leads_173 (xPZ_ret z29 hF)
            · replace hF := if_n c28 hF
              refine xe_iconst (v := 1) dX12_leads_98 (by decide) ?_
              refine xe_goto (tgt := 173) dX12_leads_99 (by decide) ?_
              obtain ⟨z30, hF⟩ := bz_inv hF
              exact xe_ireturn dX12_leads_173 (xPZ_ret z30 hF)
          · replace hF := if_n c27 hF
            refine xe_iload dX12_leads_106 rfl ?_
            refine xe_iconst (v := 2) dX12_leads_108 (by decide) ?_
            refine xe_icmp_ne (tgt := 125) dX12_leads_109 (by decide) (fun c31 => ?_) (fun c31 => ?_)
            · replace hF := if_p c31 hF
              refine xe_iload dX12_leads_112 rfl ?_
              refine xe_if_ge (tgt := 121) dX12_leads_114 (by decide) (fun c32 => ?_) (fun c32 => ?_)
              · replace hF := if_p c32 hF
                refine xe_iconst (v := 1) dX12_leads_117 (by decide) ?_
                refine xe_goto (tgt := 173) dX12_leads_118 (by decide) ?_
                obtain ⟨z33, hF⟩ := bz_inv hF
                exact xe_ireturn dX12_leads_173 (xPZ_ret z33 hF)
              · replace hF := if_n c32 hF
                refine xe_iconst (v := 0) dX12_leads_121 (by decide) ?_
                refine xe_goto (tgt := 173) dX12_leads_122 (by decide) ?_
                obtain ⟨z34, hF⟩ := bz_inv hF
                exact xe_ireturn dX12_leads_173 (xPZ_ret z34 hF)
            · replace hF := if_n c31 hF
              refine xe_iload dX12_leads_125 rfl ?_
              refine xe_iconst (v := 3) dX12_leads_127 (by decide) ?_
              refine xe_icmp_ne (tgt := 144) dX12_leads_128 (by decide) (fun c35 => ?_) (fun c35 => ?_)
              · replace hF := if_p c35 hF
                refine xe_iload dX12_leads_131 rfl ?_
                refine xe_if_lt (tgt := 140) dX12_leads_133 (by decide) (fun c36 => ?_) (fun c36 => ?_)
                · replace hF := if_p c36 hF
                  refine xe_iconst (v := 0) dX12_leads_140 (by decide) ?_
                  refine xe_goto (tgt := 173) dX12_leads_141 (by decide) ?_
                  obtain ⟨z37, hF⟩ := bz_inv hF
                  exact xe_ireturn dX12_leads_173 (xPZ_ret z37 hF)
                · replace hF := if_n c36 hF
                  refine xe_iconst (v := 1) dX12_leads_136 (by decide) ?_
                  refine xe_goto (tgt := 173) dX12_leads_137 (by decide) ?_
                  obtain ⟨z38, hF⟩ := bz_inv hF
                  exact xe_ireturn dX12_leads_173 (xPZ_ret z38 hF)
              · replace hF := if_n c35 hF
                refine xe_iload dX12_leads_144 rfl ?_
                refine xe_iconst (v := 4) dX12_leads_146 (by decide) ?_
                refine xe_icmp_ne (tgt := 163) dX12_leads_147 (by decide) (fun c39 => ?_) (fun c39 => ?_)
                · replace hF := if_p c39 hF
                  refine xe_iload dX12_leads_150 rfl ?_
                  refine xe_if_le (tgt := 159) dX12_leads_152 (by decide) (fun c40 => ?_) (fun c40 => ?_)
                  · replace hF := if_p c40 hF
                    refine xe_iconst (v := 1) dX12_leads_155 (by decide) ?_
                    refine xe_goto (tgt := 173) dX12_leads_156 (by decide) ?_
                    obtain ⟨z41, hF⟩ := bz_inv hF
                    exact xe_ireturn dX12_leads_173 (xPZ_ret z41 hF)
                  · replace hF := if_n c40 hF
                    refine xe_iconst (v := 0) dX12_leads_159 (by decide) ?_
                    refine xe_goto (tgt := 173) dX12_leads_160 (by decide) ?_
                    obtain ⟨z42, hF⟩ := bz_inv hF
                    exact xe_ireturn dX12_leads_173 (xPZ_ret z42 hF)
                · replace hF := if_n c39 hF
                  refine xe_iload dX12_leads_163 rfl ?_
                  refine xe_if_gt (tgt := 172) dX12_leads_165 (by decide) (fun c43 => ?_) (fun c43 => ?_)
                  · replace hF := if_p c43 hF
                    refine xe_iconst (v := 0) dX12_leads_172 (by decide) ?_
                    obtain ⟨z44, hF⟩ := bz_inv hF
                    exact xe_ireturn dX12_leads_173 (xPZ_ret z44 hF)
                  · replace hF := if_n c43 hF
                    refine xe_iconst (v := 1) dX12_leads_168 (by decide) ?_
                    refine xe_goto (tgt := 173) dX12_leads_169 (by decide) ?_
                    obtain ⟨z45, hF⟩ := bz_inv hF
                    exact xe_ireturn dX12_leads_173 (xPZ_ret z45 hF)
      · replace hF := if_n c22 hF
        refine xe_aload_n dX12_leads_174 rfl rfl ?_
        refine xe_aload_n dX12_leads_175 rfl rfl ?_
        obtain ⟨a47, e48, t49, hF⟩ := gR_inv hF
        refine xq_getR dX12_leads_176 fl_SeldomOpsModel_63 xk_11 e48 t49 rfl ?_
        refine xe_iload_n dX12_leads_179 rfl rfl ?_
        obtain ⟨a51, n52, e53, t54, b55, hF⟩ := aI_inv hF
        refine xq_iald dX12_leads_180 e53 t54 b55 ?_
        obtain ⟨a56, e57, t58, hF⟩ := pI_inv hF
        refine xq_putI dX12_leads_181 fl_SeldomOpsModel_363 xk_11 (by decide) (fun z => by cases z) e57 t58 (Or.inl rfl) ?_
        refine xe_iconst (v := 0) dX12_leads_184 (by decide) ?_
        refine xe_istore dX12_leads_185 (by decide) ?_
        exact xv.lv (BX12_leads_187_ok _ hF) (xsub_cons rfl (xsub_cons rfl (xsub_cons rfl (xsub_cons rfl xsub_nil))))
/-! SeldomOpsModel.newThing(II)I -/
def BX12_newThing_86 (k58 : Option Nat → Int32 → Int32 → Int32 → Hp → Option (Int32 × Hp)) (x0 : Option Nat) (x2 : Int32) (x3 : Int32) (x4 : Int32) (s0 : Option Nat) (s1 : Int32) (s2 : Int64) (h0 : Hp) : Option (Int32 × Hp) :=
  sL h0 s0 s1 s2 fun h1 =>
  k58 x0 x2 x3 (x4 + 1) h1
set_option maxRecDepth 100000 in
set_option maxHeartbeats 4000000 in
theorem BX12_newThing_86_ok {G : xG} {l : Launch} {k58 : Option Nat → Int32 → Int32 → Int32 → Hp → Option (Int32 × Hp)} (hk58 : ∀ {x0 : Option Nat} {x2 : Int32} {x3 : Int32} {x4 : Int32} {h0 h1 : Hp} {r : Int32}, k58 x0 x2 x3 x4 h0 = some (r, h1) → xv G l mX12_newThing 1 0 0 58 [(0, false, va_rf x0), (2, false, .int x2), (3, false, .int x3), (4, false, .int x4)] [] h0 (xP mkI r h1)) {x0 : Option Nat} {x2 : Int32} {x3 : Int32} {x4 : Int32} {s0 : Option Nat} {s1 : Int32} {s2 : Int64} {h0 h1 : Hp} {r : Int32} (hF : BX12_newThing_86 k58 x0 x2 x3 x4 s0 s1 s2 h0 = some (r, h1)) : xv G l mX12_newThing 1 0 0 86 [(0, false, va_rf x0), (2, false, .int x2), (3, false, .int x3), (4, false, .int x4)] [.long s2, .int s1, va_rf s0] h0 (xP mkI r h1) := by
  unfold BX12_newThing_86 at hF
  obtain ⟨a2, n3, e4, t5, b6, hF⟩ := sL_inv hF
  refine xq_last dX12_newThing_86 e4 t5 b6 ?_
  refine xe_iinc (v := _ + 1) dX12_newThing_87 rfl rfl (by decide) ?_
  refine xe_goto (tgt := 58) dX12_newThing_90 (by decide) ?_
  exact xv.lv (hk58 hF) (xsub_cons rfl (xsub_cons rfl (xsub_cons rfl (xsub_cons rfl xsub_nil))))
def BX12_newThing_58 : Nat → Option Nat → Int32 → Int32 → Int32 → Hp → Option (Int32 × Hp)
  | 0, _, _, _, _, _ => none
  | n + 1, x0, x2, x3, x4, h0 =>
    if (x4 : Int32) < x2 then
      gR h0 x0 11 45 fun v2 =>
      gI h0 x0 11 46 fun v6 =>
      if (x3 : Int32) = 0 then
        BX12_newThing_86 (BX12_newThing_58 n) x0 x2 x3 x4 v2 (v6 + x4) 0 h0
      else
        BX12_newThing_86 (BX12_newThing_58 n) x0 x2 x3 x4 v2 (v6 + x4) (-1) h0
    else
      gI h0 x0 11 46 fun v11 =>
      pI h0 x0 11 46 (v11 + x2) fun h18 =>
      gI h18 x0 11 40 fun v20 =>
      pI h18 x0 11 40 (v20 + 1) fun h27 =>
      gI h27 x0 11 40 fun v29 =>
      some ((v29 - 1), h27)
set_option maxRecDepth 100000 in
set_option maxHeartbeats 4000000 in
theorem BX12_newThing_58_ok {G : xG} {l : Launch} : ∀ (n : Nat) {x0 : Option Nat} {x2 : Int32} {x3 : Int32} {x4 : Int32} {h0 h1 : Hp} {r : Int32} (hF : BX12_newThing_58 n x0 x2 x3 x4 h0 = some (r, h1)), xv G l mX12_newThing 1 0 0 58 [(0, false, va_rf x0), (2, false, .int x2), (3, false, .int x3), (4, false, .int x4)] [] h0 (xP mkI r h1) := by
  intro n
  induction n with
  | zero => intro x0 x2 x3 x4 h0 h1 r hF; cases hF
  | succ n ih =>
    intro x0 x2 x3 x4 h0 h1 r hF
    unfold BX12_newThing_58 at hF
    refine xe_iload dX12_newThing_58 rfl ?_
    refine xe_iload_n dX12_newThing_60 rfl rfl ?_
    refine xe_icmp_ge (tgt := 93) dX12_newThing_61 (by decide) (fun c1 => ?_) (fun c1 => ?_)
    · replace hF := if_p c1 hF
      refine xe_aload_n dX12_newThing_64 rfl rfl ?_
      obtain ⟨a3, e4, t5, hF⟩ := gR_inv hF
      refine xq_getR dX12_newThing_65 fl_SeldomOpsModel_127 xk_11 e4 t5 rfl ?_
      refine xe_aload_n dX12_newThing_68 rfl rfl ?_
      obtain ⟨a7, e8, t9, hF⟩ := gI_inv hF
      refine xq_getI dX12_newThing_69 fl_SeldomOpsModel_299 xk_11 e8 t9 rfl ?_
      refine xe_iload dX12_newThing_72 rfl ?_
      refine xe_iadd dX12_newThing_74 ?_
      refine xe_iload_n dX12_newThing_75 rfl rfl ?_
      refine xe_if_eq (tgt := 85) dX12_newThing_76 (by decide) (fun c10 => ?_) (fun c10 => ?_)
      · replace hF := if_p c10 hF
        refine xe_lconst (v := 0) dX12_newThing_85 (by decide) ?_
        exact xv.lv (BX12_newThing_86_ok ih hF) (xsub_cons rfl (xsub_cons rfl (xsub_cons rfl (xsub_cons rfl xsub_nil))))
      · replace hF := if_n c10 hF
        refine xe_ldc2 (v := (-1)) dX12_newThing_79 tw_1209 ?_
        refine xe_goto (tgt := 86) dX12_newThing_82 (by decide) ?_
        exact xv.lv (BX12_newThing_86_ok ih hF) (xsub_cons rfl (xsub_cons rfl (xsub_cons rfl (xsub_cons rfl xsub_nil))))
    · replace hF := if_n c1 hF
      refine xe_aload_n dX12_newThing_93 rfl rfl ?_
      refine xe_dup dX12_newThing_94 (va_rf_cat _) ?_
      obtain ⟨a12, e13, t14, hF⟩ := gI_inv hF
      refine xq_getI dX12_newThing_95 fl_SeldomOpsModel_299 xk_11 e13 t14 rfl ?_
      refine xe_iload_n dX12_newThing_98 rfl rfl ?_
      refine xe_iadd dX12_newThing_99 ?_
      obtain ⟨a15, e16, t17, hF⟩ := pI_inv hF
      refine xq_putI dX12_newThing_100 fl_SeldomOpsModel_299 xk_11 (by decide) (fun z => by cases z) e16 t17 (Or.inl rfl) ?_
      refine xe_aload_n dX12_newThing_103 rfl rfl ?_
      refine xe_dup dX12_newThing_104 (va_rf_cat _) ?_
      obtain ⟨a21, e22, t23, hF⟩ := gI_inv hF
      refine xq_getI dX12_newThing_105 fl_SeldomOpsModel_296 xk_11 e22 t23 rfl ?_
      refine xe_iconst (v := 1) dX12_newThing_108 (by decide) ?_
      refine xe_iadd dX12_newThing_109 ?_
      obtain ⟨a24, e25, t26, hF⟩ := pI_inv hF
      refine xq_putI dX12_newThing_110 fl_SeldomOpsModel_296 xk_11 (by decide) (fun z => by cases z) e25 t26 (Or.inl rfl) ?_
      refine xe_aload_n dX12_newThing_113 rfl rfl ?_
      obtain ⟨a30, e31, t32, hF⟩ := gI_inv hF
      refine xq_getI dX12_newThing_114 fl_SeldomOpsModel_296 xk_11 e31 t32 rfl ?_
      refine xe_iconst (v := 1) dX12_newThing_117 (by decide) ?_
      refine xe_isub dX12_newThing_118 ?_
      exact xe_ireturn dX12_newThing_119 (xP_ret (mk := mkI) hF)
def BX12_newThing_54 (x0 : Option Nat) (x2 : Int32) (s0 : Int32) (h0 : Hp) : Option (Int32 × Hp) :=
  BX12_newThing_58 100000 x0 x2 s0 0 h0
set_option maxRecDepth 100000 in
set_option maxHeartbeats 4000000 in
theorem BX12_newThing_54_ok {G : xG} {l : Launch} {x0 : Option Nat} {x2 : Int32} {s0 : Int32} {h0 h1 : Hp} {r : Int32} (hF : BX12_newThing_54 x0 x2 s0 h0 = some (r, h1)) : xv G l mX12_newThing 1 0 0 54 [(0, false, va_rf x0), (2, false, .int x2)] [.int s0] h0 (xP mkI r h1) := by
  unfold BX12_newThing_54 at hF
  refine xe_istore_n dX12_newThing_54 rfl (by decide) ?_
  refine xe_iconst (v := 0) dX12_newThing_55 (by decide) ?_
  refine xe_istore dX12_newThing_56 (by decide) ?_
  exact xv.lv (BX12_newThing_58_ok _ hF) (xsub_cons rfl (xsub_cons rfl (xsub_cons rfl (xsub_cons rfl xsub_nil))))
def FX12_newThing (p0 : Option Nat) (p1 : Int32) (p2 : Int32) (h0 : Hp) : Option (Int32 × Hp) :=
  gR h0 p0 11 41 fun v1 =>
  gI h0 p0 11 40 fun v5 =>
  sI h0 v1 v5 p1 fun h9 =>
  gR h9 p0 11 42 fun v16 =>
  gI h9 p0 11 40 fun v20 =>
  sI h9 v16 v20 p2 fun h24 =>
  gR h24 p0 11 43 fun v31 =>
  gI h24 p0 11 40 fun v35 =>
  sI h24 v31 v35 0 fun h39 =>
  gR h39 p0 11 44 fun v46 =>
  gI h39 p0 11 40 fun v50 =>
  gI h39 p0 11 46 fun v54 =>
  sI h39 v46 v50 v54 fun h58 =>
  if (p1 : Int32) < 16 then
    BX12_newThing_54 p0 p2 0 h58
  else
    BX12_newThing_54 p0 p2 1 h58
set_option maxRecDepth 100000 in
set_option maxHeartbeats 4000000 in
theorem FX12_newThing_ok {G : xG} {l : Launch} {p0 : Option Nat} {p1 : Int32} {p2 : Int32} {h0 h1 : Hp} {r : Int32} (hF : FX12_newThing p0 p1 p2 h0 = some (r, h1)) : xc G l mX12_newThing 1 0 0 [va_rf p0, .int p1, .int p2] h0 (xP mkI r h1) := by
  refine xo_I [.inr (.inr _), .inl _, .inl _] (by decide) (Nat.le_of_ble_eq_true rfl) rfl ?_
  show xv _ _ _ _ _ _ _ [(0, false, va_rf p0), (1, false, .int p1), (2, false, .int p2)] _ _ _
  unfold FX12_newThing at hF
  refine xe_aload_n dX12_newThing_0 rfl rfl ?_
  obtain ⟨a2, e3, t4, hF⟩ := gR_inv hF
  refine xq_getR dX12_newThing_1 fl_SeldomOpsModel_115 xk_11 e3 t4 rfl ?_
  refine xe_aload_n dX12_newThing_4 rfl rfl ?_
  obtain ⟨a6, e7, t8, hF⟩ := gI_inv hF
  refine xq_getI dX12_newThing_5 fl_SeldomOpsModel_296 xk_11 e7 t8 rfl ?_
  refine xe_iload_n dX12_newThing_8 rfl rfl ?_
  obtain ⟨a10, n11, e12, t13, b14, hF⟩ := sI_inv hF
  refine xq_iast dX12_newThing_9 e12 t13 b14 ?_
  refine xe_aload_n dX12_newThing_10 rfl rfl ?_
  obtain ⟨a17, e18, t19, hF⟩ := gR_inv hF
  refine xq_getR dX12_newThing_11 fl_SeldomOpsModel_118 xk_11 e18 t19 rfl ?_
  refine xe_aload_n dX12_newThing_14 rfl rfl ?_
  obtain ⟨a21, e22, t23, hF⟩ := gI_inv hF
  refine xq_getI dX12_newThing_15 fl_SeldomOpsModel_296 xk_11 e22 t23 rfl ?_
  refine xe_iload_n dX12_newThing_18 rfl rfl ?_
  obtain ⟨a25, n26, e27, t28, b29, hF⟩ := sI_inv hF
  refine xq_iast dX12_newThing_19 e27 t28 b29 ?_
  refine xe_aload_n dX12_newThing_20 rfl rfl ?_
  obtain ⟨a32, e33, t34, hF⟩ := gR_inv hF
  refine xq_getR dX12_newThing_21 fl_SeldomOpsModel_121 xk_11 e33 t34 rfl ?_
  refine xe_aload_n dX12_newThing_24 rfl rfl ?_
  obtain ⟨a36, e37, t38, hF⟩ := gI_inv hF
  refine xq_getI dX12_newThing_25 fl_SeldomOpsModel_296 xk_11 e37 t38 rfl ?_
  refine xe_iconst (v := 0) dX12_newThing_28 (by decide) ?_
  obtain ⟨a40, n41, e42, t43, b44, hF⟩ := sI_inv hF
  refine xq_iast dX12_newThing_29 e42 t43 b44 ?_
  refine xe_aload_n dX12_newThing_30 rfl rfl ?_
  obtain ⟨a47, e48, t49, hF⟩ := gR_inv hF
  refine xq_getR dX12_newThing_31 fl_SeldomOpsModel_124 xk_11 e48 t49 rfl ?_
  refine xe_aload_n dX12_newThing_34 rfl rfl ?_
  obtain ⟨a51, e52, t53, hF⟩ := gI_inv hF
  refine xq_getI dX12_newThing_35 fl_SeldomOpsModel_296 xk_11 e52 t53 rfl ?_
  refine xe_aload_n dX12_newThing_38 rfl rfl ?_
  obtain ⟨a55, e56, t57, hF⟩ := gI_inv hF
  refine xq_getI dX12_newThing_39 fl_SeldomOpsModel_299 xk_11 e56 t57 rfl ?_
  obtain ⟨a59, n60, e61, t62, b63, hF⟩ := sI_inv hF
  refine xq_iast dX12_newThing_42 e61 t62 b63 ?_
  refine xe_iload_n dX12_newThing_43 rfl rfl ?_
  refine xe_bipush (v := 16) dX12_newThing_44 (by decide) ?_
  refine xe_icmp_lt (tgt := 53) dX12_newThing_46 (by decide) (fun c65 => ?_) (fun c65 => ?_)
  · replace hF := if_p c65 hF
    refine xe_iconst (v := 0) dX12_newThing_53 (by decide) ?_
    exact xv.lv (BX12_newThing_54_ok hF) (xsub_cons rfl (xsub_cons rfl xsub_nil))
  · replace hF := if_n c65 hF
    refine xe_iconst (v := 1) dX12_newThing_49 (by decide) ?_
    refine xe_goto (tgt := 54) dX12_newThing_50 (by decide) ?_
    exact xv.lv (BX12_newThing_54_ok hF) (xsub_cons rfl (xsub_cons rfl xsub_nil))
