/-! SeldomOps$Walker.useArray(LSeldomOps$Words;III)I -/
def BX9_useArray_88 (s0 : Option Nat) (s1 : Int64) (h0 : Hp) : Option (Int32 × Hp) :=
  rcv h0 s0 9 <|
  cl (FX10_push s0 s1 h0) fun v1 h2 =>
  some ((-1), h2)
set_option maxRecDepth 100000 in
set_option maxHeartbeats 4000000 in
theorem BX9_useArray_88_ok {G : xG} {l : Launch} {s0 : Option Nat} {s1 : Int64} {h0 h1 : Hp} {r : Int32} (hF : BX9_useArray_88 s0 s1 h0 = some (r, h1)) : xv G l mX9_useArray 11 0 0 88 [] [.long s1, va_rf s0] h0 (xP mkI r h1) := by
  unfold BX9_useArray_88 at hF
  obtain ⟨a6, e4, t5, hF⟩ := rcv_inv hF
  obtain ⟨v1, h2, o3, hF⟩ := cl_inv hF
  refine xz (xq_callV (As := [.long _]) (rest := []) dX9_useArray_88 mk_X10_push ⟨tw_759, tw_640, tw_641⟩ (ci := 9) rfl e4 t5 (FX10_push_ok o3) xP_q (by decide) (by decide) rfl rfl ?_)
  refine xe_iconst (v := (-1)) dX9_useArray_91 (by decide) ?_
  exact xe_ireturn dX9_useArray_92 (xP_ret (mk := mkI) hF)
def FX9_useArray (p0 : Option Nat) (p1 : Option Nat) (p2 : Int32) (p3 : Int32) (p4 : Int32) (h0 : Hp) : Option (Int32 × Hp) :=
  if (p2 : Int32) = 24 then
    rcv h0 p0 8 <|
    cl (FX9_newArray p0 p1 p3 p4 h0) fun v2 h3 =>
    some (v2, h3)
  else
  if (p2 : Int32) = 25 then
    rcv h0 p0 8 <|
    cl (FX9_getCell p0 p1 p4 h0) fun v9 h10 =>
    some (v9, h10)
  else
  if (p2 : Int32) = 26 then
    rcv h0 p0 8 <|
    cl (FX9_putCell p0 p1 p4 h0) fun v16 h17 =>
    some (v16, h17)
  else
  if (p2 : Int32) = 27 then
    rcv h0 p0 8 <|
    cl (FX9_countCells p0 p1 h0) fun v23 h24 =>
    some (v23, h24)
  else
  if (p2 : Int32) = 28 then
    gR h0 p0 8 1 fun v30 =>
    rcv h0 p1 9 <|
    cl (FX10_popInt p1 h0) fun v34 h35 =>
    rcv h35 v30 7 <|
    cl (FX8_isOfType v30 v34 p3 h35) fun v40 h41 =>
    if (v40 : Int32) = 0 then
      BX9_useArray_88 p1 0 h41
    else
      BX9_useArray_88 p1 1 h41
  else
  rcv h0 p1 9 <|
  cl (FX10_popInt p1 h0) fun v47 h48 =>
  rcv h48 p1 9 <|
  cl (FX10_push p1 (Int32.toInt64 v47) h48) fun v53 h54 =>
  if (v47 : Int32) = (-1) then
    some ((-1), h54)
  else
    gR h54 p0 8 1 fun v60 =>
    rcv h54 v60 7 <|
    cl (FX8_isOfType v60 v47 p3 h54) fun v64 h65 =>
    if (v64 : Int32) = 0 then
      some (5, h65)
    else
      some ((-1), h65)
set_option maxRecDepth 100000 in
set_option maxHeartbeats 4000000 in
theorem FX9_useArray_ok {G : xG} {l : Launch} {p0 : Option Nat} {p1 : Option Nat} {p2 : Int32} {p3 : Int32} {p4 : Int32} {h0 h1 : Hp} {r : Int32} (hF : FX9_useArray p0 p1 p2 p3 p4 h0 = some (r, h1)) : xc G l mX9_useArray 11 0 0 [va_rf p0, va_rf p1, .int p2, .int p3, .int p4] h0 (xP mkI r h1) := by
  refine xo_I [.inr (.inr _), .inr (.inr _), .inl _, .inl _, .inl _] (by decide) (Nat.le_of_ble_eq_true rfl) rfl ?_
  show xv _ _ _ _ _ _ _ [(0, false, va_rf p0), (1, false, va_rf p1), (2, false, .int p2), (3, false, .int p3), (4, false, .int p4)] _ _ _
  unfold FX9_useArray at hF
  refine xe_iload_n dX9_useArray_0 rfl rfl ?_
  refine xs_case (j := 24) (tgt := 36) dX9_useArray_1 (by decide) (by decide) rfl (by decide) (fun c1 => ?_) (fun c1 => ?_)
  · replace hF := if_p c1 hF
    refine xe_aload_n dX9_useArray_36 rfl rfl ?_
    refine xe_aload_n dX9_useArray_37 rfl rfl ?_
    refine xe_iload_n dX9_useArray_38 rfl rfl ?_
    refine xe_iload dX9_useArray_39 rfl ?_
    obtain ⟨a7, e5, t6, hF⟩ := rcv_inv hF
    obtain ⟨v2, h3, o4, hF⟩ := cl_inv hF
    refine xz (xq_callV (As := [va_rf _, .int _, .int _]) (rest := []) dX9_useArray_41 mk_X9_newArray ⟨tw_824, tw_826, ts_26⟩ (ci := 8) rfl e5 t6 (FX9_newArray_ok o4) xP_q (by decide) (by decide) rfl rfl ?_)
    exact xe_ireturn dX9_useArray_44 (xP_ret (mk := mkI) hF)
  replace hF := if_n c1 hF
  refine xs_case (j := 25) (tgt := 45) dX9_useArray_1 (by decide) (by decide) rfl (by decide) (fun c8 => ?_) (fun c8 => ?_)
  · replace hF := if_p c8 hF
    refine xe_aload_n dX9_useArray_45 rfl rfl ?_
    refine xe_aload_n dX9_useArray_46 rfl rfl ?_
    refine xe_iload dX9_useArray_47 rfl ?_
    obtain ⟨a14, e12, t13, hF⟩ := rcv_inv hF
    obtain ⟨v9, h10, o11, hF⟩ := cl_inv hF
    refine xz (xq_callV (As := [va_rf _, .int _]) (rest := []) dX9_useArray_49 mk_X9_getCell ⟨tw_855, tw_857, ts_28⟩ (ci := 8) rfl e12 t13 (FX9_getCell_ok o11) xP_q (by decide) (by decide) rfl rfl ?_)
    exact xe_ireturn dX9_useArray_52 (xP_ret (mk := mkI) hF)
  replace hF := if_n c8 hF
  refine xs_case (j := 26) (tgt := 53) dX9_useArray_1 (by decide) (by decide) rfl (by decide) (fun c15 => ?_) (fun c15 => ?_)
  · replace hF := if_p c15 hF
    refine xe_aload_n dX9_useArray_53 rfl rfl ?_
    refine xe_aload_n dX9_useArray_54 rfl rfl ?_
    refine xe_iload dX9_useArray_55 rfl ?_
    obtain ⟨a21, e19, t20, hF⟩ := rcv_inv hF
    obtain ⟨v16, h17, o18, hF⟩ := cl_inv hF
    refine xz (xq_callV (As := [va_rf _, .int _]) (rest := []) dX9_useArray_57 mk_X9_putCell ⟨tw_873, tw_875, ts_29⟩ (ci := 8) rfl e19 t20 (FX9_putCell_ok o18) xP_q (by decide) (by decide) rfl rfl ?_)
    exact xe_ireturn dX9_useArray_60 (xP_ret (mk := mkI) hF)
  replace hF := if_n c15 hF
  refine xs_case (j := 27) (tgt := 61) dX9_useArray_1 (by decide) (by decide) rfl (by decide) (fun c22 => ?_) (fun c22 => ?_)
  · replace hF := if_p c22 hF
    refine xe_aload_n dX9_useArray_61 rfl rfl ?_
    refine xe_aload_n dX9_useArray_62 rfl rfl ?_
    obtain ⟨a28, e26, t27, hF⟩ := rcv_inv hF
    obtain ⟨v23, h24, o25, hF⟩ := cl_inv hF
    refine xz (xq_callV (As := [va_rf _]) (rest := []) dX9_useArray_63 mk_X9_countCells ⟨tw_887, tw_889, ts_30⟩ (ci := 8) rfl e26 t27 (FX9_countCells_ok o25) xP_q (by decide) (by decide) rfl rfl ?_)
    exact xe_ireturn dX9_useArray_66 (xP_ret (mk := mkI) hF)
  replace hF := if_n c22 hF
  refine xs_case (j := 28) (tgt := 67) dX9_useArray_1 (by decide) (by decide) rfl (by decide) (fun c29 => ?_) (fun c29 => ?_)
  · replace hF := if_p c29 hF
    refine xe_aload_n dX9_useArray_67 rfl rfl ?_
    refine xe_aload_n dX9_useArray_68 rfl rfl ?_
    obtain ⟨a31, e32, t33, hF⟩ := gR_inv hF
    refine xq_getR dX9_useArray_69 fl_Walker_12 xk_8 e32 t33 rfl ?_
    refine xe_aload_n dX9_useArray_72 rfl rfl ?_
    obtain ⟨a39, e37, t38, hF⟩ := rcv_inv hF
    obtain ⟨v34, h35, o36, hF⟩ := cl_inv hF
    refine xz (xq_callV (As := []) (rest := [va_rf _, va_rf _]) dX9_useArray_73 mk_X10_popInt ⟨tw_808, tw_809, tw_810⟩ (ci := 9) rfl e37 t38 (FX10_popInt_ok o36) xP_q (by decide) (Nat.le_trans (cs_r (cs_r cs_0)) (by decide)) rfl rfl ?_)
    refine xe_iload_n dX9_useArray_76 rfl rfl ?_
    obtain ⟨a45, e43, t44, hF⟩ := rcv_inv hF
    obtain ⟨v40, h41, o42, hF⟩ := cl_inv hF
    refine xz (xq_callV (As := [.int _, .int _]) (rest := [va_rf _]) dX9_useArray_77 mk_X8_isOfType ⟨tw_892, tw_882, tw_883⟩ (ci := 7) rfl e43 t44 (FX8_isOfType_ok o42) xPZ_q (by decide) (Nat.le_trans (cs_r cs_0) (by decide)) rfl rfl ?_)
    refine xe_if_eq (tgt := 87) dX9_useArray_80 (by decide) (fun c46 => ?_) (fun c46 => ?_)
    · replace hF := if_p c46 hF
      refine xe_lconst (v := 0) dX9_useArray_87 (by decide) ?_
      exact xv.lv (BX9_useArray_88_ok hF) xsub_nil
    · replace hF := if_n c46 hF
      refine xe_lconst (v := 1) dX9_useArray_83 (by decide) ?_
      refine xe_goto (tgt := 88) dX9_useArray_84 (by decide) ?_
      exact xv.lv (BX9_useArray_88_ok hF) xsub_nil
  replace hF := if_n c29 hF
  refine xs_rest (tgt := 93) [24, 25, 26, 27, 28] dX9_useArray_1 (by decide) (List.forall_mem_cons.mpr ⟨c1, List.forall_mem_cons.mpr ⟨c8, List.forall_mem_cons.mpr ⟨c15, List.forall_mem_cons.mpr ⟨c22, List.forall_mem_cons.mpr ⟨c29, fun _ h => by cases h⟩⟩⟩⟩⟩) (by decide) ?_
  refine xe_aload_n dX9_useArray_93 rfl rfl ?_
  obtain ⟨a52, e50, t51, hF⟩ := rcv_inv hF
  obtain ⟨v47, h48, o49, hF⟩ := cl_inv hF
  refine xz (xq_callV (As := []) (rest := []) dX9_useArray_94 mk_X10_popInt ⟨tw_808, tw_809, tw_810⟩ (ci := 9) rfl e50 t51 (FX10_popInt_ok o49) xP_q (by decide) (by decide) rfl rfl ?_)
  refine xe_istore dX9_useArray_97 (by decide) ?_
  refine xe_aload_n dX9_useArray_99 rfl rfl ?_
  refine xe_iload dX9_useArray_100 rfl ?_
  refine xe_i2l dX9_useArray_102 ?_
  obtain ⟨a58, e56, t57, hF⟩ := rcv_inv hF
  obtain ⟨v53, h54, o55, hF⟩ := cl_inv hF
  refine xz (xq_callV (As := [.long _]) (rest := []) dX9_useArray_103 mk_X10_push ⟨tw_759, tw_640, tw_641⟩ (ci := 9) rfl e56 t57 (FX10_push_ok o55) xP_q (by decide) (by decide) rfl rfl ?_)
  refine xe_iload dX9_useArray_106 rfl ?_
  refine xe_iconst (v := (-1)) dX9_useArray_108 (by decide) ?_
  refine xe_icmp_eq (tgt := 125) dX9_useArray_109 (by decide) (fun c59 => ?_) (fun c59 => ?_)
  · replace hF := if_p c59 hF
    refine xe_iconst (v := (-1)) dX9_useArray_125 (by decide) ?_
    refine xe_goto (tgt := 130) dX9_useArray_126 (by decide) ?_
    exact xe_ireturn dX9_useArray_130 (xP_ret (mk := mkI) hF)
  · replace hF := if_n c59 hF
    refine xe_aload_n dX9_useArray_112 rfl rfl ?_
    obtain ⟨a61, e62, t63, hF⟩ := gR_inv hF
    refine xq_getR dX9_useArray_113 fl_Walker_12 xk_8 e62 t63 rfl ?_
    refine xe_iload dX9_useArray_116 rfl ?_
    refine xe_iload_n dX9_useArray_118 rfl rfl ?_
    obtain ⟨a69, e67, t68, hF⟩ := rcv_inv hF
    obtain ⟨v64, h65, o66, hF⟩ := cl_inv hF
    refine xz (xq_callV (As := [.int _, .int _]) (rest := []) dX9_useArray_119 mk_X8_isOfType ⟨tw_892, tw_882, tw_883⟩ (ci := 7) rfl e67 t68 (FX8_isOfType_ok o66) xPZ_q (by decide) (by decide) rfl rfl ?_)
    refine xe_if_eq (tgt := 129) dX9_useArray_122 (by decide) (fun c70 => ?_) (fun c70 => ?_)
    · replace hF := if_p c70 hF
      refine xe_iconst (v := 5) dX9_useArray_129 (by decide) ?_
      exact xe_ireturn dX9_useArray_130 (xP_ret (mk := mkI) hF)
    · replace hF := if_n c70 hF
      refine xe_iconst (v := (-1)) dX9_useArray_125 (by decide) ?_
      refine xe_goto (tgt := 130) dX9_useArray_126 (by decide) ?_
      exact xe_ireturn dX9_useArray_130 (xP_ret (mk := mkI) hF)
/-! SeldomOps$Walker.useFailure(LSeldomOps$Words;II)I -/
def FX9_useFailure (p0 : Option Nat) (p1 : Option Nat) (p2 : Int32) (p3 : Int32) (h0 : Hp) : Option (Int32 × Hp) :=
  if (p2 : Int32) = 30 then
    gR h0 p0 8 1 fun v2 =>
    rcv h0 v2 7 <|
    cl (FX8_makeFailure v2 p3 h0) fun v6 h7 =>
    rcv h7 p1 9 <|
    cl (FX10_push p1 (Int32.toInt64 v6) h7) fun v12 h13 =>
    if (v6 : Int32) = (-1) then
      some (7, h13)
    else
      some ((-1), h13)
  else
    rcv h0 p1 9 <|
    cl (FX10_popInt p1 h0) fun v19 h20 =>
    if (v19 : Int32) = (-1) then
      some (1, h20)
    else
      gR h20 p0 8 1 fun v26 =>
      rcv h20 v26 7 <|
      cl (FX8_isArray v26 v19 h20) fun v30 h31 =>
      if (v30 : Int32) = 0 then
        pI h31 p0 8 14 v19 fun h40 =>
        gR h40 p0 8 1 fun v42 =>
        rcv h40 v42 7 <|
        cl (FX8_failureNumber v42 v19 h40) fun v46 h47 =>
        some (v46, h47)
      else
        some (5, h31)
set_option maxRecDepth 100000 in
set_option maxHeartbeats 4000000 in
theorem FX9_useFailure_ok {G : xG} {l : Launch} {p0 : Option Nat} {p1 : Option Nat} {p2 : Int32} {p3 : Int32} {h0 h1 : Hp} {r : Int32} (hF : FX9_useFailure p0 p1 p2 p3 h0 = some (r, h1)) : xc G l mX9_useFailure 3 0 0 [va_rf p0, va_rf p1, .int p2, .int p3] h0 (xP mkI r h1) := by
  refine xo_I [.inr (.inr _), .inr (.inr _), .inl _, .inl _] (by decide) (Nat.le_of_ble_eq_true rfl) rfl ?_
  show xv _ _ _ _ _ _ _ [(0, false, va_rf p0), (1, false, va_rf p1), (2, false, .int p2), (3, false, .int p3)] _ _ _
  unfold FX9_useFailure at hF
  refine xe_iload_n dX9_useFailure_0 rfl rfl ?_
  refine xe_bipush (v := 30) dX9_useFailure_1 (by decide) ?_
  refine xe_icmp_ne (tgt := 36) dX9_useFailure_3 (by decide) (fun c1 => ?_) (fun c1 => ?_)
  · replace hF := if_p c1 hF
    refine xe_aload_n dX9_useFailure_6 rfl rfl ?_
    obtain ⟨a3, e4, t5, hF⟩ := gR_inv hF
    refine xq_getR dX9_useFailure_7 fl_Walker_12 xk_8 e4 t5 rfl ?_
    refine xe_iload_n dX9_useFailure_10 rfl rfl ?_
    obtain ⟨a11, e9, t10, hF⟩ := rcv_inv hF
    obtain ⟨v6, h7, o8, hF⟩ := cl_inv hF
    refine xz (xq_callV (As := [.int _]) (rest := []) dX9_useFailure_11 mk_X8_makeFailure ⟨tw_897, tw_898, tw_899⟩ (ci := 7) rfl e9 t10 (FX8_makeFailure_ok o8) xP_q (by decide) (by decide) rfl rfl ?_)
    refine xe_istore dX9_useFailure_14 (by decide) ?_
    refine xe_aload_n dX9_useFailure_16 rfl rfl ?_
    refine xe_iload dX9_useFailure_17 rfl ?_
    refine xe_i2l dX9_useFailure_19 ?_
    obtain ⟨a17, e15, t16, hF⟩ := rcv_inv hF
    obtain ⟨v12, h13, o14, hF⟩ := cl_inv hF
    refine xz (xq_callV (As := [.long _]) (rest := []) dX9_useFailure_20 mk_X10_push ⟨tw_759, tw_640, tw_641⟩ (ci := 9) rfl e15 t16 (FX10_push_ok o14) xP_q (by decide) (by decide) rfl rfl ?_)
    refine xe_iload dX9_useFailure_23 rfl ?_
    refine xe_iconst (v := (-1)) dX9_useFailure_25 (by decide) ?_
    refine xe_icmp_ne (tgt := 34) dX9_useFailure_26 (by decide) (fun c18 => ?_) (fun c18 => ?_)
    · replace hF := if_p c18 hF
      refine xe_bipush (v := 7) dX9_useFailure_29 (by decide) ?_
      refine xe_goto (tgt := 35) dX9_useFailure_31 (by decide) ?_
      exact xe_ireturn dX9_useFailure_35 (xP_ret (mk := mkI) hF)
    · replace hF := if_n c18 hF
      refine xe_iconst (v := (-1)) dX9_useFailure_34 (by decide) ?_
      exact xe_ireturn dX9_useFailure_35 (xP_ret (mk := mkI) hF)
  · replace hF := if_n c1 hF
    refine xe_aload_n dX9_useFailure_36 rfl rfl ?_
    obtain ⟨a24, e22, t23, hF⟩ := rcv_inv hF
    obtain ⟨v19, h20, o21, hF⟩ := cl_inv hF
    refine xz (xq_callV (As := []) (rest := []) dX9_useFailure_37 mk_X10_popInt ⟨tw_808, tw_809, tw_810⟩ (ci := 9) rfl e22 t23 (FX10_popInt_ok o21) xP_q (by decide) (by decide) rfl rfl ?_)
    refine xe_istore dX9_useFailure_40 (by decide) ?_
    refine xe_iload dX9_useFailure_42 rfl ?_
    refine xe_iconst (v := (-1)) dX9_useFailure_44 (by decide) ?_
    refine xe_icmp_ne (tgt := 50) dX9_useFailure_45 (by decide) (fun c25 => ?_) (fun c25 => ?_)
    · replace hF := if_p c25 hF
      refine xe_iconst (v := 1) dX9_useFailure_48 (by decide) ?_
      exact xe_ireturn dX9_useFailure_49 (xP_ret (mk := mkI) hF)
    · replace hF := if_n c25 hF
      refine xe_aload_n dX9_useFailure_50 rfl rfl ?_
      obtain ⟨a27, e28, t29, hF⟩ := gR_inv hF
      refine xq_getR dX9_useFailure_51 fl_Walker_12 xk_8 e28 t29 rfl ?_
      refine xe_iload dX9_useFailure_54 rfl ?_
      obtain ⟨a35, e33, t34, hF⟩ := rcv_inv hF
      obtain ⟨v30, h31, o32, hF⟩ := cl_inv hF
      refine xz (xq_callV (As := [.int _]) (rest := []) dX9_useFailure_56 mk_X8_isArray ⟨tw_891, tw_864, tw_865⟩ (ci := 7) rfl e33 t34 (FX8_isArray_ok o32) xPZ_q (by decide) (by decide) rfl rfl ?_)
      refine xe_if_eq (tgt := 64) dX9_useFailure_59 (by decide) (fun c36 => ?_) (fun c36 => ?_)
      · replace hF := if_p c36 hF
        refine xe_aload_n dX9_useFailure_64 rfl rfl ?_
        refine xe_iload dX9_useFailure_65 rfl ?_
        obtain ⟨a37, e38, t39, hF⟩ := pI_inv hF
        refine xq_putI dX9_useFailure_67 fl_Walker_61 xk_8 (by decide) (fun z => by cases z) e38 t39 (Or.inl rfl) ?_
        refine xe_aload_n dX9_useFailure_70 rfl rfl ?_
        obtain ⟨a43, e44, t45, hF⟩ := gR_inv hF
        refine xq_getR dX9_useFailure_71 fl_Walker_12 xk_8 e44 t45 rfl ?_
        refine xe_iload dX9_useFailure_74 rfl ?_
        obtain ⟨a51, e49, t50, hF⟩ := rcv_inv hF
        obtain ⟨v46, h47, o48, hF⟩ := cl_inv hF
        refine xz (xq_callV (As := [.int _]) (rest := []) dX9_useFailure_76 mk_X8_failureNumber ⟨tw_901, tw_902, tw_903⟩ (ci := 7) rfl e49 t50 (FX8_failureNumber_ok o48) xP_q (by decide) (by decide) rfl rfl ?_)
        exact xe_ireturn dX9_useFailure_79 (xP_ret (mk := mkI) hF)
      · replace hF := if_n c36 hF
        refine xe_iconst (v := 5) dX9_useFailure_62 (by decide) ?_
        exact xe_ireturn dX9_useFailure_63 (xP_ret (mk := mkI) hF)
/-! SeldomOps$Walker.useMonitor(LSeldomOps$Call;I)I -/
def BX9_useMonitor_48 (x0 : Option Nat) (x1 : Option Nat) (x3 : Int32) (s0 : Int32) (h0 : Hp) : Option (Int32 × Hp) :=
  gR h0 x1 0 6 fun v1 =>
  aI h0 v1 .int x3 fun v5 =>
  sI h0 v1 x3 (v5 + s0) fun h11 =>
  gI h11 x1 0 7 fun v18 =>
  pI h11 x1 0 7 (v18 + s0) fun h25 =>
  gR h25 x0 8 1 fun v27 =>
  gR h25 v27 7 2 fun v31 =>
  aI h25 v31 .int x3 fun v35 =>
  sI h25 v31 x3 (v35 + s0) fun h41 =>
  some ((-1), h41)
set_option maxRecDepth 100000 in
set_option maxHeartbeats 4000000 in
theorem BX9_useMonitor_48_ok {G : xG} {l : Launch} {x0 : Option Nat} {x1 : Option Nat} {x3 : Int32} {s0 : Int32} {h0 h1 : Hp} {r : Int32} (hF : BX9_useMonitor_48 x0 x1 x3 s0 h0 = some (r, h1)) : xv G l mX9_useMonitor 3 0 0 48 [(0, false, va_rf x0), (1, false, va_rf x1), (3, false, .int x3)] [.int s0] h0 (xP mkI r h1) := by
  unfold BX9_useMonitor_48 at hF
  refine xe_istore dX9_useMonitor_48 (by decide) ?_
  refine xe_aload_n dX9_useMonitor_50 rfl rfl ?_
  obtain ⟨a2, e3, t4, hF⟩ := gR_inv hF
  refine xq_getR dX9_useMonitor_51 fl_Walker_307 xk_0 e3 t4 rfl ?_
  refine xe_iload_n dX9_useMonitor_54 rfl rfl ?_
  refine xe_dup2 dX9_useMonitor_55 rfl (va_rf_cat _) ?_
  obtain ⟨a6, n7, e8, t9, b10, hF⟩ := aI_inv hF
  refine xq_iald dX9_useMonitor_56 e8 t9 b10 ?_
  refine xe_iload dX9_useMonitor_57 rfl ?_
  refine xe_iadd dX9_useMonitor_59 ?_
  obtain ⟨a12, n13, e14, t15, b16, hF⟩ := sI_inv hF
  refine xq_iast dX9_useMonitor_60 e14 t15 b16 ?_
  refine xe_aload_n dX9_useMonitor_61 rfl rfl ?_
  refine xe_dup dX9_useMonitor_62 (va_rf_cat _) ?_
  obtain ⟨a19, e20, t21, hF⟩ := gI_inv hF
  refine xq_getI dX9_useMonitor_63 fl_Walker_310 xk_0 e20 t21 rfl ?_
  refine xe_iload dX9_useMonitor_66 rfl ?_
  refine xe_iadd dX9_useMonitor_68 ?_
  obtain ⟨a22, e23, t24, hF⟩ := pI_inv hF
  refine xq_putI dX9_useMonitor_69 fl_Walker_310 xk_0 (by decide) (fun z => by cases z) e23 t24 (Or.inl rfl) ?_
  refine xe_aload_n dX9_useMonitor_72 rfl rfl ?_
  obtain ⟨a28, e29, t30, hF⟩ := gR_inv hF
  refine xq_getR dX9_useMonitor_73 fl_Walker_12 xk_8 e29 t30 rfl ?_
  obtain ⟨a32, e33, t34, hF⟩ := gR_inv hF
  refine xq_getR dX9_useMonitor_76 fl_Walker_313 xk_7 e33 t34 rfl ?_
  refine xe_iload_n dX9_useMonitor_79 rfl rfl ?_
  refine xe_dup2 dX9_useMonitor_80 rfl (va_rf_cat _) ?_
  obtain ⟨a36, n37, e38, t39, b40, hF⟩ := aI_inv hF
  refine xq_iald dX9_useMonitor_81 e38 t39 b40 ?_
  refine xe_iload dX9_useMonitor_82 rfl ?_
  refine xe_iadd dX9_useMonitor_84 ?_
  obtain ⟨a42, n43, e44, t45, b46, hF⟩ := sI_inv hF
  refine xq_iast dX9_useMonitor_85 e44 t45 b46 ?_
  refine xe_iconst (v := (-1)) dX9_useMonitor_86 (by decide) ?_
  exact xe_ireturn dX9_useMonitor_87 (xP_ret (mk := mkI) hF)
def BX9_useMonitor_37 (x0 : Option Nat) (x1 : Option Nat) (x2 : Int32) (x3 : Int32) (h0 : Hp) : Option (Int32 × Hp) :=
  if (x2 : Int32) = 32 then
    BX9_useMonitor_48 x0 x1 x3 1 h0
  else
    BX9_useMonitor_48 x0 x1 x3 (-1) h0
set_option maxRecDepth 100000 in
set_option maxHeartbeats 4000000 in
theorem BX9_useMonitor_37_ok {G : xG} {l : Launch} {x0 : Option Nat} {x1 : Option Nat} {x2 : Int32} {x3 : Int32} {h0 h1 : Hp} {r : Int32} (hF : BX9_useMonitor_37 x0 x1 x2 x3 h0 = some (r, h1)) : xv G l mX9_useMonitor 3 0 0 37 [(0, false, va_rf x0), (1, false, va_rf x1), (2, false, .int x2), (3, false, .int x3)] [] h0 (xP mkI r h1) := by
  unfold BX9_useMonitor_37 at hF
  refine xe_iload_n dX9_useMonitor_37 rfl rfl ?_
  refine xe_bipush (v := 32) dX9_useMonitor_38 (by decide) ?_
  refine xe_icmp_ne (tgt := 47) dX9_useMonitor_40 (by decide) (fun c1 => ?_) (fun c1 => ?_)
  · replace hF := if_p c1 hF
    refine xe_iconst (v := 1) dX9_useMonitor_43 (by decide) ?_
    refine xe_goto (tgt := 48) dX9_useMonitor_44 (by decide) ?_
    exact xv.lv (BX9_useMonitor_48_ok hF) (xsub_cons rfl (xsub_cons rfl (xsub_cons rfl xsub_nil)))
  · replace hF := if_n c1 hF
    refine xe_iconst (v := (-1)) dX9_useMonitor_47 (by decide) ?_
    exact xv.lv (BX9_useMonitor_48_ok hF) (xsub_cons rfl (xsub_cons rfl (xsub_cons rfl xsub_nil)))
def FX9_useMonitor (p0 : Option Nat) (p1 : Option Nat) (p2 : Int32) (h0 : Hp) : Option (Int32 × Hp) :=
  gR h0 p1 0 4 fun v1 =>
  rcv h0 v1 9 <|
  cl (FX10_popInt v1 h0) fun v5 h6 =>
  cl (FX11_within v5 60 h6) fun v11 h12 =>
  if (v11 : Int32) = 0 then
    some (1, h12)
  else
    if (p2 : Int32) = 33 then
      gR h12 p1 0 6 fun v16 =>
      aI h12 v16 .int v5 fun v20 =>
      if (v20 : Int32) = 0 then
        some (6, h12)
      else
        BX9_useMonitor_37 p0 p1 p2 v5 h12
    else
      BX9_useMonitor_37 p0 p1 p2 v5 h12
set_option maxRecDepth 100000 in
set_option maxHeartbeats 4000000 in
theorem FX9_useMonitor_ok {G : xG} {l : Launch} {p0 : Option Nat} {p1 : Option Nat} {p2 : Int32} {h0 h1 : Hp} {r : Int32} (hF : FX9_useMonitor p0 p1 p2 h0 = some (r, h1)) : xc G l mX9_useMonitor 3 0 0 [va_rf p0, va_rf p1, .int p2] h0 (xP mkI r h1) := by
  refine xo_I [.inr (.inr _), .inr (.inr _), .inl _] (by decide) (Nat.le_of_ble_eq_true rfl) rfl ?_
  show xv _ _ _ _ _ _ _ [(0, false, va_rf p0), (1, false, va_rf p1), (2, false, .int p2)] _ _ _
  unfold FX9_useMonitor at hF
  refine xe_aload_n dX9_useMonitor_0 rfl rfl ?_
  obtain ⟨a2, e3, t4, hF⟩ := gR_inv hF
  refine xq_getR dX9_useMonitor_1 fl_Walker_126 xk_0 e3 t4 rfl ?_
  obtain ⟨a10, e8, t9, hF⟩ := rcv_inv hF
  obtain ⟨v5, h6, o7, hF⟩ := cl_inv hF
  refine xz (xq_callV (As := []) (rest := []) dX9_useMonitor_4 mk_X10_popInt ⟨tw_808, tw_809, tw_810⟩ (ci := 9) rfl e8 t9 (FX10_popInt_ok o7) xP_q (by decide) (by decide) rfl rfl ?_)
  refine xe_istore_n dX9_useMonitor_7 rfl (by decide) ?_
  refine xe_iload_n dX9_useMonitor_8 rfl rfl ?_
  refine xe_bipush (v := 60) dX9_useMonitor_9 (by decide) ?_
  obtain ⟨v11, h12, o13, hF⟩ := cl_inv hF
  refine xz (xq_callSN (As := [.int _, .int _]) (rest := []) dX9_useMonitor_11 mk_X11_within ⟨tn_909, tw_264⟩ (FX11_within_ok o13) xPZ_q (by decide) (by decide) rfl rfl ?_)
  refine xe_if_ne (tgt := 19) dX9_useMonitor_14 (by decide) (fun c14 => ?_) (fun c14 => ?_)
  · replace hF := if_p c14 hF
    refine xe_iconst (v := 1) dX9_useMonitor_17 (by decide) ?_
    exact xe_ireturn dX9_useMonitor_18 (xP_ret (mk := mkI) hF)
  · replace hF := if_n c14 hF
    refine xe_iload_n dX9_useMonitor_19 rfl rfl ?_
    refine xe_bipush (v := 33) dX9_useMonitor_20 (by decide) ?_
    refine xe_icmp_ne (tgt := 37) dX9_useMonitor_22 (by decide) (fun c15 => ?_) (fun c15 => ?_)
    · replace hF := if_p c15 hF
      refine xe_aload_n dX9_useMonitor_25 rfl rfl ?_
      obtain ⟨a17, e18, t19, hF⟩ := gR_inv hF
      refine xq_getR dX9_useMonitor_26 fl_Walker_307 xk_0 e18 t19 rfl ?_
      refine xe_iload_n dX9_useMonitor_29 rfl rfl ?_
      obtain ⟨a21, n22, e23, t24, b25, hF⟩ := aI_inv hF
      refine xq_iald dX9_useMonitor_30 e23 t24 b25 ?_
      refine xe_if_ne (tgt := 37) dX9_useMonitor_31 (by decide) (fun c26 => ?_) (fun c26 => ?_)
      · replace hF := if_p c26 hF
        refine xe_bipush (v := 6) dX9_useMonitor_34 (by decide) ?_
        exact xe_ireturn dX9_useMonitor_36 (xP_ret (mk := mkI) hF)
      · replace hF := if_n c26 hF
        exact xv.lv (BX9_useMonitor_37_ok hF) (xsub_cons rfl (xsub_cons rfl (xsub_cons rfl (xsub_cons rfl xsub_nil))))
    · replace hF := if_n c15 hF
      exact xv.lv (BX9_useMonitor_37_ok hF) (xsub_cons rfl (xsub_cons rfl (xsub_cons rfl (xsub_cons rfl xsub_nil))))
/-! SeldomOps$Walker.perform(LSeldomOps$Call;III)I -/
def FX9_perform (p0 : Option Nat) (p1 : Option Nat) (p2 : Int32) (p3 : Int32) (p4 : Int32) (h0 : Hp) : Option (Int32 × Hp) :=
  if (4 : Int32) < p2 then
    if (7 : Int32) < p2 then
      if (16 : Int32) < p2 then
        if (19 : Int32) < p2 then
          if (23 : Int32) < p2 then
            if (29 : Int32) < p2 then
              if (31 : Int32) < p2 then
                if (33 : Int32) < p2 then
                  if (p2 : Int32) = 34 then
                    rcv h0 p0 8 <|
                    cl (FX9_leave p0 p1 h0) fun v10 h11 =>
                    some (v10, h11)
                  else
                    rcv h0 p0 8 <|
                    cl (FX9_enter p0 p1 p3 h0) fun v16 h17 =>
                    some (v16, h17)
                else
                  rcv h0 p0 8 <|
                  cl (FX9_useMonitor p0 p1 p2 h0) fun v22 h23 =>
                  some (v22, h23)
              else
                gR h0 p1 0 4 fun v28 =>
                rcv h0 p0 8 <|
                cl (FX9_useFailure p0 v28 p2 p3 h0) fun v32 h33 =>
                some (v32, h33)
            else
              gR h0 p1 0 4 fun v38 =>
              rcv h0 p0 8 <|
              cl (FX9_useArray p0 v38 p2 p3 p4 h0) fun v42 h43 =>
              some (v42, h43)
          else
            rcv h0 p0 8 <|
            cl (FX9_jump p0 p1 p2 p3 p4 h0) fun v48 h49 =>
            some (v48, h49)
        else
          gR h0 p1 0 4 fun v54 =>
          rcv h0 p0 8 <|
          cl (FX9_compute p0 v54 p2 p3 p4 h0) fun v58 h59 =>
          some (v58, h59)
      else
        gR h0 p1 0 4 fun v64 =>
        rcv h0 v64 9 <|
        cl (FX10_move v64 p2 h0) fun v68 h69 =>
        some ((-1), h69)
    else
      rcv h0 p0 8 <|
      cl (FX9_useLocal p0 p1 p2 p3 p4 h0) fun v74 h75 =>
      some (v74, h75)
  else
    gR h0 p1 0 4 fun v80 =>
    rcv h0 p0 8 <|
    cl (FX9_pushFixed p0 v80 p2 p3 h0) fun v84 h85 =>
    some (v84, h85)
set_option maxRecDepth 100000 in
set_option maxHeartbeats 4000000 in
theorem FX9_perform_ok {G : xG} {l : Launch} {p0 : Option Nat} {p1 : Option Nat} {p2 : Int32} {p3 : Int32} {p4 : Int32} {h0 h1 : Hp} {r : Int32} (hF : FX9_perform p0 p1 p2 p3 p4 h0 = some (r, h1)) : xc G l mX9_perform 12 0 0 [va_rf p0, va_rf p1, .int p2, .int p3, .int p4] h0 (xP mkI r h1) := by
  refine xo_I [.inr (.inr _), .inr (.inr _), .inl _, .inl _, .inl _] (by decide) (Nat.le_of_ble_eq_true rfl) rfl ?_
  show xv _ _ _ _ _ _ _ [(0, false, va_rf p0), (1, false, va_rf p1), (2, false, .int p2), (3, false, .int p3), (4, false, .int p4)] _ _ _
  unfold FX9_perform at hF
  refine xe_iload_n dX9_perform_0 rfl rfl ?_
  refine xe_iconst (v := 4) dX9_perform_1 (by decide) ?_
  refine xe_icmp_gt (tgt := 16) dX9_perform_2 (by decide) (fun c1 => ?_) (fun c1 => ?_)
  · replace hF := if_p c1 hF
    refine xe_iload_n dX9_perform_16 rfl rfl ?_
    refine xe_bipush (v := 7) dX9_perform_17 (by decide) ?_
    refine xe_icmp_gt (tgt := 32) dX9_perform_19 (by decide) (fun c2 => ?_) (fun c2 => ?_)
    · replace hF := if_p c2 hF
      refine xe_iload_n dX9_perform_32 rfl rfl ?_
      refine xe_bipush (v := 16) dX9_perform_33 (by decide) ?_
      refine xe_icmp_gt (tgt := 48) dX9_perform_35 (by decide) (fun c3 => ?_) (fun c3 => ?_)
      · replace hF := if_p c3 hF
        refine xe_iload_n dX9_perform_48 rfl rfl ?_
        refine xe_bipush (v := 19) dX9_perform_49 (by decide) ?_
        refine xe_icmp_gt (tgt := 67) dX9_perform_51 (by decide) (fun c4 => ?_) (fun c4 => ?_)
        · replace hF := if_p c4 hF
          refine xe_iload_n dX9_perform_67 rfl rfl ?_
          refine xe_bipush (v := 23) dX9_perform_68 (by decide) ?_
          refine xe_icmp_gt (tgt := 83) dX9_perform_70 (by decide) (fun c5 => ?_) (fun c5 => ?_)
          · replace hF := if_p c5 hF
            refine xe_iload_n dX9_perform_83 rfl rfl ?_
            refine xe_bipush (v := 29) dX9_perform_84 (by decide) ?_
            refine xe_icmp_gt (tgt := 102) dX9_perform_86 (by decide) (fun c6 => ?_) (fun c6 => ?_)
            · replace hF := if_p c6 hF
              refine xe_iload_n dX9_perform_102 rfl rfl ?_
              refine xe_bipush (v := 31) dX9_perform_103 (by decide) ?_
              refine xe_icmp_gt (tgt := 119) dX9_perform_105 (by decide) (fun c7 => ?_) (fun c7 => ?_)
              · replace hF := if_p c7 hF
                refine xe_iload_n dX9_perform_119 rfl rfl ?_
                refine xe_bipush (v := 33) dX9_perform_120 (by decide) ?_
                refine xe_icmp_gt (tgt := 132) dX9_perform_122 (by decide) (fun c8 => ?_) (fun c8 => ?_)
                · replace hF := if_p c8 hF
                  refine xe_iload_n dX9_perform_132 rfl rfl ?_
                  refine xe_bipush (v := 34) dX9_perform_133 (by decide) ?_
                  refine xe_icmp_ne (tgt := 146) dX9_perform_135 (by decide) (fun c9 => ?_) (fun c9 => ?_)
                  · replace hF := if_p c9 hF
                    refine xe_aload_n dX9_perform_138 rfl rfl ?_
                    refine xe_aload_n dX9_perform_139 rfl rfl ?_
                    obtain ⟨a15, e13, t14, hF⟩ := rcv_inv hF
                    obtain ⟨v10, h11, o12, hF⟩ := cl_inv hF
                    refine xz (xq_callV (As := [va_rf _]) (rest := []) dX9_perform_140 mk_X9_leave ⟨tw_910, tw_912, ts_33⟩ (ci := 8) rfl e13 t14 (FX9_leave_ok o12) xP_q (by decide) (by decide) rfl rfl ?_)
                    refine xe_goto (tgt := 152) dX9_perform_143 (by decide) ?_
                    exact xe_ireturn dX9_perform_152 (xP_ret (mk := mkI) hF)
                  · replace hF := if_n c9 hF
                    refine xe_aload_n dX9_perform_146 rfl rfl ?_
                    refine xe_aload_n dX9_perform_147 rfl rfl ?_
                    refine xe_iload_n dX9_perform_148 rfl rfl ?_
                    obtain ⟨a21, e19, t20, hF⟩ := rcv_inv hF
                    obtain ⟨v16, h17, o18, hF⟩ := cl_inv hF
                    refine xz (xq_callV (As := [va_rf _, .int _]) (rest := []) dX9_perform_149 mk_X9_enter ⟨tw_914, tw_916, ts_34⟩ (ci := 8) rfl e19 t20 (FX9_enter_ok o18) xP_q (by decide) (by decide) rfl rfl ?_)
                    exact xe_ireturn dX9_perform_152 (xP_ret (mk := mkI) hF)
                · replace hF := if_n c8 hF
                  refine xe_aload_n dX9_perform_125 rfl rfl ?_
                  refine xe_aload_n dX9_perform_126 rfl rfl ?_
                  refine xe_iload_n dX9_perform_127 rfl rfl ?_
                  obtain ⟨a27, e25, t26, hF⟩ := rcv_inv hF
                  obtain ⟨v22, h23, o24, hF⟩ := cl_inv hF
                  refine xz (xq_callV (As := [va_rf _, .int _]) (rest := []) dX9_perform_128 mk_X9_useMonitor ⟨tw_905, tw_907, ts_32⟩ (ci := 8) rfl e25 t26 (FX9_useMonitor_ok o24) xP_q (by decide) (by decide) rfl rfl ?_)
                  exact xe_ireturn dX9_perform_131 (xP_ret (mk := mkI) hF)
              · replace hF := if_n c7 hF
                refine xe_aload_n dX9_perform_108 rfl rfl ?_
                refine xe_aload_n dX9_perform_109 rfl rfl ?_
                obtain ⟨a29, e30, t31, hF⟩ := gR_inv hF
                refine xq_getR dX9_perform_110 fl_Walker_126 xk_0 e30 t31 rfl ?_
                refine xe_iload_n dX9_perform_113 rfl rfl ?_
                refine xe_iload_n dX9_perform_114 rfl rfl ?_
                obtain ⟨a37, e35, t36, hF⟩ := rcv_inv hF
                obtain ⟨v32, h33, o34, hF⟩ := cl_inv hF
                refine xz (xq_callV (As := [va_rf _, .int _, .int _]) (rest := []) dX9_perform_115 mk_X9_useFailure ⟨tw_893, tw_895, ts_31⟩ (ci := 8) rfl e35 t36 (FX9_useFailure_ok o34) xP_q (by decide) (by decide) rfl rfl ?_)
                exact xe_ireturn dX9_perform_118 (xP_ret (mk := mkI) hF)
            · replace hF := if_n c6 hF
              refine xe_aload_n dX9_perform_89 rfl rfl ?_
              refine xe_aload_n dX9_perform_90 rfl rfl ?_
              obtain ⟨a39, e40, t41, hF⟩ := gR_inv hF
              refine xq_getR dX9_perform_91 fl_Walker_126 xk_0 e40 t41 rfl ?_
              refine xe_iload_n dX9_perform_94 rfl rfl ?_
              refine xe_iload_n dX9_perform_95 rfl rfl ?_
              refine xe_iload dX9_perform_96 rfl ?_
              obtain ⟨a47, e45, t46, hF⟩ := rcv_inv hF
              obtain ⟨v42, h43, o44, hF⟩ := cl_inv hF
              refine xz (xq_callV (As := [va_rf _, .int _, .int _, .int _]) (rest := []) dX9_perform_98 mk_X9_useArray ⟨tw_820, tw_822, ts_25⟩ (ci := 8) rfl e45 t46 (FX9_useArray_ok o44) xP_q (by decide) (by decide) rfl rfl ?_)
              exact xe_ireturn dX9_perform_101 (xP_ret (mk := mkI) hF)
          · replace hF := if_n c5 hF
            refine xe_aload_n dX9_perform_73 rfl rfl ?_
            refine xe_aload_n dX9_perform_74 rfl rfl ?_
            refine xe_iload_n dX9_perform_75 rfl rfl ?_
            refine xe_iload_n dX9_perform_76 rfl rfl ?_
            refine xe_iload dX9_perform_77 rfl ?_
            obtain ⟨a53, e51, t52, hF⟩ := rcv_inv hF
            obtain ⟨v48, h49, o50, hF⟩ := cl_inv hF
            refine xz (xq_callV (As := [va_rf _, .int _, .int _, .int _]) (rest := []) dX9_perform_79 mk_X9_jump ⟨tw_804, tw_806, ts_24⟩ (ci := 8) rfl e51 t52 (FX9_jump_ok o50) xP_q (by decide) (by decide) rfl rfl ?_)
            exact xe_ireturn dX9_perform_82 (xP_ret (mk := mkI) hF)
        · replace hF := if_n c4 hF
          refine xe_aload_n dX9_perform_54 rfl rfl ?_
          refine xe_aload_n dX9_perform_55 rfl rfl ?_
          obtain ⟨a55, e56, t57, hF⟩ := gR_inv hF
          refine xq_getR dX9_perform_56 fl_Walker_126 xk_0 e56 t57 rfl ?_
          refine xe_iload_n dX9_perform_59 rfl rfl ?_
          refine xe_iload_n dX9_perform_60 rfl rfl ?_
          refine xe_iload dX9_perform_61 rfl ?_
          obtain ⟨a63, e61, t62, hF⟩ := rcv_inv hF
          obtain ⟨v58, h59, o60, hF⟩ := cl_inv hF
          refine xz (xq_callV (As := [va_rf _, .int _, .int _, .int _]) (rest := []) dX9_perform_63 mk_X9_compute ⟨tw_773, tw_775, ts_22⟩ (ci := 8) rfl e61 t62 (FX9_compute_ok o60) xP_q (by decide) (by decide) rfl rfl ?_)
          exact xe_ireturn dX9_perform_66 (xP_ret (mk := mkI) hF)
      · replace hF := if_n c3 hF
        refine xe_aload_n dX9_perform_38 rfl rfl ?_
        obtain ⟨a65, e66, t67, hF⟩ := gR_inv hF
        refine xq_getR dX9_perform_39 fl_Walker_126 xk_0 e66 t67 rfl ?_
        refine xe_iload_n dX9_perform_42 rfl rfl ?_
        obtain ⟨a73, e71, t72, hF⟩ := rcv_inv hF
        obtain ⟨v68, h69, o70, hF⟩ := cl_inv hF
        refine xz (xq_callV (As := [.int _]) (rest := []) dX9_perform_43 mk_X10_move ⟨tw_772, tw_644, tw_645⟩ (ci := 9) rfl e71 t72 (FX10_move_ok o70) xP_q (by decide) (by decide) rfl rfl ?_)
        refine xe_iconst (v := (-1)) dX9_perform_46 (by decide) ?_
        exact xe_ireturn dX9_perform_47 (xP_ret (mk := mkI) hF)
    · replace hF := if_n c2 hF
      refine xe_aload_n dX9_perform_22 rfl rfl ?_
      refine xe_aload_n dX9_perform_23 rfl rfl ?_
      refine xe_iload_n dX9_perform_24 rfl rfl ?_
      refine xe_iload_n dX9_perform_25 rfl rfl ?_
      refine xe_iload dX9_perform_26 rfl ?_
      obtain ⟨a79, e77, t78, hF⟩ := rcv_inv hF
      obtain ⟨v74, h75, o76, hF⟩ := cl_inv hF
      refine xz (xq_callV (As := [va_rf _, .int _, .int _, .int _]) (rest := []) dX9_perform_28 mk_X9_useLocal ⟨tw_760, tw_762, ts_21⟩ (ci := 8) rfl e77 t78 (FX9_useLocal_ok o76) xP_q (by decide) (by decide) rfl rfl ?_)
      exact xe_ireturn dX9_perform_31 (xP_ret (mk := mkI) hF)
  · replace hF := if_n c1 hF
    refine xe_aload_n dX9_perform_5 rfl rfl ?_
    refine xe_aload_n dX9_perform_6 rfl rfl ?_
    obtain ⟨a81, e82, t83, hF⟩ := gR_inv hF
    refine xq_getR dX9_perform_7 fl_Walker_126 xk_0 e82 t83 rfl ?_
    refine xe_iload_n dX9_perform_10 rfl rfl ?_
    refine xe_iload_n dX9_perform_11 rfl rfl ?_
    obtain ⟨a89, e87, t88, hF⟩ := rcv_inv hF
    obtain ⟨v84, h85, o86, hF⟩ := cl_inv hF
    refine xz (xq_callV (As := [va_rf _, .int _, .int _]) (rest := []) dX9_perform_12 mk_X9_pushFixed ⟨tw_746, tw_748, ts_20⟩ (ci := 8) rfl e87 t88 (FX9_pushFixed_ok o86) xP_q (by decide) (by decide) rfl rfl ?_)
    exact xe_ireturn dX9_perform_15 (xP_ret (mk := mkI) hF)
/-! SeldomOps$Walker.raise(III)V -/
def BX9_raise_25 : Nat → Option Nat → Int32 → Int32 → Int32 → Int32 → Hp → Option (Unit × Hp)
  | 0, _, _, _, _, _, _ => none
  | n + 1, x0, x1, x2, x3, x4, h0 =>
    gI h0 x0 8 4 fun v1 =>
    if (0 : Int32) < v1 then
      gR h0 x0 8 2 fun v6 =>
      gI h0 x0 8 4 fun v10 =>
      aR h0 v6 "SeldomOps$Call" (v10 - 1) fun v14 =>
      gR h0 v14 0 1 fun v20 =>
      gI h0 v14 0 2 fun v24 =>
      rcv h0 v20 2 <|
      cl (FX2_catcher v20 v24 x1 h0) fun v28 h29 =>
      if (v28 : Int32) = (-1) then
        rcv h29 x0 8 <|
        cl (FX9_letGoAll x0 v14 h29) fun v35 h36 =>
        gI h36 x0 8 4 fun v41 =>
        pI h36 x0 8 4 (v41 - 1) fun h48 =>
        BX9_raise_25 n x0 x1 x2 x3 x4 h48
      else
        gR h29 v14 0 4 fun v50 =>
        rcv h29 v50 9 <|
        cl (FX10_clear v50 h29) fun v54 h55 =>
        gR h55 v14 0 4 fun v60 =>
        rcv h55 v60 9 <|
        cl (FX10_push v60 (Int32.toInt64 x4) h55) fun v64 h65 =>
        pI h65 v14 0 2 v28 fun h73 =>
        gI h73 x0 8 13 fun v75 =>
        pI h73 x0 8 13 (v75 + 1) fun h82 =>
        some ((), h82)
    else
      pI h0 x0 8 7 x1 fun h87 =>
      pI h87 x0 8 8 x3 fun h92 =>
      pI h92 x0 8 9 x2 fun h97 =>
      some ((), h97)
set_option maxRecDepth 100000 in
set_option maxHeartbeats 4000000 in
theorem BX9_raise_25_ok {G : xG} {l : Launch} : ∀ (n : Nat) {x0 : Option Nat} {x1 : Int32} {x2 : Int32} {x3 : Int32} {x4 : Int32} {h0 h1 : Hp} {r : Unit} (hF : BX9_raise_25 n x0 x1 x2 x3 x4 h0 = some (r, h1)), xv G l mX9_raise 3 0 0 25 [(0, false, va_rf x0), (1, false, .int x1), (2, false, .int x2), (3, false, .int x3), (4, false, .int x4)] [] h0 (xP mkV r h1) := by
  intro n
  induction n with
  | zero => intro x0 x1 x2 x3 x4 h0 h1 r hF; cases hF
  | succ n ih =>
    intro x0 x1 x2 x3 x4 h0 h1 r hF
    unfold BX9_raise_25 at hF
    refine xe_aload_n dX9_raise_25 rfl rfl ?_
    obtain ⟨a2, e3, t4, hF⟩ := gI_inv hF
    refine xq_getI dX9_raise_26 fl_Walker_28 xk_8 e3 t4 rfl ?_
    refine xe_if_le (tgt := 123) dX9_raise_29 (by decide) (fun c5 => ?_) (fun c5 => ?_)
    · replace hF := if_p c5 hF
      refine xe_aload_n dX9_raise_32 rfl rfl ?_
      obtain ⟨a7, e8, t9, hF⟩ := gR_inv hF
      refine xq_getR dX9_raise_33 fl_Walker_20 xk_8 e8 t9 rfl ?_
      refine xe_aload_n dX9_raise_36 rfl rfl ?_
      obtain ⟨a11, e12, t13, hF⟩ := gI_inv hF
      refine xq_getI dX9_raise_37 fl_Walker_28 xk_8 e12 t13 rfl ?_
      refine xe_iconst (v := 1) dX9_raise_40 (by decide) ?_
      refine xe_isub dX9_raise_41 ?_
      obtain ⟨a15, n16, e17, t18, b19, hF⟩ := aR_inv hF
      refine xq_aald dX9_raise_42 e17 t18 (by decide) b19 ?_
      refine xe_astore dX9_raise_43 (by decide) ?_
      refine xe_aload dX9_raise_45 rfl ?_
      obtain ⟨a21, e22, t23, hF⟩ := gR_inv hF
      refine xq_getR dX9_raise_47 fl_Walker_102 xk_0 e22 t23 rfl ?_
      refine xe_aload dX9_raise_50 rfl ?_
      obtain ⟨a25, e26, t27, hF⟩ := gI_inv hF
      refine xq_getI dX9_raise_52 fl_Walker_96 xk_0 e26 t27 rfl ?_
      refine xe_iload_n dX9_raise_55 rfl rfl ?_
      obtain ⟨a33, e31, t32, hF⟩ := rcv_inv hF
      obtain ⟨v28, h29, o30, hF⟩ := cl_inv hF
      refine xz (xq_callV (As := [.int _, .int _]) (rest := []) dX9_raise_56 mk_X2_catcher ⟨tw_923, tw_924, tw_925⟩ (ci := 2) rfl e31 t32 (FX2_catcher_ok o30) xP_q (by decide) (by decide) rfl rfl ?_)
      refine xe_istore dX9_raise_59 (by decide) ?_
      refine xe_iload dX9_raise_61 rfl ?_
      refine xe_iconst (v := (-1)) dX9_raise_63 (by decide) ?_
      refine xe_icmp_eq (tgt := 104) dX9_raise_64 (by decide) (fun c34 => ?_) (fun c34 => ?_)
      · replace hF := if_p c34 hF
        refine xe_aload_n dX9_raise_104 rfl rfl ?_
        refine xe_aload dX9_raise_105 rfl ?_
        obtain ⟨a40, e38, t39, hF⟩ := rcv_inv hF
        obtain ⟨v35, h36, o37, hF⟩ := cl_inv hF
        refine xz (xq_callV (As := [va_rf _]) (rest := []) dX9_raise_107 mk_X9_letGoAll ⟨tw_929, tw_931, ts_36⟩ (ci := 8) rfl e38 t39 (FX9_letGoAll_ok o37) xP_q (by decide) (by decide) rfl rfl ?_)
        refine xe_aload_n dX9_raise_110 rfl rfl ?_
        refine xe_dup dX9_raise_111 (va_rf_cat _) ?_
        obtain ⟨a42, e43, t44, hF⟩ := gI_inv hF
        refine xq_getI dX9_raise_112 fl_Walker_28 xk_8 e43 t44 rfl ?_
        refine xe_iconst (v := 1) dX9_raise_115 (by decide) ?_
        refine xe_isub dX9_raise_116 ?_
        obtain ⟨a45, e46, t47, hF⟩ := pI_inv hF
        refine xq_putI dX9_raise_117 fl_Walker_28 xk_8 (by decide) (fun z => by cases z) e46 t47 (Or.inl rfl) ?_
        refine xe_goto (tgt := 25) dX9_raise_120 (by decide) ?_
        exact xv.lv (ih hF) (xsub_cons rfl (xsub_cons rfl (xsub_cons rfl (xsub_cons rfl (xsub_cons rfl xsub_nil)))))
      · replace hF := if_n c34 hF
        refine xe_aload dX9_raise_67 rfl ?_
        obtain ⟨a51, e52, t53, hF⟩ := gR_inv hF
        refine xq_getR dX9_raise_69 fl_Walker_126 xk_0 e52 t53 rfl ?_
        obtain ⟨a59, e57, t58, hF⟩ := rcv_inv hF
        obtain ⟨v54, h55, o56, hF⟩ := cl_inv hF
        refine xz (xq_callV (As := []) (rest := []) dX9_raise_72 mk_X10_clear ⟨tw_928, tw_494, tw_495⟩ (ci := 9) rfl e57 t58 (FX10_clear_ok o56) xP_q (by decide) (by decide) rfl rfl ?_)
        refine xe_aload dX9_raise_75 rfl ?_
        obtain ⟨a61, e62, t63, hF⟩ := gR_inv hF
        refine xq_getR dX9_raise_77 fl_Walker_126 xk_0 e62 t63 rfl ?_
        refine xe_iload dX9_raise_80 rfl ?_
        refine xe_i2l dX9_raise_82 ?_
        obtain ⟨a69, e67, t68, hF⟩ := rcv_inv hF
        obtain ⟨v64, h65, o66, hF⟩ := cl_inv hF
        refine xz (xq_callV (As := [.long _]) (rest := []) dX9_raise_83 mk_X10_push ⟨tw_759, tw_640, tw_641⟩ (ci := 9) rfl e67 t68 (FX10_push_ok o66) xP_q (by decide) (by decide) rfl rfl ?_)
        refine xe_aload dX9_raise_86 rfl ?_
        refine xe_iload dX9_raise_88 rfl ?_
        obtain ⟨a70, e71, t72, hF⟩ := pI_inv hF
        refine xq_putI dX9_raise_90 fl_Walker_96 xk_0 (by decide) (fun z => by cases z) e71 t72 (Or.inl rfl) ?_
        refine xe_aload_n dX9_raise_93 rfl rfl ?_
        refine xe_dup dX9_raise_94 (va_rf_cat _) ?_
        obtain ⟨a76, e77, t78, hF⟩ := gI_inv hF
        refine xq_getI dX9_raise_95 fl_Walker_58 xk_8 e77 t78 rfl ?_
        refine xe_iconst (v := 1) dX9_raise_98 (by decide) ?_
        refine xe_iadd dX9_raise_99 ?_
        obtain ⟨a79, e80, t81, hF⟩ := pI_inv hF
        refine xq_putI dX9_raise_100 fl_Walker_58 xk_8 (by decide) (fun z => by cases z) e80 t81 (Or.inl rfl) ?_
        exact xe_return dX9_raise_103 (xP_ret (mk := mkV) hF)
    · replace hF := if_n c5 hF
      refine xe_aload_n dX9_raise_123 rfl rfl ?_
      refine xe_iload_n dX9_raise_124 rfl rfl ?_
      obtain ⟨a84, e85, t86, hF⟩ := pI_inv hF
      refine xq_putI dX9_raise_125 fl_Walker_40 xk_8 (by decide) (fun z => by cases z) e85 t86 (Or.inl rfl) ?_
      refine xe_aload_n dX9_raise_128 rfl rfl ?_
      refine xe_iload_n dX9_raise_129 rfl rfl ?_
      obtain ⟨a89, e90, t91, hF⟩ := pI_inv hF
      refine xq_putI dX9_raise_130 fl_Walker_43 xk_8 (by decide) (fun z => by cases z) e90 t91 (Or.inl rfl) ?_
      refine xe_aload_n dX9_raise_133 rfl rfl ?_
      refine xe_iload_n dX9_raise_134 rfl rfl ?_
      obtain ⟨a94, e95, t96, hF⟩ := pI_inv hF
      refine xq_putI dX9_raise_135 fl_Walker_46 xk_8 (by decide) (fun z => by cases z) e95 t96 (Or.inl rfl) ?_
      exact xe_return dX9_raise_138 (xP_ret (mk := mkV) hF)
def BX9_raise_23 (x0 : Option Nat) (x1 : Int32) (x2 : Int32) (x3 : Int32) (s0 : Int32) (h0 : Hp) : Option (Unit × Hp) :=
  BX9_raise_25 100000 x0 x1 x2 x3 s0 h0
set_option maxRecDepth 100000 in
set_option maxHeartbeats 4000000 in
theorem BX9_raise_23_ok {G : xG} {l : Launch} {x0 : Option Nat} {x1 : Int32} {x2 : Int32} {x3 : Int32} {s0 : Int32} {h0 h1 : Hp} {r : Unit} (hF : BX9_raise_23 x0 x1 x2 x3 s0 h0 = some (r, h1)) : xv G l mX9_raise 3 0 0 23 [(0, false, va_rf x0), (1, false, .int x1), (2, false, .int x2), (3, false, .int x3)] [.int s0] h0 (xP mkV r h1) := by
  unfold BX9_raise_23 at hF
  refine xe_istore dX9_raise_23 (by decide) ?_
  exact xv.lv (BX9_raise_25_ok _ hF) (xsub_cons rfl (xsub_cons rfl (xsub_cons rfl (xsub_cons rfl (xsub_cons rfl xsub_nil)))))
def FX9_raise (p0 : Option Nat) (p1 : Int32) (p2 : Int32) (p3 : Int32) (h0 : Hp) : Option (Unit × Hp) :=
  gI h0 p0 8 14 fun v1 =>
  if (v1 : Int32) = (-1) then
    gR h0 p0 8 1 fun v6 =>
    rcv h0 v6 7 <|
    cl (FX8_makeFailure v6 p1 h0) fun v10 h11 =>
    BX9_raise_23 p0 p1 p2 p3 v10 h11
  else
    gI h0 p0 8 14 fun v16 =>
    BX9_raise_23 p0 p1 p2 p3 v16 h0
set_option maxRecDepth 100000 in
set_option maxHeartbeats 4000000 in
theorem FX9_raise_ok {G : xG} {l : Launch} {p0 : Option Nat} {p1 : Int32} {p2 : Int32} {p3 : Int32} {h0 h1 : Hp} {r : Unit} (hF : FX9_raise p0 p1 p2 p3 h0 = some (r, h1)) : xc G l mX9_raise 3 0 0 [va_rf p0, .int p1, .int p2, .int p3] h0 (xP mkV r h1) := by
  refine xo_V [.inr (.inr _), .inl _, .inl _, .inl _] (by decide) (Nat.le_of_ble_eq_true rfl) rfl ?_
  show xv _ _ _ _ _ _ _ [(0, false, va_rf p0), (1, false, .int p1), (2, false, .int p2), (3, false, .int p3)] _ _ _
  unfold FX9_raise at hF
  refine xe_aload_n dX9_raise_0 rfl rfl ?_
  obtain ⟨a2, e3, t4, hF⟩ := gI_inv hF
  refine xq_getI dX9_raise_1 fl_Walker_61 xk_8 e3 t4 rfl ?_
  refine xe_iconst (v := (-1)) dX9_raise_4 (by decide) ?_
  refine xe_icmp_ne (tgt := 19) dX9_raise_5 (by decide) (fun c5 => ?_) (fun c5 => ?_)
  · replace hF := if_p c5 hF
    refine xe_aload_n dX9_raise_8 rfl rfl ?_
    obtain ⟨a7, e8, t9, hF⟩ := gR_inv hF
    refine xq_getR dX9_raise_9 fl_Walker_12 xk_8 e8 t9 rfl ?_
    refine xe_iload_n dX9_raise_12 rfl rfl ?_
    obtain ⟨a15, e13, t14, hF⟩ := rcv_inv hF
    obtain ⟨v10, h11, o12, hF⟩ := cl_inv hF
    refine xz (xq_callV (As := [.int _]) (rest := []) dX9_raise_13 mk_X8_makeFailure ⟨tw_897, tw_898, tw_899⟩ (ci := 7) rfl e13 t14 (FX8_makeFailure_ok o12) xP_q (by decide) (by decide) rfl rfl ?_)
    refine xe_goto (tgt := 23) dX9_raise_16 (by decide) ?_
    exact xv.lv (BX9_raise_23_ok hF) (xsub_cons rfl (xsub_cons rfl (xsub_cons rfl (xsub_cons rfl xsub_nil))))
  · replace hF := if_n c5 hF
    refine xe_aload_n dX9_raise_19 rfl rfl ?_
    obtain ⟨a17, e18, t19, hF⟩ := gI_inv hF
    refine xq_getI dX9_raise_20 fl_Walker_61 xk_8 e18 t19 rfl ?_
    exact xv.lv (BX9_raise_23_ok hF) (xsub_cons rfl (xsub_cons rfl (xsub_cons rfl (xsub_cons rfl xsub_nil))))
/-! SeldomOps$Walker.report(I)I -/
def FX9_report (p0 : Option Nat) (p1 : Int32) (h0 : Hp) : Option (Int32 × Hp) :=
  cl (FX11_within p1 9 h0) fun v1 h2 =>
  if (v1 : Int32) = 0 then
    some ((-2), h2)
  else
    gI h2 p0 8 6 fun v5 =>
    if (v5 : Int32) = 0 then
      some ((-3), h2)
    else
      if (p1 : Int32) = 0 then
        gI h2 p0 8 7 fun v11 =>
        some (v11, h2)
      else
      if (p1 : Int32) = 1 then
        gI h2 p0 8 8 fun v16 =>
        some (v16, h2)
      else
      if (p1 : Int32) = 2 then
        gI h2 p0 8 9 fun v21 =>
        some (v21, h2)
      else
      if (p1 : Int32) = 3 then
        gI h2 p0 8 10 fun v26 =>
        some (v26, h2)
      else
      if (p1 : Int32) = 4 then
        gI h2 p0 8 11 fun v31 =>
        some (v31, h2)
      else
      if (p1 : Int32) = 5 then
        gR h2 p0 8 1 fun v36 =>
        gI h2 v36 7 4 fun v40 =>
        some (v40, h2)
      else
      if (p1 : Int32) = 6 then
        gI h2 p0 8 12 fun v45 =>
        some (v45, h2)
      else
      if (p1 : Int32) = 7 then
        gI h2 p0 8 13 fun v50 =>
        some (v50, h2)
      else
      gI h2 p0 8 4 fun v54 =>
      some (v54, h2)
set_option maxRecDepth 100000 in
set_option maxHeartbeats 4000000 in
theorem FX9_report_ok {G : xG} {l : Launch} {p0 : Option Nat} {p1 : Int32} {h0 h1 : Hp} {r : Int32} (hF : FX9_report p0 p1 h0 = some (r, h1)) : xc G l mX9_report 2 0 0 [va_rf p0, .int p1] h0 (xP mkI r h1) := by
  refine xo_I [.inr (.inr _), .inl _] (by decide) (Nat.le_of_ble_eq_true rfl) rfl ?_
  show xv _ _ _ _ _ _ _ [(0, false, va_rf p0), (1, false, .int p1)] _ _ _
  unfold FX9_report at hF
  refine xe_iload_n dX9_report_0 rfl rfl ?_
  refine xe_bipush (v := 9) dX9_report_1 (by decide) ?_
  obtain ⟨v1, h2, o3, hF⟩ := cl_inv hF
  refine xz (xq_callSN (As := [.int _, .int _]) (rest := []) dX9_report_3 mk_X11_within ⟨tn_909, tw_264⟩ (FX11_within_ok o3) xPZ_q (by decide) (by decide) rfl rfl ?_)
  refine xe_if_ne (tgt := 12) dX9_report_6 (by decide) (fun c4 => ?_) (fun c4 => ?_)
  · replace hF := if_p c4 hF
    refine xe_bipush (v := (-2)) dX9_report_9 (by decide) ?_
    exact xe_ireturn dX9_report_11 (xP_ret (mk := mkI) hF)
  · replace hF := if_n c4 hF
    refine xe_aload_n dX9_report_12 rfl rfl ?_
    obtain ⟨a6, e7, t8, hF⟩ := gI_inv hF
    refine xq_getI dX9_report_13 fl_Walker_36 xk_8 e7 t8 rfl ?_
    refine xe_if_ne (tgt := 22) dX9_report_16 (by decide) (fun c9 => ?_) (fun c9 => ?_)
    · replace hF := if_p c9 hF
      refine xe_bipush (v := (-3)) dX9_report_19 (by decide) ?_
      exact xe_ireturn dX9_report_21 (xP_ret (mk := mkI) hF)
    · replace hF := if_n c9 hF
      refine xe_iload_n dX9_report_22 rfl rfl ?_
      refine xs_case (j := 0) (tgt := 68) dX9_report_23 (by decide) (by decide) rfl (by decide) (fun c10 => ?_) (fun c10 => ?_)
      · replace hF := if_p c10 hF
        refine xe_aload_n dX9_report_68 rfl rfl ?_
        obtain ⟨a12, e13, t14, hF⟩ := gI_inv hF
        refine xq_getI dX9_report_69 fl_Walker_40 xk_8 e13 t14 rfl ?_
        exact xe_ireturn dX9_report_72 (xP_ret (mk := mkI) hF)
      replace hF := if_n c10 hF
      refine xs_case (j := 1) (tgt := 73) dX9_report_23 (by decide) (by decide) rfl (by decide) (fun c15 => ?_) (fun c15 => ?_)
      · replace hF := if_p c15 hF
        refine xe_aload_n dX9_report_73 rfl rfl ?_
        obtain ⟨a17, e18, t19, hF⟩ := gI_inv hF
        refine xq_getI dX9_report_74 fl_Walker_43 xk_8 e18 t19 rfl ?_
        exact xe_ireturn dX9_report_77 (xP_ret (mk := mkI) hF)
      replace hF := if_n c15 hF
      refine xs_case (j := 2) (tgt := 78) dX9_report_23 (by decide) (by decide) rfl (by decide) (fun c20 => ?_) (fun c20 => ?_)
      · replace hF := if_p c20 hF
        refine xe_aload_n dX9_report_78 rfl rfl ?_
        obtain ⟨a22, e23, t24, hF⟩ := gI_inv hF
        refine xq_getI dX9_report_79 fl_Walker_46 xk_8 e23 t24 rfl ?_
        exact xe_ireturn dX9_report_82 (xP_ret (mk := mkI) hF)
      replace hF := if_n c20 hF
      refine xs_case (j := 3) (tgt := 83) dX9_report_23 (by decide) (by decide) rfl (by decide) (fun c25 => ?_) (fun c25 => ?_)
      · replace hF := if_p c25 hF
        refine xe_aload_n dX9_report_83 rfl rfl ?_
        obtain ⟨a27, e28, t29, hF⟩ := gI_inv hF
        refine xq_getI dX9_report_84 fl_Walker_49 xk_8 e28 t29 rfl ?_
        exact xe_ireturn dX9_report_87 (xP_ret (mk := mkI) hF)
      replace hF := if_n c25 hF
      refine xs_case (j := 4) (tgt := 88) dX9_report_23 (by decide) (by decide) rfl (by decide) (fun c30 => ?_) (fun c30 => ?_)
      · replace hF := if_p c30 hF
        refine xe_aload_n dX9_report_88 rfl rfl ?_
        obtain ⟨a32, e33, t34, hF⟩ := gI_inv hF
        refine xq_getI dX9_report_89 fl_Walker_52 xk_8 e33 t34 rfl ?_
        exact xe_ireturn dX9_report_92 (xP_ret (mk := mkI) hF)
      replace hF := if_n c30 hF
      refine xs_case (j := 5) (tgt := 93) dX9_report_23 (by decide) (by decide) rfl (by decide) (fun c35 => ?_) (fun c35 => ?_)
      · replace hF := if_p c35 hF
        refine xe_aload_n dX9_report_93 rfl rfl ?_
        obtain ⟨a37, e38, t39, hF⟩ := gR_inv hF
        refine xq_getR dX9_report_94 fl_Walker_12 xk_8 e38 t39 rfl ?_
        obtain ⟨a41, e42, t43, hF⟩ := gI_inv hF
        refine xq_getI dX9_report_97 fl_Walker_145 xk_7 e42 t43 rfl ?_
        exact xe_ireturn dX9_report_100 (xP_ret (mk := mkI) hF)
      replace hF := if_n c35 hF
      refine xs_case (j := 6) (tgt := 101) dX9_report_23 (by decide) (by decide) rfl (by decide) (fun c44 => ?_) (fun c44 => ?_)
      · replace hF := if_p c44 hF
        refine xe_aload_n dX9_report_101 rfl rfl ?_
        obtain ⟨a46, e47, t48, hF⟩ := gI_inv hF
        refine xq_getI dX9_report_102 fl_Walker_55 xk_8 e47 t48 rfl ?_
        exact xe_ireturn dX9_report_105 (xP_ret (mk := mkI) hF)
      replace hF := if_n c44 hF
      refine xs_case (j := 7) (tgt := 106) dX9_report_23 (by decide) (by decide) rfl (by decide) (fun c49 => ?_) (fun c49 => ?_)
      · replace hF := if_p c49 hF
        refine xe_aload_n dX9_report_106 rfl rfl ?_
        obtain ⟨a51, e52, t53, hF⟩ := gI_inv hF
        refine xq_getI dX9_report_107 fl_Walker_58 xk_8 e52 t53 rfl ?_
        exact xe_ireturn dX9_report_110 (xP_ret (mk := mkI) hF)
      replace hF := if_n c49 hF
      refine xs_rest (tgt := 111) [0, 1, 2, 3, 4, 5, 6, 7] dX9_report_23 (by decide) (List.forall_mem_cons.mpr ⟨c10, List.forall_mem_cons.mpr ⟨c15, List.forall_mem_cons.mpr ⟨c20, List.forall_mem_cons.mpr ⟨c25, List.forall_mem_cons.mpr ⟨c30, List.forall_mem_cons.mpr ⟨c35, List.forall_mem_cons.mpr ⟨c44, List.forall_mem_cons.mpr ⟨c49, fun _ h => by cases h⟩⟩⟩⟩⟩⟩⟩⟩) (by decide) ?_
      refine xe_aload_n dX9_report_111 rfl rfl ?_
      obtain ⟨a55, e56, t57, hF⟩ := gI_inv hF
      refine xq_getI dX9_report_112 fl_Walker_28 xk_8 e56 t57 rfl ?_
      exact xe_ireturn dX9_report_115 (xP_ret (mk := mkI) hF)
/-! SeldomOps$Walker.run(I)I -/
def BX9_run_159 (x0 : Option Nat) (h0 : Hp) : Option (Int32 × Hp) :=
  gI h0 x0 8 4 fun v1 =>
  if (0 : Int32) < v1 then
    some (2, h0)
  else
    gI h0 x0 8 7 fun v6 =>
    if (v6 : Int32) = (-1) then
      some (0, h0)
    else
      some (1, h0)
set_option maxRecDepth 100000 in
set_option maxHeartbeats 4000000 in
theorem BX9_run_159_ok {G : xG} {l : Launch} {x0 : Option Nat} {h0 h1 : Hp} {r : Int32} (hF : BX9_run_159 x0 h0 = some (r, h1)) : xv G l mX9_run 13 0 0 159 [(0, false, va_rf x0)] [] h0 (xP mkI r h1) := by
  unfold BX9_run_159 at hF
  refine xe_aload_n dX9_run_159 rfl rfl ?_
  obtain ⟨a2, e3, t4, hF⟩ := gI_inv hF
  refine xq_getI dX9_run_160 fl_Walker_28 xk_8 e3 t4 rfl ?_
  refine xe_if_le (tgt := 168) dX9_run_163 (by decide) (fun c5 => ?_) (fun c5 => ?_)
  · replace hF := if_p c5 hF
    refine xe_iconst (v := 2) dX9_run_166 (by decide) ?_
    exact xe_ireturn dX9_run_167 (xP_ret (mk := mkI) hF)
  · replace hF := if_n c5 hF
    refine xe_aload_n dX9_run_168 rfl rfl ?_
    obtain ⟨a7, e8, t9, hF⟩ := gI_inv hF
    refine xq_getI dX9_run_169 fl_Walker_40 xk_8 e8 t9 rfl ?_
    refine xe_iconst (v := (-1)) dX9_run_172 (by decide) ?_
    refine xe_icmp_ne (tgt := 180) dX9_run_173 (by decide) (fun c10 => ?_) (fun c10 => ?_)
    · replace hF := if_p c10 hF
      refine xe_iconst (v := 0) dX9_run_176 (by decide) ?_
      refine xe_goto (tgt := 181) dX9_run_177 (by decide) ?_
      exact xe_ireturn dX9_run_181 (xP_ret (mk := mkI) hF)
    · replace hF := if_n c10 hF
      refine xe_iconst (v := 1) dX9_run_180 (by decide) ?_
      exact xe_ireturn dX9_run_181 (xP_ret (mk := mkI) hF)
def BX9_run_146 (k5 : Option Nat → Int32 → Hp → Option (Int32 × Hp)) (x0 : Option Nat) (x1 : Int32) (h0 : Hp) : Option (Int32 × Hp) :=
  gI h0 x0 8 10 fun v1 =>
  pI h0 x0 8 10 (v1 + 1) fun h8 =>
  k5 x0 x1 h8
set_option maxRecDepth 100000 in
set_option maxHeartbeats 4000000 in
theorem BX9_run_146_ok {G : xG} {l : Launch} {k5 : Option Nat → Int32 → Hp → Option (Int32 × Hp)} (hk5 : ∀ {x0 : Option Nat} {x1 : Int32} {h0 h1 : Hp} {r : Int32}, k5 x0 x1 h0 = some (r, h1) → xv G l mX9_run 13 0 0 5 [(0, false, va_rf x0), (1, false, .int x1)] [] h0 (xP mkI r h1)) {x0 : Option Nat} {x1 : Int32} {h0 h1 : Hp} {r : Int32} (hF : BX9_run_146 k5 x0 x1 h0 = some (r, h1)) : xv G l mX9_run 13 0 0 146 [(0, false, va_rf x0), (1, false, .int x1)] [] h0 (xP mkI r h1) := by
  unfold BX9_run_146 at hF
  refine xe_aload_n dX9_run_146 rfl rfl ?_
  refine xe_dup dX9_run_147 (va_rf_cat _) ?_
  obtain ⟨a2, e3, t4, hF⟩ := gI_inv hF
  refine xq_getI dX9_run_148 fl_Walker_49 xk_8 e3 t4 rfl ?_
  refine xe_iconst (v := 1) dX9_run_151 (by decide) ?_
  refine xe_iadd dX9_run_152 ?_
  obtain ⟨a5, e6, t7, hF⟩ := pI_inv hF
  refine xq_putI dX9_run_153 fl_Walker_49 xk_8 (by decide) (fun z => by cases z) e6 t7 (Or.inl rfl) ?_
  refine xe_goto (tgt := 5) dX9_run_156 (by decide) ?_
  exact xv.lv (hk5 hF) (xsub_cons rfl (xsub_cons rfl xsub_nil))
def BX9_run_111 (k5 : Option Nat → Int32 → Hp → Option (Int32 × Hp)) (x0 : Option Nat) (x1 : Int32) (h0 : Hp) : Option (Int32 × Hp) :=
  gI h0 x0 8 4 fun v1 =>
  if (0 : Int32) < v1 then
    gI h0 x0 8 12 fun v6 =>
    gR h0 x0 8 2 fun v10 =>
    gI h0 x0 8 4 fun v14 =>
    aR h0 v10 "SeldomOps$Call" (v14 - 1) fun v18 =>
    gR h0 v18 0 4 fun v24 =>
    gI h0 v24 9 1 fun v28 =>
    pI h0 x0 8 12 (if v6 < v28 then v28 else v6) fun h35 =>
    BX9_run_146 k5 x0 x1 h35
  else
    BX9_run_146 k5 x0 x1 h0
set_option maxRecDepth 100000 in
set_option maxHeartbeats 4000000 in
theorem BX9_run_111_ok {G : xG} {l : Launch} {k5 : Option Nat → Int32 → Hp → Option (Int32 × Hp)} (hk5 : ∀ {x0 : Option Nat} {x1 : Int32} {h0 h1 : Hp} {r : Int32}, k5 x0 x1 h0 = some (r, h1) → xv G l mX9_run 13 0 0 5 [(0, false, va_rf x0), (1, false, .int x1)] [] h0 (xP mkI r h1)) {x0 : Option Nat} {x1 : Int32} {h0 h1 : Hp} {r : Int32} (hF : BX9_run_111 k5 x0 x1 h0 = some (r, h1)) : xv G l mX9_run 13 0 0 111 [(0, false, va_rf x0), (1, false, .int x1)] [] h0 (xP mkI r h1) := by
  unfold BX9_run_111 at hF
  refine xe_aload_n dX9_run_111 rfl rfl ?_
  obtain ⟨a2, e3, t4, hF⟩ := gI_inv hF
  refine xq_getI dX9_run_112 fl_Walker_28 xk_8 e3 t4 rfl ?_
  refine xe_if_le (tgt := 146) dX9_run_115 (by decide) (fun c5 => ?_) (fun c5 => ?_)
  · replace hF := if_p c5 hF
    refine xe_aload_n dX9_run_118 rfl rfl ?_
    refine xe_aload_n dX9_run_119 rfl rfl ?_
    obtain ⟨a7, e8, t9, hF⟩ := gI_inv hF
    refine xq_getI dX9_run_120 fl_Walker_55 xk_8 e8 t9 rfl ?_
    refine xe_aload_n dX9_run_123 rfl rfl ?_
    obtain ⟨a11, e12, t13, hF⟩ := gR_inv hF
    refine xq_getR dX9_run_124 fl_Walker_20 xk_8 e12 t13 rfl ?_
    refine xe_aload_n dX9_run_127 rfl rfl ?_
    obtain ⟨a15, e16, t17, hF⟩ := gI_inv hF
    refine xq_getI dX9_run_128 fl_Walker_28 xk_8 e16 t17 rfl ?_
    refine xe_iconst (v := 1) dX9_run_131 (by decide) ?_
    refine xe_isub dX9_run_132 ?_
    obtain ⟨a19, n20, e21, t22, b23, hF⟩ := aR_inv hF
    refine xq_aald dX9_run_133 e21 t22 (by decide) b23 ?_
    obtain ⟨a25, e26, t27, hF⟩ := gR_inv hF
    refine xq_getR dX9_run_134 fl_Walker_126 xk_0 e26 t27 rfl ?_
    obtain ⟨a29, e30, t31, hF⟩ := gI_inv hF
    refine xq_getI dX9_run_137 fl_Walker_130 xk_9 e30 t31 rfl ?_
    refine xe_mmax dX9_run_140 ⟨tw_933, tw_593, tw_14, tw_594⟩ (by decide) (Nat.le_trans (cs_r cs_0) (by decide)) ?_
    obtain ⟨a32, e33, t34, hF⟩ := pI_inv hF
    refine xq_putI dX9_run_143 fl_Walker_55 xk_8 (by decide) (fun z => by cases z) e33 t34 (Or.inl rfl) ?_
    exact xv.lv (BX9_run_146_ok hk5 hF) (xsub_cons rfl (xsub_cons rfl xsub_nil))
  · replace hF := if_n c5 hF
    exact xv.lv (BX9_run_146_ok hk5 hF) (xsub_cons rfl (xsub_cons rfl xsub_nil))
def BX9_run_5 : Nat → Option Nat → Int32 → Hp → Option (Int32 × Hp)
  | 0, _, _, _ => none
  | n + 1, x0, x1, h0 =>
    gI h0 x0 8 10 fun v1 =>
    if (v1 : Int32) < x1 then
      gI h0 x0 8 4 fun v6 =>
      if (0 : Int32) < v6 then
        gR h0 x0 8 2 fun v11 =>
        gI h0 x0 8 4 fun v15 =>
        aR h0 v11 "SeldomOps$Call" (v15 - 1) fun v19 =>
        gI h0 v19 0 2 fun v25 =>
        pI h0 v19 0 3 (v25 + 1) fun h32 =>
        pI h32 x0 8 14 (-1) fun h37 =>
        gR h37 v19 0 1 fun v39 =>
        gR h37 v39 2 4 fun v43 =>
        aI h37 v43 .int v25 fun v47 =>
        gR h37 v19 0 1 fun v53 =>
        gR h37 v53 2 5 fun v57 =>
        aI h37 v57 .int v25 fun v61 =>
        gR h37 v19 0 1 fun v67 =>
        gR h37 v67 2 6 fun v71 =>
        aI h37 v71 .int v25 fun v75 =>
        rcv h37 x0 8 <|
        cl (FX9_perform x0 v19 v47 v61 v75 h37) fun v81 h82 =>
        if (v81 : Int32) = (-1) then
          gI h82 v19 0 3 fun v88 =>
          pI h82 v19 0 2 v88 fun h95 =>
          BX9_run_111 (BX9_run_5 n) x0 x1 h95
        else
          gI h82 v19 0 0 fun v97 =>
          rcv h82 x0 8 <|
          cl (FX9_raise x0 v81 v97 v25 h82) fun v101 h102 =>
          BX9_run_111 (BX9_run_5 n) x0 x1 h102
      else
        BX9_run_159 x0 h0
    else
      BX9_run_159 x0 h0
set_option maxRecDepth 100000 in
set_option maxHeartbeats 4000000 in
theorem BX9_run_5_ok {G : xG} {l : Launch} : ∀ (n : Nat) {x0 : Option Nat} {x1 : Int32} {h0 h1 : Hp} {r : Int32} (hF : BX9_run_5 n x0 x1 h0 = some (r, h1)), xv G l mX9_run 13 0 0 5 [(0, false, va_rf x0), (1, false, .int x1)] [] h0 (xP mkI r h1) := by
  intro n
  induction n with
  | zero => intro x0 x1 h0 h1 r hF; cases hF
  | succ n ih =>
    intro x0 x1 h0 h1 r hF
    unfold BX9_run_5 at hF
    refine xe_aload_n dX9_run_5 rfl rfl ?_
    obtain ⟨a2, e3, t4, hF⟩ := gI_inv hF
    refine xq_getI dX9_run_6 fl_Walker_49 xk_8 e3 t4 rfl ?_
    refine xe_iload_n dX9_run_9 rfl rfl ?_
    refine xe_icmp_ge (tgt := 159) dX9_run_10 (by decide) (fun c5 => ?_) (fun c5 => ?_)
    · replace hF := if_p c5 hF
      refine xe_aload_n dX9_run_13 rfl rfl ?_
      obtain ⟨a7, e8, t9, hF⟩ := gI_inv hF
      refine xq_getI dX9_run_14 fl_Walker_28 xk_8 e8 t9 rfl ?_
      refine xe_if_le (tgt := 159) dX9_run_17 (by decide) (fun c10 => ?_) (fun c10 => ?_)
      · replace hF := if_p c10 hF
        refine xe_aload_n dX9_run_20 rfl rfl ?_
        obtain ⟨a12, e13, t14, hF⟩ := gR_inv hF
        refine xq_getR dX9_run_21 fl_Walker_20 xk_8 e13 t14 rfl ?_
        refine xe_aload_n dX9_run_24 rfl rfl ?_
        obtain ⟨a16, e17, t18, hF⟩ := gI_inv hF
        refine xq_getI dX9_run_25 fl_Walker_28 xk_8 e17 t18 rfl ?_
        refine xe_iconst (v := 1) dX9_run_28 (by decide) ?_
        refine xe_isub dX9_run_29 ?_
        obtain ⟨a20, n21, e22, t23, b24, hF⟩ := aR_inv hF
        refine xq_aald dX9_run_30 e22 t23 (by decide) b24 ?_
        refine xe_astore_n dX9_run_31 rfl (by decide) ?_
        refine xe_aload_n dX9_run_32 rfl rfl ?_
        obtain ⟨a26, e27, t28, hF⟩ := gI_inv hF
        refine xq_getI dX9_run_33 fl_Walker_96 xk_0 e27 t28 rfl ?_
        refine xe_istore_n dX9_run_36 rfl (by decide) ?_
        refine xe_aload_n dX9_run_37 rfl rfl ?_
        refine xe_iload_n dX9_run_38 rfl rfl ?_
        refine xe_iconst (v := 1) dX9_run_39 (by decide) ?_
        refine xe_iadd dX9_run_40 ?_
        obtain ⟨a29, e30, t31, hF⟩ := pI_inv hF
        refine xq_putI dX9_run_41 fl_Walker_99 xk_0 (by decide) (fun z => by cases z) e30 t31 (Or.inl rfl) ?_
        refine xe_aload_n dX9_run_44 rfl rfl ?_
        refine xe_iconst (v := (-1)) dX9_run_45 (by decide) ?_
        obtain ⟨a34, e35, t36, hF⟩ := pI_inv hF
        refine xq_putI dX9_run_46 fl_Walker_61 xk_8 (by decide) (fun z => by cases z) e35 t36 (Or.inl rfl) ?_
        refine xe_aload_n dX9_run_49 rfl rfl ?_
        refine xe_aload_n dX9_run_50 rfl rfl ?_
        refine xe_aload_n dX9_run_51 rfl rfl ?_
        obtain ⟨a40, e41, t42, hF⟩ := gR_inv hF
        refine xq_getR dX9_run_52 fl_Walker_102 xk_0 e41 t42 rfl ?_
        obtain ⟨a44, e45, t46, hF⟩ := gR_inv hF
        refine xq_getR dX9_run_55 fl_Walker_106 xk_2 e45 t46 rfl ?_
        refine xe_iload_n dX9_run_58 rfl rfl ?_
        obtain ⟨a48, n49, e50, t51, b52, hF⟩ := aI_inv hF
        refine xq_iald dX9_run_59 e50 t51 b52 ?_
        refine xe_aload_n dX9_run_60 rfl rfl ?_
        obtain ⟨a54, e55, t56, hF⟩ := gR_inv hF
        refine xq_getR dX9_run_61 fl_Walker_102 xk_0 e55 t56 rfl ?_
        obtain ⟨a58, e59, t60, hF⟩ := gR_inv hF
        refine xq_getR dX9_run_64 fl_Walker_109 xk_2 e59 t60 rfl ?_
        refine xe_iload_n dX9_run_67 rfl rfl ?_
        obtain ⟨a62, n63, e64, t65, b66, hF⟩ := aI_inv hF
        refine xq_iald dX9_run_68 e64 t65 b66 ?_
        refine xe_aload_n dX9_run_69 rfl rfl ?_
        obtain ⟨a68, e69, t70, hF⟩ := gR_inv hF
        refine xq_getR dX9_run_70 fl_Walker_102 xk_0 e69 t70 rfl ?_
        obtain ⟨a72, e73, t74, hF⟩ := gR_inv hF
        refine xq_getR dX9_run_73 fl_Walker_112 xk_2 e73 t74 rfl ?_
        refine xe_iload_n dX9_run_76 rfl rfl ?_
        obtain ⟨a76, n77, e78, t79, b80, hF⟩ := aI_inv hF
        refine xq_iald dX9_run_77 e78 t79 b80 ?_
        obtain ⟨a86, e84, t85, hF⟩ := rcv_inv hF
        obtain ⟨v81, h82, o83, hF⟩ := cl_inv hF
        refine xz (xq_callV (As := [va_rf _, .int _, .int _, .int _]) (rest := []) dX9_run_78 mk_X9_perform ⟨tw_742, tw_744, ts_19⟩ (ci := 8) rfl e84 t85 (FX9_perform_ok o83) xP_q (by decide) (by decide) rfl rfl ?_)
        refine xe_istore dX9_run_81 (by decide) ?_
        refine xe_iload dX9_run_83 rfl ?_
        refine xe_iconst (v := (-1)) dX9_run_85 (by decide) ?_
        refine xe_icmp_ne (tgt := 100) dX9_run_86 (by decide) (fun c87 => ?_) (fun c87 => ?_)
        · replace hF := if_p c87 hF
          refine xe_aload_n dX9_run_89 rfl rfl ?_
          refine xe_aload_n dX9_run_90 rfl rfl ?_
          obtain ⟨a89, e90, t91, hF⟩ := gI_inv hF
          refine xq_getI dX9_run_91 fl_Walker_99 xk_0 e90 t91 rfl ?_
          obtain ⟨a92, e93, t94, hF⟩ := pI_inv hF
          refine xq_putI dX9_run_94 fl_Walker_96 xk_0 (by decide) (fun z => by cases z) e93 t94 (Or.inl rfl) ?_
          refine xe_goto (tgt := 111) dX9_run_97 (by decide) ?_
          exact xv.lv (BX9_run_111_ok ih hF) (xsub_cons rfl (xsub_cons rfl xsub_nil))
        · replace hF := if_n c87 hF
          refine xe_aload_n dX9_run_100 rfl rfl ?_
          refine xe_iload dX9_run_101 rfl ?_
          refine xe_aload_n dX9_run_103 rfl rfl ?_
          obtain ⟨a98, e99, t100, hF⟩ := gI_inv hF
          refine xq_getI dX9_run_104 fl_Walker_119 xk_0 e99 t100 rfl ?_
          refine xe_iload_n dX9_run_107 rfl rfl ?_
          obtain ⟨a106, e104, t105, hF⟩ := rcv_inv hF
          obtain ⟨v101, h102, o103, hF⟩ := cl_inv hF
          refine xz (xq_callV (As := [.int _, .int _, .int _]) (rest := []) dX9_run_108 mk_X9_raise ⟨tw_919, tw_921, ts_35⟩ (ci := 8) rfl e104 t105 (FX9_raise_ok o103) xP_q (by decide) (by decide) rfl rfl ?_)
          exact xv.lv (BX9_run_111_ok ih hF) (xsub_cons rfl (xsub_cons rfl xsub_nil))
      · replace hF := if_n c10 hF
        exact xv.lv (BX9_run_159_ok hF) (xsub_cons rfl xsub_nil)
    · replace hF := if_n c5 hF
      exact xv.lv (BX9_run_159_ok hF) (xsub_cons rfl xsub_nil)
def FX9_run (p0 : Option Nat) (p1 : Int32) (h0 : Hp) : Option (Int32 × Hp) :=
  pI h0 p0 8 10 0 fun h4 =>
  BX9_run_5 100000 p0 p1 h4
set_option maxRecDepth 100000 in
set_option maxHeartbeats 4000000 in
theorem FX9_run_ok {G : xG} {l : Launch} {p0 : Option Nat} {p1 : Int32} {h0 h1 : Hp} {r : Int32} (hF : FX9_run p0 p1 h0 = some (r, h1)) : xc G l mX9_run 13 0 0 [va_rf p0, .int p1] h0 (xP mkI r h1) := by
  refine xo_I [.inr (.inr _), .inl _] (by decide) (Nat.le_of_ble_eq_true rfl) rfl ?_
  show xv _ _ _ _ _ _ _ [(0, false, va_rf p0), (1, false, .int p1)] _ _ _
  unfold FX9_run at hF
  refine xe_aload_n dX9_run_0 rfl rfl ?_
  refine xe_iconst (v := 0) dX9_run_1 (by decide) ?_
  obtain ⟨a1, e2, t3, hF⟩ := pI_inv hF
  refine xq_putI dX9_run_2 fl_Walker_49 xk_8 (by decide) (fun z => by cases z) e2 t3 (Or.inl rfl) ?_
  exact xv.lv (BX9_run_5_ok _ hF) (xsub_cons rfl (xsub_cons rfl xsub_nil))
/-! SeldomOps$Walker.start(ILSeldomOps$Method;[J)V -/
def BX9_start_69 : Nat → Option Nat → Option Nat → Option Nat → Int32 → Int32 → Hp → Option (Unit × Hp)
  | 0, _, _, _, _, _, _ => none
  | n + 1, x0, x2, x3, x4, x5, h0 =>
    gI h0 x2 2 2 fun v1 =>
    if (x5 : Int32) < v1 then
      gR h0 x0 8 2 fun v6 =>
      aR h0 v6 "SeldomOps$Call" 0 fun v10 =>
      gR h0 x2 2 1 fun v16 =>
      aI h0 v16 .int x5 fun v20 =>
      aL h0 x3 x5 fun v26 =>
      cl (FX9_asArgument v20 v26 h0) fun v32 h33 =>
      rcv h33 v10 0 <|
      cl (FX0_writeLocal v10 x4 v32 h33) fun v35 h36 =>
      gR h36 x2 2 1 fun v41 =>
      aI h36 v41 .int x5 fun v45 =>
      cl (FX11_width v45 h36) fun v51 h52 =>
      BX9_start_69 n x0 x2 x3 (x4 + v51) (x5 + 1) h52
    else
      some ((), h0)
set_option maxRecDepth 100000 in
set_option maxHeartbeats 4000000 in
theorem BX9_start_69_ok {G : xG} {l : Launch} : ∀ (n : Nat) {x0 : Option Nat} {x2 : Option Nat} {x3 : Option Nat} {x4 : Int32} {x5 : Int32} {h0 h1 : Hp} {r : Unit} (hF : BX9_start_69 n x0 x2 x3 x4 x5 h0 = some (r, h1)), xv G l mX9_start 3 0 0 69 [(0, false, va_rf x0), (2, false, va_rf x2), (3, false, va_rf x3), (4, false, .int x4), (5, false, .int x5)] [] h0 (xP mkV r h1) := by
  intro n
  induction n with
  | zero => intro x0 x2 x3 x4 x5 h0 h1 r hF; cases hF
  | succ n ih =>
    intro x0 x2 x3 x4 x5 h0 h1 r hF
    unfold BX9_start_69 at hF
    refine xe_iload dX9_start_69 rfl ?_
    refine xe_aload_n dX9_start_71 rfl rfl ?_
    obtain ⟨a2, e3, t4, hF⟩ := gI_inv hF
    refine xq_getI dX9_start_72 fl_Walker_76 xk_2 e3 t4 rfl ?_
    refine xe_icmp_ge (tgt := 124) dX9_start_75 (by decide) (fun c5 => ?_) (fun c5 => ?_)
    · replace hF := if_p c5 hF
      refine xe_aload_n dX9_start_78 rfl rfl ?_
      obtain ⟨a7, e8, t9, hF⟩ := gR_inv hF
      refine xq_getR dX9_start_79 fl_Walker_20 xk_8 e8 t9 rfl ?_
      refine xe_iconst (v := 0) dX9_start_82 (by decide) ?_
      obtain ⟨a11, n12, e13, t14, b15, hF⟩ := aR_inv hF
      refine xq_aald dX9_start_83 e13 t14 (by decide) b15 ?_
      refine xe_iload dX9_start_84 rfl ?_
      refine xe_aload_n dX9_start_86 rfl rfl ?_
      obtain ⟨a17, e18, t19, hF⟩ := gR_inv hF
      refine xq_getR dX9_start_87 fl_Walker_81 xk_2 e18 t19 rfl ?_
      refine xe_iload dX9_start_90 rfl ?_
      obtain ⟨a21, n22, e23, t24, b25, hF⟩ := aI_inv hF
      refine xq_iald dX9_start_92 e23 t24 b25 ?_
      refine xe_aload_n dX9_start_93 rfl rfl ?_
      refine xe_iload dX9_start_94 rfl ?_
      obtain ⟨a27, n28, e29, t30, b31, hF⟩ := aL_inv hF
      refine xq_lald dX9_start_96 e29 t30 b31 ?_
      obtain ⟨v32, h33, o34, hF⟩ := cl_inv hF
      refine xz (xq_callS (As := [.int _, .long _]) (rest := [.int _, va_rf _]) dX9_start_97 mk_X9_asArgument ⟨tw_727, tw_728⟩ (FX9_asArgument_ok o34) xP_q (by decide) (Nat.le_trans (cs_i (cs_r cs_0)) (by decide)) rfl rfl ?_)
      obtain ⟨a40, e38, t39, hF⟩ := rcv_inv hF
      obtain ⟨v35, h36, o37, hF⟩ := cl_inv hF
      refine xz (xq_callV (As := [.int _, .long _]) (rest := []) dX9_start_100 mk_X0_writeLocal ⟨tw_732, tw_733, tw_734⟩ (ci := 0) rfl e38 t39 (FX0_writeLocal_ok o37) xP_q (by decide) (by decide) rfl rfl ?_)
      refine xe_iload dX9_start_103 rfl ?_
      refine xe_aload_n dX9_start_105 rfl rfl ?_
      obtain ⟨a42, e43, t44, hF⟩ := gR_inv hF
      refine xq_getR dX9_start_106 fl_Walker_81 xk_2 e43 t44 rfl ?_
      refine xe_iload dX9_start_109 rfl ?_
      obtain ⟨a46, n47, e48, t49, b50, hF⟩ := aI_inv hF
      refine xq_iald dX9_start_111 e48 t49 b50 ?_
      obtain ⟨v51, h52, o53, hF⟩ := cl_inv hF
      refine xz (xq_callSN (As := [.int _]) (rest := [.int _]) dX9_start_112 mk_X11_width ⟨tn_737, tw_387⟩ (FX11_width_ok o53) xP_q (by decide) (Nat.le_trans (cs_i cs_0) (by decide)) rfl rfl ?_)
      refine xe_iadd dX9_start_115 ?_
      refine xe_istore dX9_start_116 (by decide) ?_
      refine xe_iinc (v := _ + 1) dX9_start_118 rfl rfl (by decide) ?_
      refine xe_goto (tgt := 69) dX9_start_121 (by decide) ?_
      exact xv.lv (ih hF) (xsub_cons rfl (xsub_cons rfl (xsub_cons rfl (xsub_cons rfl (xsub_cons rfl xsub_nil)))))
    · replace hF := if_n c5 hF
      exact xe_return dX9_start_124 (xP_ret (mk := mkV) hF)
def FX9_start (p0 : Option Nat) (p1 : Int32) (p2 : Option Nat) (p3 : Option Nat) (h0 : Hp) : Option (Unit × Hp) :=
  pZ h0 p0 8 6 1 fun h4 =>
  gR h4 p0 8 1 fun v6 =>
  rcv h4 v6 7 <|
  cl (FX8_clear v6 h4) fun v10 h11 =>
  pL h11 p0 8 5 0 fun h19 =>
  pI h19 p0 8 7 (-1) fun h24 =>
  pI h24 p0 8 8 (-1) fun h29 =>
  pI h29 p0 8 9 (-1) fun h34 =>
  pI h34 p0 8 11 1 fun h39 =>
  pI h39 p0 8 12 0 fun h44 =>
  pI h44 p0 8 13 0 fun h49 =>
  pI h49 p0 8 4 1 fun h54 =>
  gR h54 p0 8 2 fun v56 =>
  aR h54 v56 "SeldomOps$Call" 0 fun v60 =>
  rcv h54 v60 0 <|
  cl (FX0_begin v60 p1 p2 h54) fun v66 h67 =>
  BX9_start_69 100000 p0 p2 p3 0 0 h67
set_option maxRecDepth 100000 in
set_option maxHeartbeats 4000000 in
theorem FX9_start_ok {G : xG} {l : Launch} {p0 : Option Nat} {p1 : Int32} {p2 : Option Nat} {p3 : Option Nat} {h0 h1 : Hp} {r : Unit} (hF : FX9_start p0 p1 p2 p3 h0 = some (r, h1)) : xc G l mX9_start 3 0 0 [va_rf p0, .int p1, va_rf p2, va_rf p3] h0 (xP mkV r h1) := by
  refine xo_V [.inr (.inr _), .inl _, .inr (.inr _), .inr (.inr _)] (by decide) (Nat.le_of_ble_eq_true rfl) rfl ?_
  show xv _ _ _ _ _ _ _ [(0, false, va_rf p0), (1, false, .int p1), (2, false, va_rf p2), (3, false, va_rf p3)] _ _ _
  unfold FX9_start at hF
  refine xe_aload_n dX9_start_0 rfl rfl ?_
  refine xe_iconst (v := 1) dX9_start_1 (by decide) ?_
  obtain ⟨a1, e2, t3, z5, hF⟩ := pZ_inv hF
  refine xq_putI dX9_start_2 fl_Walker_36 xk_8 (by decide) (fun z => by cases z) e2 t3 (Or.inr ⟨rfl, z5⟩) ?_
  refine xe_aload_n dX9_start_5 rfl rfl ?_
  obtain ⟨a7, e8, t9, hF⟩ := gR_inv hF
  refine xq_getR dX9_start_6 fl_Walker_12 xk_8 e8 t9 rfl ?_
  obtain ⟨a15, e13, t14, hF⟩ := rcv_inv hF
  obtain ⟨v10, h11, o12, hF⟩ := cl_inv hF
  refine xz (xq_callV (As := []) (rest := []) dX9_start_9 mk_X8_clear ⟨tw_718, tw_719, tw_720⟩ (ci := 7) rfl e13 t14 (FX8_clear_ok o12) xP_q (by decide) (by decide) rfl rfl ?_)
  refine xe_aload_n dX9_start_12 rfl rfl ?_
  refine xe_lconst (v := 0) dX9_start_13 (by decide) ?_
  obtain ⟨a16, e17, t18, hF⟩ := pL_inv hF
  refine xq_putL dX9_start_14 fl_Walker_32 xk_8 (by decide) (fun z => by cases z) e17 t18 rfl ?_
  refine xe_aload_n dX9_start_17 rfl rfl ?_
  refine xe_iconst (v := (-1)) dX9_start_18 (by decide) ?_
  obtain ⟨a21, e22, t23, hF⟩ := pI_inv hF
  refine xq_putI dX9_start_19 fl_Walker_40 xk_8 (by decide) (fun z => by cases z) e22 t23 (Or.inl rfl) ?_
  refine xe_aload_n dX9_start_22 rfl rfl ?_
  refine xe_iconst (v := (-1)) dX9_start_23 (by decide) ?_
  obtain ⟨a26, e27, t28, hF⟩ := pI_inv hF
  refine xq_putI dX9_start_24 fl_Walker_43 xk_8 (by decide) (fun z => by cases z) e27 t28 (Or.inl rfl) ?_
  refine xe_aload_n dX9_start_27 rfl rfl ?_
  refine xe_iconst (v := (-1)) dX9_start_28 (by decide) ?_
  obtain ⟨a31, e32, t33, hF⟩ := pI_inv hF
  refine xq_putI dX9_start_29 fl_Walker_46 xk_8 (by decide) (fun z => by cases z) e32 t33 (Or.inl rfl) ?_
  refine xe_aload_n dX9_start_32 rfl rfl ?_
  refine xe_iconst (v := 1) dX9_start_33 (by decide) ?_
  obtain ⟨a36, e37, t38, hF⟩ := pI_inv hF
  refine xq_putI dX9_start_34 fl_Walker_52 xk_8 (by decide) (fun z => by cases z) e37 t38 (Or.inl rfl) ?_
  refine xe_aload_n dX9_start_37 rfl rfl ?_
  refine xe_iconst (v := 0) dX9_start_38 (by decide) ?_
  obtain ⟨a41, e42, t43, hF⟩ := pI_inv hF
  refine xq_putI dX9_start_39 fl_Walker_55 xk_8 (by decide) (fun z => by cases z) e42 t43 (Or.inl rfl) ?_
  refine xe_aload_n dX9_start_42 rfl rfl ?_
  refine xe_iconst (v := 0) dX9_start_43 (by decide) ?_
  obtain ⟨a46, e47, t48, hF⟩ := pI_inv hF
  refine xq_putI dX9_start_44 fl_Walker_58 xk_8 (by decide) (fun z => by cases z) e47 t48 (Or.inl rfl) ?_
  refine xe_aload_n dX9_start_47 rfl rfl ?_
  refine xe_iconst (v := 1) dX9_start_48 (by decide) ?_
  obtain ⟨a51, e52, t53, hF⟩ := pI_inv hF
  refine xq_putI dX9_start_49 fl_Walker_28 xk_8 (by decide) (fun z => by cases z) e52 t53 (Or.inl rfl) ?_
  refine xe_aload_n dX9_start_52 rfl rfl ?_
  obtain ⟨a57, e58, t59, hF⟩ := gR_inv hF
  refine xq_getR dX9_start_53 fl_Walker_20 xk_8 e58 t59 rfl ?_
  refine xe_iconst (v := 0) dX9_start_56 (by decide) ?_
  obtain ⟨a61, n62, e63, t64, b65, hF⟩ := aR_inv hF
  refine xq_aald dX9_start_57 e63 t64 (by decide) b65 ?_
  refine xe_iload_n dX9_start_58 rfl rfl ?_
  refine xe_aload_n dX9_start_59 rfl rfl ?_
  obtain ⟨a71, e69, t70, hF⟩ := rcv_inv hF
  obtain ⟨v66, h67, o68, hF⟩ := cl_inv hF
  refine xz (xq_callV (As := [.int _, va_rf _]) (rest := []) dX9_start_60 mk_X0_begin ⟨tw_722, tw_723, tw_724⟩ (ci := 0) rfl e69 t70 (FX0_begin_ok o68) xP_q (by decide) (by decide) rfl rfl ?_)
  refine xe_iconst (v := 0) dX9_start_63 (by decide) ?_
  refine xe_istore dX9_start_64 (by decide) ?_
  refine xe_iconst (v := 0) dX9_start_66 (by decide) ?_
  refine xe_istore dX9_start_67 (by decide) ?_
  exact xv.lv (BX9_start_69_ok _ hF) (xsub_cons rfl (xsub_cons rfl (xsub_cons rfl (xsub_cons rfl (xsub_cons rfl xsub_nil)))))
/-! SeldomOps.alter(IIIII)I -/
def FX11_alter (p0 : Option Nat) (p1 : Int32) (p2 : Int32) (p3 : Int32) (p4 : Int32) (p5 : Int32) (h0 : Hp) : Option (Int32 × Hp) :=
  gR h0 p0 10 0 fun v1 =>
  rcv h0 v1 3 <|
  cl (FX4_findMethod v1 p1 h0) fun v5 h6 =>
  nz v5 (
    some ((-2), h6)
  ) (
    gI h6 v5 2 7 fun v12 =>
    cl (FX11_within p2 v12 h6) fun v16 h17 =>
    if (v16 : Int32) = 0 then
      some ((-2), h17)
    else
      cl (FX11_within p3 36 h17) fun v20 h21 =>
      if (v20 : Int32) = 0 then
        some ((-2), h21)
      else
        gR h21 p0 10 0 fun v24 =>
        rcv h21 v24 3 <|
        cl (FX4_forgetJudgements v24 h21) fun v28 h29 =>
        rcv h29 v5 2 <|
        cl (FX2_setOperation v5 p2 p3 p4 p5 h29) fun v34 h35 =>
        some (p2, h35)
  )
set_option maxRecDepth 100000 in
set_option maxHeartbeats 4000000 in
theorem FX11_alter_ok {G : xG} {l : Launch} {p0 : Option Nat} {p1 : Int32} {p2 : Int32} {p3 : Int32} {p4 : Int32} {p5 : Int32} {h0 h1 : Hp} {r : Int32} (hF : FX11_alter p0 p1 p2 p3 p4 p5 h0 = some (r, h1)) : xc G l mX11_alter 3 0 0 [va_rf p0, .int p1, .int p2, .int p3, .int p4, .int p5] h0 (xP mkI r h1) := by
  refine xo_I [.inr (.inr _), .inl _, .inl _, .inl _, .inl _, .inl _] (by decide) (Nat.le_of_ble_eq_true rfl) rfl ?_
  show xv _ _ _ _ _ _ _ [(0, false, va_rf p0), (1, false, .int p1), (2, false, .int p2), (3, false, .int p3), (4, false, .int p4), (5, false, .int p5)] _ _ _
  unfold FX11_alter at hF
  refine xe_aload_n dX11_alter_0 rfl rfl ?_
  obtain ⟨a2, e3, t4, hF⟩ := gR_inv hF
  refine xq_getR dX11_alter_1 fl_SeldomOps_10 xk_10 e3 t4 rfl ?_
  refine xe_iload_n dX11_alter_4 rfl rfl ?_
  obtain ⟨a10, e8, t9, hF⟩ := rcv_inv hF
  obtain ⟨v5, h6, o7, hF⟩ := cl_inv hF
  refine xz (xq_callV (As := [.int _]) (rest := []) dX11_alter_5 mk_X4_findMethod ⟨tw_381, tw_382, tw_383⟩ (ci := 3) rfl e8 t9 (FX4_findMethod_ok o7) xP_q (by decide) (by decide) rfl rfl ?_)
  refine xe_astore dX11_alter_8 (by decide) ?_
  refine xe_aload dX11_alter_10 rfl ?_
  refine xe_ifnull (tgt := 36) dX11_alter_12 (by decide) (fun e11 => ?_) (fun a_ e11 => ?_)
  · replace hF := nz_n' e11 hF
    refine xe_bipush (v := (-2)) dX11_alter_36 (by decide) ?_
    exact xe_ireturn dX11_alter_38 (xP_ret (mk := mkI) hF)
  · replace hF := nz_s' e11 hF
    refine xe_iload_n dX11_alter_15 rfl rfl ?_
    refine xe_aload dX11_alter_16 rfl ?_
    obtain ⟨a13, e14, t15, hF⟩ := gI_inv hF
    refine xq_getI dX11_alter_18 fl_SeldomOps_69 xk_2 e14 t15 rfl ?_
    obtain ⟨v16, h17, o18, hF⟩ := cl_inv hF
    refine xz (xq_callS (As := [.int _, .int _]) (rest := []) dX11_alter_21 mk_X11_within ⟨tw_263, tw_264⟩ (FX11_within_ok o18) xPZ_q (by decide) (by decide) rfl rfl ?_)
    refine xe_if_eq (tgt := 36) dX11_alter_24 (by decide) (fun c19 => ?_) (fun c19 => ?_)
    · replace hF := if_p c19 hF
      refine xe_bipush (v := (-2)) dX11_alter_36 (by decide) ?_
      exact xe_ireturn dX11_alter_38 (xP_ret (mk := mkI) hF)
    · replace hF := if_n c19 hF
      refine xe_iload_n dX11_alter_27 rfl rfl ?_
      refine xe_bipush (v := 36) dX11_alter_28 (by decide) ?_
      obtain ⟨v20, h21, o22, hF⟩ := cl_inv hF
      refine xz (xq_callS (As := [.int _, .int _]) (rest := []) dX11_alter_30 mk_X11_within ⟨tw_263, tw_264⟩ (FX11_within_ok o22) xPZ_q (by decide) (by decide) rfl rfl ?_)
      refine xe_if_ne (tgt := 39) dX11_alter_33 (by decide) (fun c23 => ?_) (fun c23 => ?_)
      · replace hF := if_p c23 hF
        refine xe_bipush (v := (-2)) dX11_alter_36 (by decide) ?_
        exact xe_ireturn dX11_alter_38 (xP_ret (mk := mkI) hF)
      · replace hF := if_n c23 hF
        refine xe_aload_n dX11_alter_39 rfl rfl ?_
        obtain ⟨a25, e26, t27, hF⟩ := gR_inv hF
        refine xq_getR dX11_alter_40 fl_SeldomOps_10 xk_10 e26 t27 rfl ?_
        obtain ⟨a33, e31, t32, hF⟩ := rcv_inv hF
        obtain ⟨v28, h29, o30, hF⟩ := cl_inv hF
        refine xz (xq_callV (As := []) (rest := []) dX11_alter_43 mk_X4_forgetJudgements ⟨tw_266, tw_267, tw_268⟩ (ci := 3) rfl e31 t32 (FX4_forgetJudgements_ok o30) xP_q (by decide) (by decide) rfl rfl ?_)
        refine xe_aload dX11_alter_46 rfl ?_
        refine xe_iload_n dX11_alter_48 rfl rfl ?_
        refine xe_iload_n dX11_alter_49 rfl rfl ?_
        refine xe_iload dX11_alter_50 rfl ?_
        refine xe_iload dX11_alter_52 rfl ?_
        obtain ⟨a39, e37, t38, hF⟩ := rcv_inv hF
        obtain ⟨v34, h35, o36, hF⟩ := cl_inv hF
        refine xz (xq_callV (As := [.int _, .int _, .int _, .int _]) (rest := []) dX11_alter_54 mk_X2_setOperation ⟨tw_401, tw_402, tw_403⟩ (ci := 2) rfl e37 t38 (FX2_setOperation_ok o36) xP_q (by decide) (by decide) rfl rfl ?_)
        refine xe_iload_n dX11_alter_57 rfl rfl ?_
        exact xe_ireturn dX11_alter_58 (xP_ret (mk := mkI) hF)
/-! SeldomOps.argument(II)I -/
def FX11_argument (p0 : Option Nat) (p1 : Int32) (p2 : Int32) (h0 : Hp) : Option (Int32 × Hp) :=
  gR h0 p0 10 0 fun v1 =>
  rcv h0 v1 3 <|
  cl (FX4_findMethod v1 p1 h0) fun v5 h6 =>
  nz v5 (
    some ((-2), h6)
  ) (
    cl (FX11_within p2 5 h6) fun v12 h13 =>
    if (v12 : Int32) = 0 then
      some ((-2), h13)
    else
      gI h13 v5 2 3 fun v16 =>
      cl (FX11_width p2 h13) fun v20 h21 =>
      if (8 : Int32) < (v16 + v20) then
        some ((-4), h21)
      else
        gR h21 p0 10 0 fun v24 =>
        rcv h21 v24 3 <|
        cl (FX4_forgetJudgements v24 h21) fun v28 h29 =>
        rcv h29 v5 2 <|
        cl (FX2_addArgument v5 p2 h29) fun v34 h35 =>
        some (v34, h35)
  )
set_option maxRecDepth 100000 in
set_option maxHeartbeats 4000000 in
theorem FX11_argument_ok {G : xG} {l : Launch} {p0 : Option Nat} {p1 : Int32} {p2 : Int32} {h0 h1 : Hp} {r : Int32} (hF : FX11_argument p0 p1 p2 h0 = some (r, h1)) : xc G l mX11_argument 4 0 0 [va_rf p0, .int p1, .int p2] h0 (xP mkI r h1) := by
  refine xo_I [.inr (.inr _), .inl _, .inl _] (by decide) (Nat.le_of_ble_eq_true rfl) rfl ?_
  show xv _ _ _ _ _ _ _ [(0, false, va_rf p0), (1, false, .int p1), (2, false, .int p2)] _ _ _
  unfold FX11_argument at hF
  refine xe_aload_n dX11_argument_0 rfl rfl ?_
  obtain ⟨a2, e3, t4, hF⟩ := gR_inv hF
  refine xq_getR dX11_argument_1 fl_SeldomOps_10 xk_10 e3 t4 rfl ?_
  refine xe_iload_n dX11_argument_4 rfl rfl ?_
  obtain ⟨a10, e8, t9, hF⟩ := rcv_inv hF
  obtain ⟨v5, h6, o7, hF⟩ := cl_inv hF
  refine xz (xq_callV (As := [.int _]) (rest := []) dX11_argument_5 mk_X4_findMethod ⟨tw_381, tw_382, tw_383⟩ (ci := 3) rfl e8 t9 (FX4_findMethod_ok o7) xP_q (by decide) (by decide) rfl rfl ?_)
  refine xe_astore_n dX11_argument_8 rfl (by decide) ?_
  refine xe_aload_n dX11_argument_9 rfl rfl ?_
  refine xe_ifnull (tgt := 21) dX11_argument_10 (by decide) (fun e11 => ?_) (fun a_ e11 => ?_)
  · replace hF := nz_n' e11 hF
    refine xe_bipush (v := (-2)) dX11_argument_21 (by decide) ?_
    exact xe_ireturn dX11_argument_23 (xP_ret (mk := mkI) hF)
  · replace hF := nz_s' e11 hF
    refine xe_iload_n dX11_argument_13 rfl rfl ?_
    refine xe_iconst (v := 5) dX11_argument_14 (by decide) ?_
    obtain ⟨v12, h13, o14, hF⟩ := cl_inv hF
    refine xz (xq_callS (As := [.int _, .int _]) (rest := []) dX11_argument_15 mk_X11_within ⟨tw_263, tw_264⟩ (FX11_within_ok o14) xPZ_q (by decide) (by decide) rfl rfl ?_)
    refine xe_if_ne (tgt := 24) dX11_argument_18 (by decide) (fun c15 => ?_) (fun c15 => ?_)
    · replace hF := if_p c15 hF
      refine xe_bipush (v := (-2)) dX11_argument_21 (by decide) ?_
      exact xe_ireturn dX11_argument_23 (xP_ret (mk := mkI) hF)
    · replace hF := if_n c15 hF
      refine xe_aload_n dX11_argument_24 rfl rfl ?_
      obtain ⟨a17, e18, t19, hF⟩ := gI_inv hF
      refine xq_getI dX11_argument_25 fl_SeldomOps_58 xk_2 e18 t19 rfl ?_
      refine xe_iload_n dX11_argument_28 rfl rfl ?_
      obtain ⟨v20, h21, o22, hF⟩ := cl_inv hF
      refine xz (xq_callS (As := [.int _]) (rest := [.int _]) dX11_argument_29 mk_X11_width ⟨tw_386, tw_387⟩ (FX11_width_ok o22) xP_q (by decide) (Nat.le_trans (cs_i cs_0) (by decide)) rfl rfl ?_)
      refine xe_iadd dX11_argument_32 ?_
      refine xe_bipush (v := 8) dX11_argument_33 (by decide) ?_
      refine xe_icmp_le (tgt := 41) dX11_argument_35 (by decide) (fun c23 => ?_) (fun c23 => ?_)
      · replace hF := if_p c23 hF
        refine xe_bipush (v := (-4)) dX11_argument_38 (by decide) ?_
        exact xe_ireturn dX11_argument_40 (xP_ret (mk := mkI) hF)
      · replace hF := if_n c23 hF
        refine xe_aload_n dX11_argument_41 rfl rfl ?_
        obtain ⟨a25, e26, t27, hF⟩ := gR_inv hF
        refine xq_getR dX11_argument_42 fl_SeldomOps_10 xk_10 e26 t27 rfl ?_
        obtain ⟨a33, e31, t32, hF⟩ := rcv_inv hF
        obtain ⟨v28, h29, o30, hF⟩ := cl_inv hF
        refine xz (xq_callV (As := []) (rest := []) dX11_argument_45 mk_X4_forgetJudgements ⟨tw_266, tw_267, tw_268⟩ (ci := 3) rfl e31 t32 (FX4_forgetJudgements_ok o30) xP_q (by decide) (by decide) rfl rfl ?_)
        refine xe_aload_n dX11_argument_48 rfl rfl ?_
        refine xe_iload_n dX11_argument_49 rfl rfl ?_
        obtain ⟨a39, e37, t38, hF⟩ := rcv_inv hF
        obtain ⟨v34, h35, o36, hF⟩ := cl_inv hF
        refine xz (xq_callV (As := [.int _]) (rest := []) dX11_argument_50 mk_X2_addArgument ⟨tw_392, tw_393, tw_394⟩ (ci := 2) rfl e37 t38 (FX2_addArgument_ok o36) xP_q (by decide) (by decide) rfl rfl ?_)
        exact xe_ireturn dX11_argument_53 (xP_ret (mk := mkI) hF)
/-! SeldomOps.cell(II)J -/
def FX11_cell (p0 : Option Nat) (p1 : Int32) (p2 : Int32) (h0 : Hp) : Option (Int64 × Hp) :=
  gR h0 p0 10 2 fun v1 =>
  gR h0 v1 8 1 fun v5 =>
  rcv h0 v5 7 <|
  cl (FX8_hasCell v5 p1 p2 h0) fun v9 h10 =>
  if (v9 : Int32) = 0 then
    some ((-2), h10)
  else
    rcv h10 v5 7 <|
    cl (FX8_read v5 p1 p2 h10) fun v16 h17 =>
    some (v16, h17)
set_option maxRecDepth 100000 in
set_option maxHeartbeats 4000000 in
theorem FX11_cell_ok {G : xG} {l : Launch} {p0 : Option Nat} {p1 : Int32} {p2 : Int32} {h0 h1 : Hp} {r : Int64} (hF : FX11_cell p0 p1 p2 h0 = some (r, h1)) : xc G l mX11_cell 3 0 0 [va_rf p0, .int p1, .int p2] h0 (xP mkL r h1) := by
  refine xo_L [.inr (.inr _), .inl _, .inl _] (by decide) (Nat.le_of_ble_eq_true rfl) rfl ?_
  show xv _ _ _ _ _ _ _ [(0, false, va_rf p0), (1, false, .int p1), (2, false, .int p2)] _ _ _
  unfold FX11_cell at hF
  refine xe_aload_n dX11_cell_0 rfl rfl ?_
  obtain ⟨a2, e3, t4, hF⟩ := gR_inv hF
  refine xq_getR dX11_cell_1 fl_SeldomOps_28 xk_10 e3 t4 rfl ?_
  obtain ⟨a6, e7, t8, hF⟩ := gR_inv hF
  refine xq_getR dX11_cell_4 fl_SeldomOps_161 xk_8 e7 t8 rfl ?_
  refine xe_astore_n dX11_cell_7 rfl (by decide) ?_
  refine xe_aload_n dX11_cell_8 rfl rfl ?_
  refine xe_iload_n dX11_cell_9 rfl rfl ?_
  refine xe_iload_n dX11_cell_10 rfl rfl ?_
  obtain ⟨a14, e12, t13, hF⟩ := rcv_inv hF
  obtain ⟨v9, h10, o11, hF⟩ := cl_inv hF
  refine xz (xq_callV (As := [.int _, .int _]) (rest := []) dX11_cell_11 mk_X8_hasCell ⟨tw_958, tw_852, tw_853⟩ (ci := 7) rfl e12 t13 (FX8_hasCell_ok o11) xPZ_q (by decide) (by decide) rfl rfl ?_)
  refine xe_if_eq (tgt := 26) dX11_cell_14 (by decide) (fun c15 => ?_) (fun c15 => ?_)
  · replace hF := if_p c15 hF
    refine xe_ldc2 (v := (-2)) dX11_cell_26 tw_960 ?_
    exact xe_lreturn dX11_cell_29 (xP_ret (mk := mkL) hF)
  · replace hF := if_n c15 hF
    refine xe_aload_n dX11_cell_17 rfl rfl ?_
    refine xe_iload_n dX11_cell_18 rfl rfl ?_
    refine xe_iload_n dX11_cell_19 rfl rfl ?_
    obtain ⟨a21, e19, t20, hF⟩ := rcv_inv hF
    obtain ⟨v16, h17, o18, hF⟩ := cl_inv hF
    refine xz (xq_callV (As := [.int _, .int _]) (rest := []) dX11_cell_20 mk_X8_read ⟨tw_959, tw_870, tw_871⟩ (ci := 7) rfl e19 t20 (FX8_read_ok o18) xP_q (by decide) (by decide) rfl rfl ?_)
    refine xe_goto (tgt := 29) dX11_cell_23 (by decide) ?_
    exact xe_lreturn dX11_cell_29 (xP_ret (mk := mkL) hF)
/-! SeldomOps.constant(J)I -/
def FX11_constant (p0 : Option Nat) (p1 : Int64) (h0 : Hp) : Option (Int32 × Hp) :=
  gR h0 p0 10 0 fun v1 =>
  gI h0 v1 3 3 fun v5 =>
  if (v5 : Int32) = 40 then
    some ((-4), h0)
  else
    gR h0 p0 10 0 fun v10 =>
    rcv h0 v10 3 <|
    cl (FX4_forgetJudgements v10 h0) fun v14 h15 =>
    gR h15 p0 10 0 fun v20 =>
    rcv h15 v20 3 <|
    cl (FX4_addConstant v20 p1 h15) fun v24 h25 =>
    some (v24, h25)
set_option maxRecDepth 100000 in
set_option maxHeartbeats 4000000 in
theorem FX11_constant_ok {G : xG} {l : Launch} {p0 : Option Nat} {p1 : Int64} {h0 h1 : Hp} {r : Int32} (hF : FX11_constant p0 p1 h0 = some (r, h1)) : xc G l mX11_constant 2 0 0 [va_rf p0, .long p1] h0 (xP mkI r h1) := by
  refine xo_I [.inr (.inr _), .inr (.inl _)] (by decide) (Nat.le_of_ble_eq_true rfl) rfl ?_
  show xv _ _ _ _ _ _ _ [(0, false, va_rf p0), (1, true, .long p1)] _ _ _
  unfold FX11_constant at hF
  refine xe_aload_n dX11_constant_0 rfl rfl ?_
  obtain ⟨a2, e3, t4, hF⟩ := gR_inv hF
  refine xq_getR dX11_constant_1 fl_SeldomOps_10 xk_10 e3 t4 rfl ?_
  obtain ⟨a6, e7, t8, hF⟩ := gI_inv hF
  refine xq_getI dX11_constant_4 fl_SeldomOps_83 xk_3 e7 t8 rfl ?_
  refine xe_bipush (v := 40) dX11_constant_7 (by decide) ?_
  refine xe_icmp_ne (tgt := 15) dX11_constant_9 (by decide) (fun c9 => ?_) (fun c9 => ?_)
  · replace hF := if_p c9 hF
    refine xe_bipush (v := (-4)) dX11_constant_12 (by decide) ?_
    exact xe_ireturn dX11_constant_14 (xP_ret (mk := mkI) hF)
  · replace hF := if_n c9 hF
    refine xe_aload_n dX11_constant_15 rfl rfl ?_
    obtain ⟨a11, e12, t13, hF⟩ := gR_inv hF
    refine xq_getR dX11_constant_16 fl_SeldomOps_10 xk_10 e12 t13 rfl ?_
    obtain ⟨a19, e17, t18, hF⟩ := rcv_inv hF
    obtain ⟨v14, h15, o16, hF⟩ := cl_inv hF
    refine xz (xq_callV (As := []) (rest := []) dX11_constant_19 mk_X4_forgetJudgements ⟨tw_266, tw_267, tw_268⟩ (ci := 3) rfl e17 t18 (FX4_forgetJudgements_ok o16) xP_q (by decide) (by decide) rfl rfl ?_)
    refine xe_aload_n dX11_constant_22 rfl rfl ?_
    obtain ⟨a21, e22, t23, hF⟩ := gR_inv hF
    refine xq_getR dX11_constant_23 fl_SeldomOps_10 xk_10 e22 t23 rfl ?_
    refine xe_lload_n dX11_constant_26 rfl rfl ?_
    obtain ⟨a29, e27, t28, hF⟩ := rcv_inv hF
    obtain ⟨v24, h25, o26, hF⟩ := cl_inv hF
    refine xz (xq_callV (As := [.long _]) (rest := []) dX11_constant_27 mk_X4_addConstant ⟨tw_421, tw_422, tw_423⟩ (ci := 3) rfl e27 t28 (FX4_addConstant_ok o26) xP_q (by decide) (by decide) rfl rfl ?_)
    exact xe_ireturn dX11_constant_30 (xP_ret (mk := mkI) hF)
/-! SeldomOps.count(I)I -/
def FX11_count (p0 : Option Nat) (p1 : Int32) (h0 : Hp) : Option (Int32 × Hp) :=
  if (p1 : Int32) = 0 then
    gR h0 p0 10 0 fun v2 =>
    gI h0 v2 3 1 fun v6 =>
    some (v6, h0)
  else
  if (p1 : Int32) = 1 then
    gR h0 p0 10 0 fun v11 =>
    gI h0 v11 3 3 fun v15 =>
    some (v15, h0)
  else
  if (p1 : Int32) = 2 then
    gR h0 p0 10 0 fun v20 =>
    gI h0 v20 3 5 fun v24 =>
    some (v24, h0)
  else
  if (p1 : Int32) = 3 then
    gI h0 p0 10 4 fun v29 =>
    some (v29, h0)
  else
  some ((-2), h0)
set_option maxRecDepth 100000 in
set_option maxHeartbeats 4000000 in
theorem FX11_count_ok {G : xG} {l : Launch} {p0 : Option Nat} {p1 : Int32} {h0 h1 : Hp} {r : Int32} (hF : FX11_count p0 p1 h0 = some (r, h1)) : xc G l mX11_count 1 0 0 [va_rf p0, .int p1] h0 (xP mkI r h1) := by
  refine xo_I [.inr (.inr _), .inl _] (by decide) (Nat.le_of_ble_eq_true rfl) rfl ?_
  show xv _ _ _ _ _ _ _ [(0, false, va_rf p0), (1, false, .int p1)] _ _ _
  unfold FX11_count at hF
  refine xe_iload_n dX11_count_0 rfl rfl ?_
  refine xs_case (j := 0) (tgt := 32) dX11_count_1 (by decide) (by decide) rfl (by decide) (fun c1 => ?_) (fun c1 => ?_)
  · replace hF := if_p c1 hF
    refine xe_aload_n dX11_count_32 rfl rfl ?_
    obtain ⟨a3, e4, t5, hF⟩ := gR_inv hF
    refine xq_getR dX11_count_33 fl_SeldomOps_10 xk_10 e4 t5 rfl ?_
    obtain ⟨a7, e8, t9, hF⟩ := gI_inv hF
    refine xq_getI dX11_count_36 fl_SeldomOps_44 xk_3 e8 t9 rfl ?_
    exact xe_ireturn dX11_count_39 (xP_ret (mk := mkI) hF)
  replace hF := if_n c1 hF
  refine xs_case (j := 1) (tgt := 40) dX11_count_1 (by decide) (by decide) rfl (by decide) (fun c10 => ?_) (fun c10 => ?_)
  · replace hF := if_p c10 hF
    refine xe_aload_n dX11_count_40 rfl rfl ?_
    obtain ⟨a12, e13, t14, hF⟩ := gR_inv hF
    refine xq_getR dX11_count_41 fl_SeldomOps_10 xk_10 e13 t14 rfl ?_
    obtain ⟨a16, e17, t18, hF⟩ := gI_inv hF
    refine xq_getI dX11_count_44 fl_SeldomOps_83 xk_3 e17 t18 rfl ?_
    exact xe_ireturn dX11_count_47 (xP_ret (mk := mkI) hF)
  replace hF := if_n c10 hF
  refine xs_case (j := 2) (tgt := 48) dX11_count_1 (by decide) (by decide) rfl (by decide) (fun c19 => ?_) (fun c19 => ?_)
  · replace hF := if_p c19 hF
    refine xe_aload_n dX11_count_48 rfl rfl ?_
    obtain ⟨a21, e22, t23, hF⟩ := gR_inv hF
    refine xq_getR dX11_count_49 fl_SeldomOps_10 xk_10 e22 t23 rfl ?_
    obtain ⟨a25, e26, t27, hF⟩ := gI_inv hF
    refine xq_getI dX11_count_52 fl_SeldomOps_90 xk_3 e26 t27 rfl ?_
    exact xe_ireturn dX11_count_55 (xP_ret (mk := mkI) hF)
  replace hF := if_n c19 hF
  refine xs_case (j := 3) (tgt := 56) dX11_count_1 (by decide) (by decide) rfl (by decide) (fun c28 => ?_) (fun c28 => ?_)
  · replace hF := if_p c28 hF
    refine xe_aload_n dX11_count_56 rfl rfl ?_
    obtain ⟨a30, e31, t32, hF⟩ := gI_inv hF
    refine xq_getI dX11_count_57 fl_SeldomOps_36 xk_10 e31 t32 rfl ?_
    exact xe_ireturn dX11_count_60 (xP_ret (mk := mkI) hF)
  replace hF := if_n c28 hF
  refine xs_rest (tgt := 61) [0, 1, 2, 3] dX11_count_1 (by decide) (List.forall_mem_cons.mpr ⟨c1, List.forall_mem_cons.mpr ⟨c10, List.forall_mem_cons.mpr ⟨c19, List.forall_mem_cons.mpr ⟨c28, fun _ h => by cases h⟩⟩⟩⟩) (by decide) ?_
  refine xe_bipush (v := (-2)) dX11_count_61 (by decide) ?_
  exact xe_ireturn dX11_count_63 (xP_ret (mk := mkI) hF)
/-! SeldomOps.entry(III)I -/
def FX11_entry (p0 : Option Nat) (p1 : Int32) (p2 : Int32) (p3 : Int32) (h0 : Hp) : Option (Int32 × Hp) :=
  gR h0 p0 10 0 fun v1 =>
  rcv h0 v1 3 <|
  cl (FX4_findTable v1 p1 h0) fun v5 h6 =>
  nz v5 (
    some ((-2), h6)
  ) (
    cl (FX11_within p3 60 h6) fun v12 h13 =>
    if (v12 : Int32) = 0 then
      some ((-2), h13)
    else
      rcv h13 v5 6 <|
      cl (FX7_mayFollow v5 p2 h13) fun v16 h17 =>
      if (v16 : Int32) = 0 then
        some ((-3), h17)
      else
        gI h17 v5 6 5 fun v23 =>
        if (v23 : Int32) = 8 then
          some ((-4), h17)
        else
          gR h17 p0 10 0 fun v28 =>
          rcv h17 v28 3 <|
          cl (FX4_forgetJudgements v28 h17) fun v32 h33 =>
          rcv h33 v5 6 <|
          cl (FX7_addEntry v5 p2 p3 h33) fun v38 h39 =>
          some (v38, h39)
  )
set_option maxRecDepth 100000 in
set_option maxHeartbeats 4000000 in
theorem FX11_entry_ok {G : xG} {l : Launch} {p0 : Option Nat} {p1 : Int32} {p2 : Int32} {p3 : Int32} {h0 h1 : Hp} {r : Int32} (hF : FX11_entry p0 p1 p2 p3 h0 = some (r, h1)) : xc G l mX11_entry 3 0 0 [va_rf p0, .int p1, .int p2, .int p3] h0 (xP mkI r h1) := by
  refine xo_I [.inr (.inr _), .inl _, .inl _, .inl _] (by decide) (Nat.le_of_ble_eq_true rfl) rfl ?_
  show xv _ _ _ _ _ _ _ [(0, false, va_rf p0), (1, false, .int p1), (2, false, .int p2), (3, false, .int p3)] _ _ _
  unfold FX11_entry at hF
  refine xe_aload_n dX11_entry_0 rfl rfl ?_
  obtain ⟨a2, e3, t4, hF⟩ := gR_inv hF
  refine xq_getR dX11_entry_1 fl_SeldomOps_10 xk_10 e3 t4 rfl ?_
  refine xe_iload_n dX11_entry_4 rfl rfl ?_
  obtain ⟨a10, e8, t9, hF⟩ := rcv_inv hF
  obtain ⟨v5, h6, o7, hF⟩ := cl_inv hF
  refine xz (xq_callV (As := [.int _]) (rest := []) dX11_entry_5 mk_X4_findTable ⟨tw_465, tw_466, tw_467⟩ (ci := 3) rfl e8 t9 (FX4_findTable_ok o7) xP_q (by decide) (by decide) rfl rfl ?_)
  refine xe_astore dX11_entry_8 (by decide) ?_
  refine xe_aload dX11_entry_10 rfl ?_
  refine xe_ifnull (tgt := 24) dX11_entry_12 (by decide) (fun e11 => ?_) (fun a_ e11 => ?_)
  · replace hF := nz_n' e11 hF
    refine xe_bipush (v := (-2)) dX11_entry_24 (by decide) ?_
    exact xe_ireturn dX11_entry_26 (xP_ret (mk := mkI) hF)
  · replace hF := nz_s' e11 hF
    refine xe_iload_n dX11_entry_15 rfl rfl ?_
    refine xe_bipush (v := 60) dX11_entry_16 (by decide) ?_
    obtain ⟨v12, h13, o14, hF⟩ := cl_inv hF
    refine xz (xq_callS (As := [.int _, .int _]) (rest := []) dX11_entry_18 mk_X11_within ⟨tw_263, tw_264⟩ (FX11_within_ok o14) xPZ_q (by decide) (by decide) rfl rfl ?_)
    refine xe_if_ne (tgt := 27) dX11_entry_21 (by decide) (fun c15 => ?_) (fun c15 => ?_)
    · replace hF := if_p c15 hF
      refine xe_bipush (v := (-2)) dX11_entry_24 (by decide) ?_
      exact xe_ireturn dX11_entry_26 (xP_ret (mk := mkI) hF)
    · replace hF := if_n c15 hF
      refine xe_aload dX11_entry_27 rfl ?_
      refine xe_iload_n dX11_entry_29 rfl rfl ?_
      obtain ⟨a21, e19, t20, hF⟩ := rcv_inv hF
      obtain ⟨v16, h17, o18, hF⟩ := cl_inv hF
      refine xz (xq_callV (As := [.int _]) (rest := []) dX11_entry_30 mk_X7_mayFollow ⟨tw_469, tw_470, tw_471⟩ (ci := 6) rfl e19 t20 (FX7_mayFollow_ok o18) xPZ_q (by decide) (by decide) rfl rfl ?_)
      refine xe_if_ne (tgt := 39) dX11_entry_33 (by decide) (fun c22 => ?_) (fun c22 => ?_)
      · replace hF := if_p c22 hF
        refine xe_bipush (v := (-3)) dX11_entry_36 (by decide) ?_
        exact xe_ireturn dX11_entry_38 (xP_ret (mk := mkI) hF)
      · replace hF := if_n c22 hF
        refine xe_aload dX11_entry_39 rfl ?_
        obtain ⟨a24, e25, t26, hF⟩ := gI_inv hF
        refine xq_getI dX11_entry_41 fl_SeldomOps_107 xk_6 e25 t26 rfl ?_
        refine xe_bipush (v := 8) dX11_entry_44 (by decide) ?_
        refine xe_icmp_ne (tgt := 52) dX11_entry_46 (by decide) (fun c27 => ?_) (fun c27 => ?_)
        · replace hF := if_p c27 hF
          refine xe_bipush (v := (-4)) dX11_entry_49 (by decide) ?_
          exact xe_ireturn dX11_entry_51 (xP_ret (mk := mkI) hF)
        · replace hF := if_n c27 hF
          refine xe_aload_n dX11_entry_52 rfl rfl ?_
          obtain ⟨a29, e30, t31, hF⟩ := gR_inv hF
          refine xq_getR dX11_entry_53 fl_SeldomOps_10 xk_10 e30 t31 rfl ?_
          obtain ⟨a37, e35, t36, hF⟩ := rcv_inv hF
          obtain ⟨v32, h33, o34, hF⟩ := cl_inv hF
          refine xz (xq_callV (As := []) (rest := []) dX11_entry_56 mk_X4_forgetJudgements ⟨tw_266, tw_267, tw_268⟩ (ci := 3) rfl e35 t36 (FX4_forgetJudgements_ok o34) xP_q (by decide) (by decide) rfl rfl ?_)
          refine xe_aload dX11_entry_59 rfl ?_
          refine xe_iload_n dX11_entry_61 rfl rfl ?_
          refine xe_iload_n dX11_entry_62 rfl rfl ?_
          obtain ⟨a43, e41, t42, hF⟩ := rcv_inv hF
          obtain ⟨v38, h39, o40, hF⟩ := cl_inv hF
          refine xz (xq_callV (As := [.int _, .int _]) (rest := []) dX11_entry_63 mk_X7_addEntry ⟨tw_473, tw_474, tw_475⟩ (ci := 6) rfl e41 t42 (FX7_addEntry_ok o40) xP_q (by decide) (by decide) rfl rfl ?_)
          exact xe_ireturn dX11_entry_66 (xP_ret (mk := mkI) hF)
/-! SeldomOps.fault(I)I -/
def FX11_fault (p0 : Option Nat) (p1 : Int32) (h0 : Hp) : Option (Int32 × Hp) :=
  if (p1 : Int32) = 0 then
    gR h0 p0 10 1 fun v2 =>
    gI h0 v2 1 3 fun v6 =>
    some (v6, h0)
  else
  if (p1 : Int32) = 1 then
    gR h0 p0 10 1 fun v11 =>
    gI h0 v11 1 4 fun v15 =>
    some (v15, h0)
  else
  some ((-2), h0)
set_option maxRecDepth 100000 in
set_option maxHeartbeats 4000000 in
theorem FX11_fault_ok {G : xG} {l : Launch} {p0 : Option Nat} {p1 : Int32} {h0 h1 : Hp} {r : Int32} (hF : FX11_fault p0 p1 h0 = some (r, h1)) : xc G l mX11_fault 1 0 0 [va_rf p0, .int p1] h0 (xP mkI r h1) := by
  refine xo_I [.inr (.inr _), .inl _] (by decide) (Nat.le_of_ble_eq_true rfl) rfl ?_
  show xv _ _ _ _ _ _ _ [(0, false, va_rf p0), (1, false, .int p1)] _ _ _
  unfold FX11_fault at hF
  refine xe_iload_n dX11_fault_0 rfl rfl ?_
  refine xs_lcase (j := 0) (off := 27) (tgt := 28) dX11_fault_1 (by decide) (by decide) (by decide) (fun c1 => ?_) (fun c1 => ?_)
  · replace hF := if_p c1 hF
    refine xe_aload_n dX11_fault_28 rfl rfl ?_
    obtain ⟨a3, e4, t5, hF⟩ := gR_inv hF
    refine xq_getR dX11_fault_29 fl_SeldomOps_21 xk_10 e4 t5 rfl ?_
    obtain ⟨a7, e8, t9, hF⟩ := gI_inv hF
    refine xq_getI dX11_fault_32 fl_SeldomOps_118 xk_1 e8 t9 rfl ?_
    exact xe_ireturn dX11_fault_35 (xP_ret (mk := mkI) hF)
  replace hF := if_n c1 hF
  refine xs_lcase (j := 1) (off := 35) (tgt := 36) dX11_fault_1 (by decide) (by decide) (by decide) (fun c10 => ?_) (fun c10 => ?_)
  · replace hF := if_p c10 hF
    refine xe_aload_n dX11_fault_36 rfl rfl ?_
    obtain ⟨a12, e13, t14, hF⟩ := gR_inv hF
    refine xq_getR dX11_fault_37 fl_SeldomOps_21 xk_10 e13 t14 rfl ?_
    obtain ⟨a16, e17, t18, hF⟩ := gI_inv hF
    refine xq_getI dX11_fault_40 fl_SeldomOps_121 xk_1 e17 t18 rfl ?_
    exact xe_ireturn dX11_fault_43 (xP_ret (mk := mkI) hF)
  replace hF := if_n c10 hF
  refine xs_ldflt (tgt := 44) dX11_fault_1 (by decide) (by show Op.lookupswitch.offset [(0, 27), (1, 35)] (43) _ = _; rw [lv_osw c1 (by decide), lv_osw c10 (by decide)]; rfl) (by decide) ?_
  refine xe_bipush (v := (-2)) dX11_fault_44 (by decide) ?_
  exact xe_ireturn dX11_fault_46 (xP_ret (mk := mkI) hF)
/-! SeldomOps.give(J)I -/
def FX11_give (p0 : Option Nat) (p1 : Int64) (h0 : Hp) : Option (Int32 × Hp) :=
  gI h0 p0 10 4 fun v1 =>
  if (v1 : Int32) = 8 then
    some ((-4), h0)
  else
    gR h0 p0 10 3 fun v6 =>
    gI h0 p0 10 4 fun v10 =>
    sL h0 v6 v10 p1 fun h14 =>
    gI h14 p0 10 4 fun v21 =>
    pI h14 p0 10 4 (v21 + 1) fun h28 =>
    gI h28 p0 10 4 fun v30 =>
    some (v30, h28)
set_option maxRecDepth 100000 in
set_option maxHeartbeats 4000000 in
theorem FX11_give_ok {G : xG} {l : Launch} {p0 : Option Nat} {p1 : Int64} {h0 h1 : Hp} {r : Int32} (hF : FX11_give p0 p1 h0 = some (r, h1)) : xc G l mX11_give 1 0 0 [va_rf p0, .long p1] h0 (xP mkI r h1) := by
  refine xo_I [.inr (.inr _), .inr (.inl _)] (by decide) (Nat.le_of_ble_eq_true rfl) rfl ?_
  show xv _ _ _ _ _ _ _ [(0, false, va_rf p0), (1, true, .long p1)] _ _ _
  unfold FX11_give at hF
  refine xe_aload_n dX11_give_0 rfl rfl ?_
  obtain ⟨a2, e3, t4, hF⟩ := gI_inv hF
  refine xq_getI dX11_give_1 fl_SeldomOps_36 xk_10 e3 t4 rfl ?_
  refine xe_bipush (v := 8) dX11_give_4 (by decide) ?_
  refine xe_icmp_ne (tgt := 12) dX11_give_6 (by decide) (fun c5 => ?_) (fun c5 => ?_)
  · replace hF := if_p c5 hF
    refine xe_bipush (v := (-4)) dX11_give_9 (by decide) ?_
    exact xe_ireturn dX11_give_11 (xP_ret (mk := mkI) hF)
  · replace hF := if_n c5 hF
    refine xe_aload_n dX11_give_12 rfl rfl ?_
    obtain ⟨a7, e8, t9, hF⟩ := gR_inv hF
    refine xq_getR dX11_give_13 fl_SeldomOps_32 xk_10 e8 t9 rfl ?_
    refine xe_aload_n dX11_give_16 rfl rfl ?_
    obtain ⟨a11, e12, t13, hF⟩ := gI_inv hF
    refine xq_getI dX11_give_17 fl_SeldomOps_36 xk_10 e12 t13 rfl ?_
    refine xe_lload_n dX11_give_20 rfl rfl ?_
    obtain ⟨a15, n16, e17, t18, b19, hF⟩ := sL_inv hF
    refine xq_last dX11_give_21 e17 t18 b19 ?_
    refine xe_aload_n dX11_give_22 rfl rfl ?_
    refine xe_dup dX11_give_23 (va_rf_cat _) ?_
    obtain ⟨a22, e23, t24, hF⟩ := gI_inv hF
    refine xq_getI dX11_give_24 fl_SeldomOps_36 xk_10 e23 t24 rfl ?_
    refine xe_iconst (v := 1) dX11_give_27 (by decide) ?_
    refine xe_iadd dX11_give_28 ?_
    obtain ⟨a25, e26, t27, hF⟩ := pI_inv hF
    refine xq_putI dX11_give_29 fl_SeldomOps_36 xk_10 (by decide) (fun z => by cases z) e26 t27 (Or.inl rfl) ?_
    refine xe_aload_n dX11_give_32 rfl rfl ?_
    obtain ⟨a31, e32, t33, hF⟩ := gI_inv hF
    refine xq_getI dX11_give_33 fl_SeldomOps_36 xk_10 e32 t33 rfl ?_
    exact xe_ireturn dX11_give_36 (xP_ret (mk := mkI) hF)
