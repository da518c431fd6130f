/-! SeldomOps$Judge.ownFault(LSeldomOps$Method;I)I -/
def BX1_ownFault_133 (x0 : Option Nat) (x1 : Option Nat) (x2 : Int32) (x3 : Int32) (x4 : Int32) (x5 : Int32) (h0 : Hp) : Option (Int32 × Hp) :=
  rcv h0 x0 1 <|
  cl (FX1_putAll x0 x3 x4 x5 h0) fun v1 h2 =>
  gR h2 x0 1 1 fun v7 =>
  gR h2 v7 4 0 fun v11 =>
  gI h2 v11 9 1 fun v15 =>
  if (12 : Int32) < v15 then
    some (4, h2)
  else
    cl (FX1_goesToNext x3 h2) fun v20 h21 =>
    if (v20 : Int32) = 0 then
      some (0, h21)
    else
      gI h21 x1 2 7 fun v24 =>
      if ((x2 + 1) : Int32) < v24 then
        some (0, h21)
      else
        some (1, h21)
set_option maxRecDepth 100000 in
set_option maxHeartbeats 4000000 in
theorem BX1_ownFault_133_ok {G : xG} {l : Launch} {x0 : Option Nat} {x1 : Option Nat} {x2 : Int32} {x3 : Int32} {x4 : Int32} {x5 : Int32} {h0 h1 : Hp} {r : Int32} (hF : BX1_ownFault_133 x0 x1 x2 x3 x4 x5 h0 = some (r, h1)) : xv G l mX1_ownFault 6 0 0 133 [(0, false, va_rf x0), (1, false, va_rf x1), (2, false, .int x2), (3, false, .int x3), (4, false, .int x4), (5, false, .int x5)] [] h0 (xP mkI r h1) := by
  unfold BX1_ownFault_133 at hF
  refine xe_aload_n dX1_ownFault_133 rfl rfl ?_
  refine xe_iload_n dX1_ownFault_134 rfl rfl ?_
  refine xe_iload dX1_ownFault_135 rfl ?_
  refine xe_iload dX1_ownFault_137 rfl ?_
  obtain ⟨a6, e4, t5, hF⟩ := rcv_inv hF
  obtain ⟨v1, h2, o3, hF⟩ := cl_inv hF
  refine xz (xq_callV (As := [.int _, .int _, .int _]) (rest := []) dX1_ownFault_139 mk_X1_putAll ⟨tw_631, tw_633, ts_12⟩ (ci := 1) rfl e4 t5 (FX1_putAll_ok o3) xP_q (by decide) (by decide) rfl rfl ?_)
  refine xe_aload_n dX1_ownFault_142 rfl rfl ?_
  obtain ⟨a8, e9, t10, hF⟩ := gR_inv hF
  refine xq_getR dX1_ownFault_143 fl_Judge_12 xk_1 e9 t10 rfl ?_
  obtain ⟨a12, e13, t14, hF⟩ := gR_inv hF
  refine xq_getR dX1_ownFault_146 fl_Judge_76 xk_4 e13 t14 rfl ?_
  obtain ⟨a16, e17, t18, hF⟩ := gI_inv hF
  refine xq_getI dX1_ownFault_149 fl_Judge_147 xk_9 e17 t18 rfl ?_
  refine xe_bipush (v := 12) dX1_ownFault_152 (by decide) ?_
  refine xe_icmp_le (tgt := 159) dX1_ownFault_154 (by decide) (fun c19 => ?_) (fun c19 => ?_)
  · replace hF := if_p c19 hF
    refine xe_iconst (v := 4) dX1_ownFault_157 (by decide) ?_
    exact xe_ireturn dX1_ownFault_158 (xP_ret (mk := mkI) hF)
  · replace hF := if_n c19 hF
    refine xe_iload_n dX1_ownFault_159 rfl rfl ?_
    obtain ⟨v20, h21, o22, hF⟩ := cl_inv hF
    refine xz (xq_callS (As := [.int _]) (rest := []) dX1_ownFault_160 mk_X1_goesToNext ⟨tw_663, tw_664⟩ (FX1_goesToNext_ok o22) xPZ_q (by decide) (by decide) rfl rfl ?_)
    refine xe_if_eq (tgt := 180) dX1_ownFault_163 (by decide) (fun c23 => ?_) (fun c23 => ?_)
    · replace hF := if_p c23 hF
      refine xe_iconst (v := 0) dX1_ownFault_180 (by decide) ?_
      exact xe_ireturn dX1_ownFault_181 (xP_ret (mk := mkI) hF)
    · replace hF := if_n c23 hF
      refine xe_iload_n dX1_ownFault_166 rfl rfl ?_
      refine xe_iconst (v := 1) dX1_ownFault_167 (by decide) ?_
      refine xe_iadd dX1_ownFault_168 ?_
      refine xe_aload_n dX1_ownFault_169 rfl rfl ?_
      obtain ⟨a25, e26, t27, hF⟩ := gI_inv hF
      refine xq_getI dX1_ownFault_170 fl_Judge_45 xk_2 e26 t27 rfl ?_
      refine xe_icmp_lt (tgt := 180) dX1_ownFault_173 (by decide) (fun c28 => ?_) (fun c28 => ?_)
      · replace hF := if_p c28 hF
        refine xe_iconst (v := 0) dX1_ownFault_180 (by decide) ?_
        exact xe_ireturn dX1_ownFault_181 (xP_ret (mk := mkI) hF)
      · replace hF := if_n c28 hF
        refine xe_iconst (v := 1) dX1_ownFault_176 (by decide) ?_
        refine xe_goto (tgt := 181) dX1_ownFault_177 (by decide) ?_
        exact xe_ireturn dX1_ownFault_181 (xP_ret (mk := mkI) hF)
def BX1_ownFault_115 (x0 : Option Nat) (x1 : Option Nat) (x2 : Int32) (x3 : Int32) (x4 : Int32) (x5 : Int32) (h0 : Hp) : Option (Int32 × Hp) :=
  if (x3 : Int32) = 34 then
    gI h0 x1 2 0 fun v2 =>
    if (x4 : Int32) = v2 then
      BX1_ownFault_133 x0 x1 x2 x3 x4 x5 h0
    else
      some (8, h0)
  else
    BX1_ownFault_133 x0 x1 x2 x3 x4 x5 h0
set_option maxRecDepth 100000 in
set_option maxHeartbeats 4000000 in
theorem BX1_ownFault_115_ok {G : xG} {l : Launch} {x0 : Option Nat} {x1 : Option Nat} {x2 : Int32} {x3 : Int32} {x4 : Int32} {x5 : Int32} {h0 h1 : Hp} {r : Int32} (hF : BX1_ownFault_115 x0 x1 x2 x3 x4 x5 h0 = some (r, h1)) : xv G l mX1_ownFault 6 0 0 115 [(0, false, va_rf x0), (1, false, va_rf x1), (2, false, .int x2), (3, false, .int x3), (4, false, .int x4), (5, false, .int x5)] [] h0 (xP mkI r h1) := by
  unfold BX1_ownFault_115 at hF
  refine xe_iload_n dX1_ownFault_115 rfl rfl ?_
  refine xe_bipush (v := 34) dX1_ownFault_116 (by decide) ?_
  refine xe_icmp_ne (tgt := 133) dX1_ownFault_118 (by decide) (fun c1 => ?_) (fun c1 => ?_)
  · replace hF := if_p c1 hF
    refine xe_iload dX1_ownFault_121 rfl ?_
    refine xe_aload_n dX1_ownFault_123 rfl rfl ?_
    obtain ⟨a3, e4, t5, hF⟩ := gI_inv hF
    refine xq_getI dX1_ownFault_124 fl_Judge_140 xk_2 e4 t5 rfl ?_
    refine xe_icmp_eq (tgt := 133) dX1_ownFault_127 (by decide) (fun c6 => ?_) (fun c6 => ?_)
    · replace hF := if_p c6 hF
      exact xv.lv (BX1_ownFault_133_ok hF) (xsub_cons rfl (xsub_cons rfl (xsub_cons rfl (xsub_cons rfl (xsub_cons rfl (xsub_cons rfl xsub_nil))))))
    · replace hF := if_n c6 hF
      refine xe_bipush (v := 8) dX1_ownFault_130 (by decide) ?_
      exact xe_ireturn dX1_ownFault_132 (xP_ret (mk := mkI) hF)
  · replace hF := if_n c1 hF
    exact xv.lv (BX1_ownFault_133_ok hF) (xsub_cons rfl (xsub_cons rfl (xsub_cons rfl (xsub_cons rfl (xsub_cons rfl (xsub_cons rfl xsub_nil))))))
def BX1_ownFault_94 (x0 : Option Nat) (x1 : Option Nat) (x2 : Int32) (x3 : Int32) (x4 : Int32) (x5 : Int32) (h0 : Hp) : Option (Int32 × Hp) :=
  if (x3 : Int32) = 7 then
    gR h0 x0 1 1 fun v2 =>
    rcv h0 v2 4 <|
    cl (FX5_holds v2 x4 0 h0) fun v6 h7 =>
    if (v6 : Int32) = 0 then
      some (5, h7)
    else
      BX1_ownFault_115 x0 x1 x2 x3 x4 x5 h7
  else
    BX1_ownFault_115 x0 x1 x2 x3 x4 x5 h0
set_option maxRecDepth 100000 in
set_option maxHeartbeats 4000000 in
theorem BX1_ownFault_94_ok {G : xG} {l : Launch} {x0 : Option Nat} {x1 : Option Nat} {x2 : Int32} {x3 : Int32} {x4 : Int32} {x5 : Int32} {h0 h1 : Hp} {r : Int32} (hF : BX1_ownFault_94 x0 x1 x2 x3 x4 x5 h0 = some (r, h1)) : xv G l mX1_ownFault 6 0 0 94 [(0, false, va_rf x0), (1, false, va_rf x1), (2, false, .int x2), (3, false, .int x3), (4, false, .int x4), (5, false, .int x5)] [] h0 (xP mkI r h1) := by
  unfold BX1_ownFault_94 at hF
  refine xe_iload_n dX1_ownFault_94 rfl rfl ?_
  refine xe_bipush (v := 7) dX1_ownFault_95 (by decide) ?_
  refine xe_icmp_ne (tgt := 115) dX1_ownFault_97 (by decide) (fun c1 => ?_) (fun c1 => ?_)
  · replace hF := if_p c1 hF
    refine xe_aload_n dX1_ownFault_100 rfl rfl ?_
    obtain ⟨a3, e4, t5, hF⟩ := gR_inv hF
    refine xq_getR dX1_ownFault_101 fl_Judge_12 xk_1 e4 t5 rfl ?_
    refine xe_iload dX1_ownFault_104 rfl ?_
    refine xe_iconst (v := 0) dX1_ownFault_106 (by decide) ?_
    obtain ⟨a11, e9, t10, hF⟩ := rcv_inv hF
    obtain ⟨v6, h7, o8, hF⟩ := cl_inv hF
    refine xz (xq_callV (As := [.int _, .int _]) (rest := []) dX1_ownFault_107 mk_X5_holds ⟨tw_627, tw_628, tw_629⟩ (ci := 4) rfl e9 t10 (FX5_holds_ok o8) xPZ_q (by decide) (by decide) rfl rfl ?_)
    refine xe_if_ne (tgt := 115) dX1_ownFault_110 (by decide) (fun c12 => ?_) (fun c12 => ?_)
    · replace hF := if_p c12 hF
      refine xe_iconst (v := 5) dX1_ownFault_113 (by decide) ?_
      exact xe_ireturn dX1_ownFault_114 (xP_ret (mk := mkI) hF)
    · replace hF := if_n c12 hF
      exact xv.lv (BX1_ownFault_115_ok hF) (xsub_cons rfl (xsub_cons rfl (xsub_cons rfl (xsub_cons rfl (xsub_cons rfl (xsub_cons rfl xsub_nil))))))
  · replace hF := if_n c1 hF
    exact xv.lv (BX1_ownFault_115_ok hF) (xsub_cons rfl (xsub_cons rfl (xsub_cons rfl (xsub_cons rfl (xsub_cons rfl (xsub_cons rfl xsub_nil))))))
def FX1_ownFault (p0 : Option Nat) (p1 : Option Nat) (p2 : Int32) (h0 : Hp) : Option (Int32 × Hp) :=
  gR h0 p1 2 4 fun v1 =>
  aI h0 v1 .int p2 fun v5 =>
  gR h0 p1 2 5 fun v11 =>
  aI h0 v11 .int p2 fun v15 =>
  gR h0 p1 2 6 fun v21 =>
  aI h0 v21 .int p2 fun v25 =>
  gR h0 p1 2 13 fun v31 =>
  gR h0 p0 1 1 fun v35 =>
  rcv h0 v31 5 <|
  cl (FX6_load v31 p2 v35 h0) fun v39 h40 =>
  rcv h40 p0 1 <|
  cl (FX1_operandsAreSuch p0 v5 v15 v25 h40) fun v45 h46 =>
  if (v45 : Int32) = 0 then
    some (7, h46)
  else
    rcv h46 p0 1 <|
    cl (FX1_targetsAreThere p0 p1 p2 h46) fun v52 h53 =>
    if (v52 : Int32) = 0 then
      some (2, h53)
    else
      rcv h53 p0 1 <|
      cl (FX1_takeAll p0 v5 v15 v25 h53) fun v59 h60 =>
      if (v59 : Int32) = 0 then
        some (3, h60)
      else
        if (v5 : Int32) = 5 then
          gR h60 p0 1 1 fun v67 =>
          rcv h60 v67 4 <|
          cl (FX5_holds v67 v15 v25 h60) fun v71 h72 =>
          if (v71 : Int32) = 0 then
            some (5, h72)
          else
            BX1_ownFault_94 p0 p1 p2 v5 v15 v25 h72
        else
          BX1_ownFault_94 p0 p1 p2 v5 v15 v25 h60
set_option maxRecDepth 100000 in
set_option maxHeartbeats 4000000 in
theorem FX1_ownFault_ok {G : xG} {l : Launch} {p0 : Option Nat} {p1 : Option Nat} {p2 : Int32} {h0 h1 : Hp} {r : Int32} (hF : FX1_ownFault p0 p1 p2 h0 = some (r, h1)) : xc G l mX1_ownFault 6 0 0 [va_rf p0, va_rf p1, .int p2] h0 (xP mkI r h1) := by
  refine xo_I [.inr (.inr _), .inr (.inr _), .inl _] (by decide) (Nat.le_of_ble_eq_true rfl) rfl ?_
  show xv _ _ _ _ _ _ _ [(0, false, va_rf p0), (1, false, va_rf p1), (2, false, .int p2)] _ _ _
  unfold FX1_ownFault at hF
  refine xe_aload_n dX1_ownFault_0 rfl rfl ?_
  obtain ⟨a2, e3, t4, hF⟩ := gR_inv hF
  refine xq_getR dX1_ownFault_1 fl_Judge_113 xk_2 e3 t4 rfl ?_
  refine xe_iload_n dX1_ownFault_4 rfl rfl ?_
  obtain ⟨a6, n7, e8, t9, b10, hF⟩ := aI_inv hF
  refine xq_iald dX1_ownFault_5 e8 t9 b10 ?_
  refine xe_istore_n dX1_ownFault_6 rfl (by decide) ?_
  refine xe_aload_n dX1_ownFault_7 rfl rfl ?_
  obtain ⟨a12, e13, t14, hF⟩ := gR_inv hF
  refine xq_getR dX1_ownFault_8 fl_Judge_116 xk_2 e13 t14 rfl ?_
  refine xe_iload_n dX1_ownFault_11 rfl rfl ?_
  obtain ⟨a16, n17, e18, t19, b20, hF⟩ := aI_inv hF
  refine xq_iald dX1_ownFault_12 e18 t19 b20 ?_
  refine xe_istore dX1_ownFault_13 (by decide) ?_
  refine xe_aload_n dX1_ownFault_15 rfl rfl ?_
  obtain ⟨a22, e23, t24, hF⟩ := gR_inv hF
  refine xq_getR dX1_ownFault_16 fl_Judge_119 xk_2 e23 t24 rfl ?_
  refine xe_iload_n dX1_ownFault_19 rfl rfl ?_
  obtain ⟨a26, n27, e28, t29, b30, hF⟩ := aI_inv hF
  refine xq_iald dX1_ownFault_20 e28 t29 b30 ?_
  refine xe_istore dX1_ownFault_21 (by decide) ?_
  refine xe_aload_n dX1_ownFault_23 rfl rfl ?_
  obtain ⟨a32, e33, t34, hF⟩ := gR_inv hF
  refine xq_getR dX1_ownFault_24 fl_Judge_48 xk_2 e33 t34 rfl ?_
  refine xe_iload_n dX1_ownFault_27 rfl rfl ?_
  refine xe_aload_n dX1_ownFault_28 rfl rfl ?_
  obtain ⟨a36, e37, t38, hF⟩ := gR_inv hF
  refine xq_getR dX1_ownFault_29 fl_Judge_12 xk_1 e37 t38 rfl ?_
  obtain ⟨a44, e42, t43, hF⟩ := rcv_inv hF
  obtain ⟨v39, h40, o41, hF⟩ := cl_inv hF
  refine xz (xq_callV (As := [.int _, va_rf _]) (rest := []) dX1_ownFault_32 mk_X6_load ⟨tw_553, tw_554, tw_555⟩ (ci := 5) rfl e42 t43 (FX6_load_ok o41) xP_q (by decide) (by decide) rfl rfl ?_)
  refine xe_aload_n dX1_ownFault_35 rfl rfl ?_
  refine xe_iload_n dX1_ownFault_36 rfl rfl ?_
  refine xe_iload dX1_ownFault_37 rfl ?_
  refine xe_iload dX1_ownFault_39 rfl ?_
  obtain ⟨a50, e48, t49, hF⟩ := rcv_inv hF
  obtain ⟨v45, h46, o47, hF⟩ := cl_inv hF
  refine xz (xq_callV (As := [.int _, .int _, .int _]) (rest := []) dX1_ownFault_41 mk_X1_operandsAreSuch ⟨tw_557, tw_559, ts_6⟩ (ci := 1) rfl e48 t49 (FX1_operandsAreSuch_ok o47) xPZ_q (by decide) (by decide) rfl rfl ?_)
  refine xe_if_ne (tgt := 50) dX1_ownFault_44 (by decide) (fun c51 => ?_) (fun c51 => ?_)
  · replace hF := if_p c51 hF
    refine xe_bipush (v := 7) dX1_ownFault_47 (by decide) ?_
    exact xe_ireturn dX1_ownFault_49 (xP_ret (mk := mkI) hF)
  · replace hF := if_n c51 hF
    refine xe_aload_n dX1_ownFault_50 rfl rfl ?_
    refine xe_aload_n dX1_ownFault_51 rfl rfl ?_
    refine xe_iload_n dX1_ownFault_52 rfl rfl ?_
    obtain ⟨a57, e55, t56, hF⟩ := rcv_inv hF
    obtain ⟨v52, h53, o54, hF⟩ := cl_inv hF
    refine xz (xq_callV (As := [va_rf _, .int _]) (rest := []) dX1_ownFault_53 mk_X1_targetsAreThere ⟨tw_565, tw_567, ts_7⟩ (ci := 1) rfl e55 t56 (FX1_targetsAreThere_ok o54) xPZ_q (by decide) (by decide) rfl rfl ?_)
    refine xe_if_ne (tgt := 61) dX1_ownFault_56 (by decide) (fun c58 => ?_) (fun c58 => ?_)
    · replace hF := if_p c58 hF
      refine xe_iconst (v := 2) dX1_ownFault_59 (by decide) ?_
      exact xe_ireturn dX1_ownFault_60 (xP_ret (mk := mkI) hF)
    · replace hF := if_n c58 hF
      refine xe_aload_n dX1_ownFault_61 rfl rfl ?_
      refine xe_iload_n dX1_ownFault_62 rfl rfl ?_
      refine xe_iload dX1_ownFault_63 rfl ?_
      refine xe_iload dX1_ownFault_65 rfl ?_
      obtain ⟨a64, e62, t63, hF⟩ := rcv_inv hF
      obtain ⟨v59, h60, o61, hF⟩ := cl_inv hF
      refine xz (xq_callV (As := [.int _, .int _, .int _]) (rest := []) dX1_ownFault_67 mk_X1_takeAll ⟨tw_578, tw_580, ts_8⟩ (ci := 1) rfl e62 t63 (FX1_takeAll_ok o61) xPZ_q (by decide) (by decide) rfl rfl ?_)
      refine xe_if_ne (tgt := 75) dX1_ownFault_70 (by decide) (fun c65 => ?_) (fun c65 => ?_)
      · replace hF := if_p c65 hF
        refine xe_iconst (v := 3) dX1_ownFault_73 (by decide) ?_
        exact xe_ireturn dX1_ownFault_74 (xP_ret (mk := mkI) hF)
      · replace hF := if_n c65 hF
        refine xe_iload_n dX1_ownFault_75 rfl rfl ?_
        refine xe_iconst (v := 5) dX1_ownFault_76 (by decide) ?_
        refine xe_icmp_ne (tgt := 94) dX1_ownFault_77 (by decide) (fun c66 => ?_) (fun c66 => ?_)
        · replace hF := if_p c66 hF
          refine xe_aload_n dX1_ownFault_80 rfl rfl ?_
          obtain ⟨a68, e69, t70, hF⟩ := gR_inv hF
          refine xq_getR dX1_ownFault_81 fl_Judge_12 xk_1 e69 t70 rfl ?_
          refine xe_iload dX1_ownFault_84 rfl ?_
          refine xe_iload dX1_ownFault_86 rfl ?_
          obtain ⟨a76, e74, t75, hF⟩ := rcv_inv hF
          obtain ⟨v71, h72, o73, hF⟩ := cl_inv hF
          refine xz (xq_callV (As := [.int _, .int _]) (rest := []) dX1_ownFault_88 mk_X5_holds ⟨tw_627, tw_628, tw_629⟩ (ci := 4) rfl e74 t75 (FX5_holds_ok o73) xPZ_q (by decide) (by decide) rfl rfl ?_)
          refine xe_if_eq (tgt := 113) dX1_ownFault_91 (by decide) (fun c77 => ?_) (fun c77 => ?_)
          · replace hF := if_p c77 hF
            refine xe_iconst (v := 5) dX1_ownFault_113 (by decide) ?_
            exact xe_ireturn dX1_ownFault_114 (xP_ret (mk := mkI) hF)
          · replace hF := if_n c77 hF
            exact xv.lv (BX1_ownFault_94_ok hF) (xsub_cons rfl (xsub_cons rfl (xsub_cons rfl (xsub_cons rfl (xsub_cons rfl (xsub_cons rfl xsub_nil))))))
        · replace hF := if_n c66 hF
          exact xv.lv (BX1_ownFault_94_ok hF) (xsub_cons rfl (xsub_cons rfl (xsub_cons rfl (xsub_cons rfl (xsub_cons rfl (xsub_cons rfl xsub_nil))))))
/-! SeldomOps$Judge.send(LSeldomOps$Method;ILSeldomOps$Shape;)Z -/
def FX1_send (p0 : Option Nat) (p1 : Option Nat) (p2 : Int32) (p3 : Option Nat) (h0 : Hp) : Option (Int32 × Hp) :=
  gI h0 p1 2 7 fun v1 =>
  cl (FX11_within p2 v1 h0) fun v5 h6 =>
  if (v5 : Int32) = 0 then
    bz 1 (some (1, h6))
  else
    gR h6 p1 2 13 fun v10 =>
    rcv h6 v10 5 <|
    cl (FX6_bring v10 p2 p3 h6) fun v14 h15 =>
    if (v14 : Int32) = 0 then
      pI h15 p0 1 5 p2 fun h24 =>
      bz 0 (some (0, h24))
    else
      bz 1 (some (1, h15))
set_option maxRecDepth 100000 in
set_option maxHeartbeats 4000000 in
theorem FX1_send_ok {G : xG} {l : Launch} {p0 : Option Nat} {p1 : Option Nat} {p2 : Int32} {p3 : Option Nat} {h0 h1 : Hp} {r : Int32} (hF : FX1_send p0 p1 p2 p3 h0 = some (r, h1)) : xc G l mX1_send 4 0 0 [va_rf p0, va_rf p1, .int p2, va_rf p3] h0 (xPZ r h1) := by
  refine xo_Z [.inr (.inr _), .inr (.inr _), .inl _, .inr (.inr _)] (by decide) (Nat.le_of_ble_eq_true rfl) rfl ?_
  show xv _ _ _ _ _ _ _ [(0, false, va_rf p0), (1, false, va_rf p1), (2, false, .int p2), (3, false, va_rf p3)] _ _ _
  unfold FX1_send at hF
  refine xe_iload_n dX1_send_0 rfl rfl ?_
  refine xe_aload_n dX1_send_1 rfl rfl ?_
  obtain ⟨a2, e3, t4, hF⟩ := gI_inv hF
  refine xq_getI dX1_send_2 fl_Judge_45 xk_2 e3 t4 rfl ?_
  obtain ⟨v5, h6, o7, hF⟩ := cl_inv hF
  refine xz (xq_callSN (As := [.int _, .int _]) (rest := []) dX1_send_5 mk_X11_within ⟨tn_561, tw_264⟩ (FX11_within_ok o7) xPZ_q (by decide) (by decide) rfl rfl ?_)
  refine xe_if_eq (tgt := 23) dX1_send_8 (by decide) (fun c8 => ?_) (fun c8 => ?_)
  · replace hF := if_p c8 hF
    refine xe_iconst (v := 1) dX1_send_23 (by decide) ?_
    obtain ⟨z9, hF⟩ := bz_inv hF
    exact xe_ireturn dX1_send_24 (xPZ_ret z9 hF)
  · replace hF := if_n c8 hF
    refine xe_aload_n dX1_send_11 rfl rfl ?_
    obtain ⟨a11, e12, t13, hF⟩ := gR_inv hF
    refine xq_getR dX1_send_12 fl_Judge_48 xk_2 e12 t13 rfl ?_
    refine xe_iload_n dX1_send_15 rfl rfl ?_
    refine xe_aload_n dX1_send_16 rfl rfl ?_
    obtain ⟨a19, e17, t18, hF⟩ := rcv_inv hF
    obtain ⟨v14, h15, o16, hF⟩ := cl_inv hF
    refine xz (xq_callV (As := [.int _, va_rf _]) (rest := []) dX1_send_17 mk_X6_bring ⟨tw_523, tw_524, tw_525⟩ (ci := 5) rfl e17 t18 (FX6_bring_ok o16) xPZ_q (by decide) (by decide) rfl rfl ?_)
    refine xe_if_eq (tgt := 25) dX1_send_20 (by decide) (fun c20 => ?_) (fun c20 => ?_)
    · replace hF := if_p c20 hF
      refine xe_aload_n dX1_send_25 rfl rfl ?_
      refine xe_iload_n dX1_send_26 rfl rfl ?_
      obtain ⟨a21, e22, t23, hF⟩ := pI_inv hF
      refine xq_putI dX1_send_27 fl_Judge_28 xk_1 (by decide) (fun z => by cases z) e22 t23 (Or.inl rfl) ?_
      refine xe_iconst (v := 0) dX1_send_30 (by decide) ?_
      obtain ⟨z26, hF⟩ := bz_inv hF
      exact xe_ireturn dX1_send_31 (xPZ_ret z26 hF)
    · replace hF := if_n c20 hF
      refine xe_iconst (v := 1) dX1_send_23 (by decide) ?_
      obtain ⟨z27, hF⟩ := bz_inv hF
      exact xe_ireturn dX1_send_24 (xPZ_ret z27 hF)
/-! SeldomOps$Judge.sendToHandlers(LSeldomOps$Method;I)Z -/
def BX1_sendToHandlers_69 (k32 : Option Nat → Option Nat → Int32 → Int32 → Hp → Option (Int32 × Hp)) (x0 : Option Nat) (x1 : Option Nat) (x2 : Int32) (x3 : Int32) (h0 : Hp) : Option (Int32 × Hp) :=
  k32 x0 x1 x2 (x3 + 1) h0
set_option maxRecDepth 100000 in
set_option maxHeartbeats 4000000 in
theorem BX1_sendToHandlers_69_ok {G : xG} {l : Launch} {k32 : Option Nat → Option Nat → Int32 → Int32 → Hp → Option (Int32 × Hp)} (hk32 : ∀ {x0 : Option Nat} {x1 : Option Nat} {x2 : Int32} {x3 : Int32} {h0 h1 : Hp} {r : Int32}, k32 x0 x1 x2 x3 h0 = some (r, h1) → xv G l mX1_sendToHandlers 5 0 0 32 [(0, false, va_rf x0), (1, false, va_rf x1), (2, false, .int x2), (3, false, .int x3)] [] h0 (xPZ r h1)) {x0 : Option Nat} {x1 : Option Nat} {x2 : Int32} {x3 : Int32} {h0 h1 : Hp} {r : Int32} (hF : BX1_sendToHandlers_69 k32 x0 x1 x2 x3 h0 = some (r, h1)) : xv G l mX1_sendToHandlers 5 0 0 69 [(0, false, va_rf x0), (1, false, va_rf x1), (2, false, .int x2), (3, false, .int x3)] [] h0 (xPZ r h1) := by
  unfold BX1_sendToHandlers_69 at hF
  refine xe_iinc (v := _ + 1) dX1_sendToHandlers_69 rfl rfl (by decide) ?_
  refine xe_goto (tgt := 32) dX1_sendToHandlers_72 (by decide) ?_
  exact xv.lv (hk32 hF) (xsub_cons rfl (xsub_cons rfl (xsub_cons rfl (xsub_cons rfl xsub_nil))))
def BX1_sendToHandlers_32 : Nat → Option Nat → Option Nat → Int32 → Int32 → Hp → Option (Int32 × Hp)
  | 0, _, _, _, _, _ => none
  | n + 1, x0, x1, x2, x3, h0 =>
    gI h0 x1 2 12 fun v1 =>
    if (x3 : Int32) < v1 then
      rcv h0 x1 2 <|
      cl (FX2_covers x1 x3 x2 h0) fun v6 h7 =>
      if (v6 : Int32) = 0 then
        BX1_sendToHandlers_69 (BX1_sendToHandlers_32 n) x0 x1 x2 x3 h7
      else
        gR h7 x1 2 10 fun v13 =>
        aI h7 v13 .int x3 fun v17 =>
        gR h7 x0 1 2 fun v23 =>
        rcv h7 x0 1 <|
        cl (FX1_send x0 x1 v17 v23 h7) fun v27 h28 =>
        if (v27 : Int32) = 0 then
          bz 0 (some (0, h28))
        else
          BX1_sendToHandlers_69 (BX1_sendToHandlers_32 n) x0 x1 x2 x3 h28
    else
      bz 1 (some (1, h0))
set_option maxRecDepth 100000 in
set_option maxHeartbeats 4000000 in
theorem BX1_sendToHandlers_32_ok {G : xG} {l : Launch} : ∀ (n : Nat) {x0 : Option Nat} {x1 : Option Nat} {x2 : Int32} {x3 : Int32} {h0 h1 : Hp} {r : Int32} (hF : BX1_sendToHandlers_32 n x0 x1 x2 x3 h0 = some (r, h1)), xv G l mX1_sendToHandlers 5 0 0 32 [(0, false, va_rf x0), (1, false, va_rf x1), (2, false, .int x2), (3, false, .int x3)] [] h0 (xPZ r h1) := by
  intro n
  induction n with
  | zero => intro x0 x1 x2 x3 h0 h1 r hF; cases hF
  | succ n ih =>
    intro x0 x1 x2 x3 h0 h1 r hF
    unfold BX1_sendToHandlers_32 at hF
    refine xe_iload_n dX1_sendToHandlers_32 rfl rfl ?_
    refine xe_aload_n dX1_sendToHandlers_33 rfl rfl ?_
    obtain ⟨a2, e3, t4, hF⟩ := gI_inv hF
    refine xq_getI dX1_sendToHandlers_34 fl_Judge_180 xk_2 e3 t4 rfl ?_
    refine xe_icmp_ge (tgt := 75) dX1_sendToHandlers_37 (by decide) (fun c5 => ?_) (fun c5 => ?_)
    · replace hF := if_p c5 hF
      refine xe_aload_n dX1_sendToHandlers_40 rfl rfl ?_
      refine xe_iload_n dX1_sendToHandlers_41 rfl rfl ?_
      refine xe_iload_n dX1_sendToHandlers_42 rfl rfl ?_
      obtain ⟨a11, e9, t10, hF⟩ := rcv_inv hF
      obtain ⟨v6, h7, o8, hF⟩ := cl_inv hF
      refine xz (xq_callV (As := [.int _, .int _]) (rest := []) dX1_sendToHandlers_43 mk_X2_covers ⟨tw_574, tw_575, tw_576⟩ (ci := 2) rfl e9 t10 (FX2_covers_ok o8) xPZ_q (by decide) (by decide) rfl rfl ?_)
      refine xe_if_eq (tgt := 69) dX1_sendToHandlers_46 (by decide) (fun c12 => ?_) (fun c12 => ?_)
      · replace hF := if_p c12 hF
        exact xv.lv (BX1_sendToHandlers_69_ok ih hF) (xsub_cons rfl (xsub_cons rfl (xsub_cons rfl (xsub_cons rfl xsub_nil))))
      · replace hF := if_n c12 hF
        refine xe_aload_n dX1_sendToHandlers_49 rfl rfl ?_
        refine xe_aload_n dX1_sendToHandlers_50 rfl rfl ?_
        refine xe_aload_n dX1_sendToHandlers_51 rfl rfl ?_
        obtain ⟨a14, e15, t16, hF⟩ := gR_inv hF
        refine xq_getR dX1_sendToHandlers_52 fl_Judge_186 xk_2 e15 t16 rfl ?_
        refine xe_iload_n dX1_sendToHandlers_55 rfl rfl ?_
        obtain ⟨a18, n19, e20, t21, b22, hF⟩ := aI_inv hF
        refine xq_iald dX1_sendToHandlers_56 e20 t21 b22 ?_
        refine xe_aload_n dX1_sendToHandlers_57 rfl rfl ?_
        obtain ⟨a24, e25, t26, hF⟩ := gR_inv hF
        refine xq_getR dX1_sendToHandlers_58 fl_Judge_18 xk_1 e25 t26 rfl ?_
        obtain ⟨a32, e30, t31, hF⟩ := rcv_inv hF
        obtain ⟨v27, h28, o29, hF⟩ := cl_inv hF
        refine xz (xq_callV (As := [va_rf _, .int _, va_rf _]) (rest := []) dX1_sendToHandlers_61 mk_X1_send ⟨tw_670, tw_672, ts_16⟩ (ci := 1) rfl e30 t31 (FX1_send_ok o29) xPZ_q (by decide) (by decide) rfl rfl ?_)
        refine xe_if_ne (tgt := 69) dX1_sendToHandlers_64 (by decide) (fun c33 => ?_) (fun c33 => ?_)
        · replace hF := if_p c33 hF
          refine xe_iconst (v := 0) dX1_sendToHandlers_67 (by decide) ?_
          obtain ⟨z34, hF⟩ := bz_inv hF
          exact xe_ireturn dX1_sendToHandlers_68 (xPZ_ret z34 hF)
        · replace hF := if_n c33 hF
          exact xv.lv (BX1_sendToHandlers_69_ok ih hF) (xsub_cons rfl (xsub_cons rfl (xsub_cons rfl (xsub_cons rfl xsub_nil))))
    · replace hF := if_n c5 hF
      refine xe_iconst (v := 1) dX1_sendToHandlers_75 (by decide) ?_
      obtain ⟨z35, hF⟩ := bz_inv hF
      exact xe_ireturn dX1_sendToHandlers_76 (xPZ_ret z35 hF)
def FX1_sendToHandlers (p0 : Option Nat) (p1 : Option Nat) (p2 : Int32) (h0 : Hp) : Option (Int32 × Hp) :=
  gR h0 p1 2 13 fun v1 =>
  gR h0 p0 1 2 fun v5 =>
  rcv h0 v1 5 <|
  cl (FX6_load v1 p2 v5 h0) fun v9 h10 =>
  gR h10 p0 1 2 fun v15 =>
  gR h10 v15 4 0 fun v19 =>
  rcv h10 v19 9 <|
  cl (FX10_clear v19 h10) fun v23 h24 =>
  gR h24 p0 1 2 fun v29 =>
  rcv h24 v29 4 <|
  cl (FX5_put v29 4 h24) fun v33 h34 =>
  BX1_sendToHandlers_32 100000 p0 p1 p2 0 h34
set_option maxRecDepth 100000 in
set_option maxHeartbeats 4000000 in
theorem FX1_sendToHandlers_ok {G : xG} {l : Launch} {p0 : Option Nat} {p1 : Option Nat} {p2 : Int32} {h0 h1 : Hp} {r : Int32} (hF : FX1_sendToHandlers p0 p1 p2 h0 = some (r, h1)) : xc G l mX1_sendToHandlers 5 0 0 [va_rf p0, va_rf p1, .int p2] h0 (xPZ r h1) := by
  refine xo_Z [.inr (.inr _), .inr (.inr _), .inl _] (by decide) (Nat.le_of_ble_eq_true rfl) rfl ?_
  show xv _ _ _ _ _ _ _ [(0, false, va_rf p0), (1, false, va_rf p1), (2, false, .int p2)] _ _ _
  unfold FX1_sendToHandlers at hF
  refine xe_aload_n dX1_sendToHandlers_0 rfl rfl ?_
  obtain ⟨a2, e3, t4, hF⟩ := gR_inv hF
  refine xq_getR dX1_sendToHandlers_1 fl_Judge_48 xk_2 e3 t4 rfl ?_
  refine xe_iload_n dX1_sendToHandlers_4 rfl rfl ?_
  refine xe_aload_n dX1_sendToHandlers_5 rfl rfl ?_
  obtain ⟨a6, e7, t8, hF⟩ := gR_inv hF
  refine xq_getR dX1_sendToHandlers_6 fl_Judge_18 xk_1 e7 t8 rfl ?_
  obtain ⟨a14, e12, t13, hF⟩ := rcv_inv hF
  obtain ⟨v9, h10, o11, hF⟩ := cl_inv hF
  refine xz (xq_callV (As := [.int _, va_rf _]) (rest := []) dX1_sendToHandlers_9 mk_X6_load ⟨tw_553, tw_554, tw_555⟩ (ci := 5) rfl e12 t13 (FX6_load_ok o11) xP_q (by decide) (by decide) rfl rfl ?_)
  refine xe_aload_n dX1_sendToHandlers_12 rfl rfl ?_
  obtain ⟨a16, e17, t18, hF⟩ := gR_inv hF
  refine xq_getR dX1_sendToHandlers_13 fl_Judge_18 xk_1 e17 t18 rfl ?_
  obtain ⟨a20, e21, t22, hF⟩ := gR_inv hF
  refine xq_getR dX1_sendToHandlers_16 fl_Judge_76 xk_4 e21 t22 rfl ?_
  obtain ⟨a28, e26, t27, hF⟩ := rcv_inv hF
  obtain ⟨v23, h24, o25, hF⟩ := cl_inv hF
  refine xz (xq_callV (As := []) (rest := []) dX1_sendToHandlers_19 mk_X10_clear ⟨tw_493, tw_494, tw_495⟩ (ci := 9) rfl e26 t27 (FX10_clear_ok o25) xP_q (by decide) (by decide) rfl rfl ?_)
  refine xe_aload_n dX1_sendToHandlers_22 rfl rfl ?_
  obtain ⟨a30, e31, t32, hF⟩ := gR_inv hF
  refine xq_getR dX1_sendToHandlers_23 fl_Judge_18 xk_1 e31 t32 rfl ?_
  refine xe_iconst (v := 4) dX1_sendToHandlers_26 (by decide) ?_
  obtain ⟨a38, e36, t37, hF⟩ := rcv_inv hF
  obtain ⟨v33, h34, o35, hF⟩ := cl_inv hF
  refine xz (xq_callV (As := [.int _]) (rest := []) dX1_sendToHandlers_27 mk_X5_put ⟨tw_635, tw_636, tw_637⟩ (ci := 4) rfl e36 t37 (FX5_put_ok o35) xP_q (by decide) (by decide) rfl rfl ?_)
  refine xe_iconst (v := 0) dX1_sendToHandlers_30 (by decide) ?_
  refine xe_istore_n dX1_sendToHandlers_31 rfl (by decide) ?_
  exact xv.lv (BX1_sendToHandlers_32_ok _ hF) (xsub_cons rfl (xsub_cons rfl (xsub_cons rfl (xsub_cons rfl xsub_nil))))
/-! SeldomOps$Judge.sendByTable(LSeldomOps$Method;LSeldomOps$Table;)Z -/
def BX1_sendByTable_8 : Nat → Option Nat → Option Nat → Option Nat → Int32 → Hp → Option (Int32 × Hp)
  | 0, _, _, _, _, _ => none
  | n + 1, x0, x1, x2, x3, h0 =>
    gI h0 x2 6 5 fun v1 =>
    if (x3 : Int32) < v1 then
      gR h0 x2 6 4 fun v6 =>
      aI h0 v6 .int x3 fun v10 =>
      gR h0 x0 1 1 fun v16 =>
      rcv h0 x0 1 <|
      cl (FX1_send x0 x1 v10 v16 h0) fun v20 h21 =>
      if (v20 : Int32) = 0 then
        bz 0 (some (0, h21))
      else
        BX1_sendByTable_8 n x0 x1 x2 (x3 + 1) h21
    else
      gI h0 x2 6 2 fun v28 =>
      gR h0 x0 1 1 fun v32 =>
      rcv h0 x0 1 <|
      cl (FX1_send x0 x1 v28 v32 h0) fun v36 h37 =>
      bz v36 (some (v36, h37))
set_option maxRecDepth 100000 in
set_option maxHeartbeats 4000000 in
theorem BX1_sendByTable_8_ok {G : xG} {l : Launch} : ∀ (n : Nat) {x0 : Option Nat} {x1 : Option Nat} {x2 : Option Nat} {x3 : Int32} {h0 h1 : Hp} {r : Int32} (hF : BX1_sendByTable_8 n x0 x1 x2 x3 h0 = some (r, h1)), xv G l mX1_sendByTable 5 0 0 8 [(0, false, va_rf x0), (1, false, va_rf x1), (2, false, va_rf x2), (3, false, .int x3)] [] h0 (xPZ r h1) := by
  intro n
  induction n with
  | zero => intro x0 x1 x2 x3 h0 h1 r hF; cases hF
  | succ n ih =>
    intro x0 x1 x2 x3 h0 h1 r hF
    unfold BX1_sendByTable_8 at hF
    refine xe_iload_n dX1_sendByTable_8 rfl rfl ?_
    refine xe_aload_n dX1_sendByTable_9 rfl rfl ?_
    obtain ⟨a2, e3, t4, hF⟩ := gI_inv hF
    refine xq_getI dX1_sendByTable_10 fl_Judge_234 xk_6 e3 t4 rfl ?_
    refine xe_icmp_ge (tgt := 42) dX1_sendByTable_13 (by decide) (fun c5 => ?_) (fun c5 => ?_)
    · replace hF := if_p c5 hF
      refine xe_aload_n dX1_sendByTable_16 rfl rfl ?_
      refine xe_aload_n dX1_sendByTable_17 rfl rfl ?_
      refine xe_aload_n dX1_sendByTable_18 rfl rfl ?_
      obtain ⟨a7, e8, t9, hF⟩ := gR_inv hF
      refine xq_getR dX1_sendByTable_19 fl_Judge_237 xk_6 e8 t9 rfl ?_
      refine xe_iload_n dX1_sendByTable_22 rfl rfl ?_
      obtain ⟨a11, n12, e13, t14, b15, hF⟩ := aI_inv hF
      refine xq_iald dX1_sendByTable_23 e13 t14 b15 ?_
      refine xe_aload_n dX1_sendByTable_24 rfl rfl ?_
      obtain ⟨a17, e18, t19, hF⟩ := gR_inv hF
      refine xq_getR dX1_sendByTable_25 fl_Judge_12 xk_1 e18 t19 rfl ?_
      obtain ⟨a25, e23, t24, hF⟩ := rcv_inv hF
      obtain ⟨v20, h21, o22, hF⟩ := cl_inv hF
      refine xz (xq_callV (As := [va_rf _, .int _, va_rf _]) (rest := []) dX1_sendByTable_28 mk_X1_send ⟨tw_670, tw_672, ts_16⟩ (ci := 1) rfl e23 t24 (FX1_send_ok o22) xPZ_q (by decide) (by decide) rfl rfl ?_)
      refine xe_if_ne (tgt := 36) dX1_sendByTable_31 (by decide) (fun c26 => ?_) (fun c26 => ?_)
      · replace hF := if_p c26 hF
        refine xe_iconst (v := 0) dX1_sendByTable_34 (by decide) ?_
        obtain ⟨z27, hF⟩ := bz_inv hF
        exact xe_ireturn dX1_sendByTable_35 (xPZ_ret z27 hF)
      · replace hF := if_n c26 hF
        refine xe_iinc (v := _ + 1) dX1_sendByTable_36 rfl rfl (by decide) ?_
        refine xe_goto (tgt := 8) dX1_sendByTable_39 (by decide) ?_
        exact xv.lv (ih hF) (xsub_cons rfl (xsub_cons rfl (xsub_cons rfl (xsub_cons rfl xsub_nil))))
    · replace hF := if_n c5 hF
      refine xe_aload_n dX1_sendByTable_42 rfl rfl ?_
      refine xe_aload_n dX1_sendByTable_43 rfl rfl ?_
      refine xe_aload_n dX1_sendByTable_44 rfl rfl ?_
      obtain ⟨a29, e30, t31, hF⟩ := gI_inv hF
      refine xq_getI dX1_sendByTable_45 fl_Judge_238 xk_6 e30 t31 rfl ?_
      refine xe_aload_n dX1_sendByTable_48 rfl rfl ?_
      obtain ⟨a33, e34, t35, hF⟩ := gR_inv hF
      refine xq_getR dX1_sendByTable_49 fl_Judge_12 xk_1 e34 t35 rfl ?_
      obtain ⟨a41, e39, t40, hF⟩ := rcv_inv hF
      obtain ⟨v36, h37, o38, hF⟩ := cl_inv hF
      refine xz (xq_callV (As := [va_rf _, .int _, va_rf _]) (rest := []) dX1_sendByTable_52 mk_X1_send ⟨tw_670, tw_672, ts_16⟩ (ci := 1) rfl e39 t40 (FX1_send_ok o38) xPZ_q (by decide) (by decide) rfl rfl ?_)
      obtain ⟨z42, hF⟩ := bz_inv hF
      exact xe_ireturn dX1_sendByTable_55 (xPZ_ret z42 hF)
def FX1_sendByTable (p0 : Option Nat) (p1 : Option Nat) (p2 : Option Nat) (h0 : Hp) : Option (Int32 × Hp) :=
  nz p2 (
    bz 1 (some (1, h0))
  ) (
    BX1_sendByTable_8 100000 p0 p1 p2 0 h0
  )
set_option maxRecDepth 100000 in
set_option maxHeartbeats 4000000 in
theorem FX1_sendByTable_ok {G : xG} {l : Launch} {p0 : Option Nat} {p1 : Option Nat} {p2 : Option Nat} {h0 h1 : Hp} {r : Int32} (hF : FX1_sendByTable p0 p1 p2 h0 = some (r, h1)) : xc G l mX1_sendByTable 5 0 0 [va_rf p0, va_rf p1, va_rf p2] h0 (xPZ r h1) := by
  refine xo_Z [.inr (.inr _), .inr (.inr _), .inr (.inr _)] (by decide) (Nat.le_of_ble_eq_true rfl) rfl ?_
  show xv _ _ _ _ _ _ _ [(0, false, va_rf p0), (1, false, va_rf p1), (2, false, va_rf p2)] _ _ _
  unfold FX1_sendByTable at hF
  refine xe_aload_n dX1_sendByTable_0 rfl rfl ?_
  refine xe_ifnonnull (tgt := 6) dX1_sendByTable_1 (by decide) (fun e1 => ?_) (fun a_ e1 => ?_)
  · replace hF := nz_n' e1 hF
    refine xe_iconst (v := 1) dX1_sendByTable_4 (by decide) ?_
    obtain ⟨z2, hF⟩ := bz_inv hF
    exact xe_ireturn dX1_sendByTable_5 (xPZ_ret z2 hF)
  · replace hF := nz_s' e1 hF
    refine xe_iconst (v := 0) dX1_sendByTable_6 (by decide) ?_
    refine xe_istore_n dX1_sendByTable_7 rfl (by decide) ?_
    exact xv.lv (BX1_sendByTable_8_ok _ hF) (xsub_cons rfl (xsub_cons rfl (xsub_cons rfl (xsub_cons rfl xsub_nil))))
/-! SeldomOps$Judge.sendOn(LSeldomOps$Method;I)Z -/
def BX1_sendOn_70 (x0 : Option Nat) (x1 : Option Nat) (x2 : Int32) (x3 : Int32) (h0 : Hp) : Option (Int32 × Hp) :=
  cl (FX1_goesToNext x3 h0) fun v1 h2 =>
  if (v1 : Int32) = 0 then
    bz 1 (some (1, h2))
  else
    gR h2 x0 1 1 fun v6 =>
    rcv h2 x0 1 <|
    cl (FX1_send x0 x1 (x2 + 1) v6 h2) fun v10 h11 =>
    if (v10 : Int32) = 0 then
      bz 0 (some (0, h11))
    else
      bz 1 (some (1, h11))
set_option maxRecDepth 100000 in
set_option maxHeartbeats 4000000 in
theorem BX1_sendOn_70_ok {G : xG} {l : Launch} {x0 : Option Nat} {x1 : Option Nat} {x2 : Int32} {x3 : Int32} {h0 h1 : Hp} {r : Int32} (hF : BX1_sendOn_70 x0 x1 x2 x3 h0 = some (r, h1)) : xv G l mX1_sendOn 6 0 0 70 [(0, false, va_rf x0), (1, false, va_rf x1), (2, false, .int x2), (3, false, .int x3)] [] h0 (xPZ r h1) := by
  unfold BX1_sendOn_70 at hF
  refine xe_iload_n dX1_sendOn_70 rfl rfl ?_
  obtain ⟨v1, h2, o3, hF⟩ := cl_inv hF
  refine xz (xq_callS (As := [.int _]) (rest := []) dX1_sendOn_71 mk_X1_goesToNext ⟨tw_663, tw_664⟩ (FX1_goesToNext_ok o3) xPZ_q (by decide) (by decide) rfl rfl ?_)
  refine xe_if_eq (tgt := 92) dX1_sendOn_74 (by decide) (fun c4 => ?_) (fun c4 => ?_)
  · replace hF := if_p c4 hF
    refine xe_iconst (v := 1) dX1_sendOn_92 (by decide) ?_
    refine xe_goto (tgt := 97) dX1_sendOn_93 (by decide) ?_
    obtain ⟨z5, hF⟩ := bz_inv hF
    exact xe_ireturn dX1_sendOn_97 (xPZ_ret z5 hF)
  · replace hF := if_n c4 hF
    refine xe_aload_n dX1_sendOn_77 rfl rfl ?_
    refine xe_aload_n dX1_sendOn_78 rfl rfl ?_
    refine xe_iload_n dX1_sendOn_79 rfl rfl ?_
    refine xe_iconst (v := 1) dX1_sendOn_80 (by decide) ?_
    refine xe_iadd dX1_sendOn_81 ?_
    refine xe_aload_n dX1_sendOn_82 rfl rfl ?_
    obtain ⟨a7, e8, t9, hF⟩ := gR_inv hF
    refine xq_getR dX1_sendOn_83 fl_Judge_12 xk_1 e8 t9 rfl ?_
    obtain ⟨a15, e13, t14, hF⟩ := rcv_inv hF
    obtain ⟨v10, h11, o12, hF⟩ := cl_inv hF
    refine xz (xq_callV (As := [va_rf _, .int _, va_rf _]) (rest := []) dX1_sendOn_86 mk_X1_send ⟨tw_670, tw_672, ts_16⟩ (ci := 1) rfl e13 t14 (FX1_send_ok o12) xPZ_q (by decide) (by decide) rfl rfl ?_)
    refine xe_if_eq (tgt := 96) dX1_sendOn_89 (by decide) (fun c16 => ?_) (fun c16 => ?_)
    · replace hF := if_p c16 hF
      refine xe_iconst (v := 0) dX1_sendOn_96 (by decide) ?_
      obtain ⟨z17, hF⟩ := bz_inv hF
      exact xe_ireturn dX1_sendOn_97 (xPZ_ret z17 hF)
    · replace hF := if_n c16 hF
      refine xe_iconst (v := 1) dX1_sendOn_92 (by decide) ?_
      refine xe_goto (tgt := 97) dX1_sendOn_93 (by decide) ?_
      obtain ⟨z18, hF⟩ := bz_inv hF
      exact xe_ireturn dX1_sendOn_97 (xPZ_ret z18 hF)
def BX1_sendOn_54 (x0 : Option Nat) (x1 : Option Nat) (x2 : Int32) (x3 : Int32) (x4 : Int32) (h0 : Hp) : Option (Int32 × Hp) :=
  gR h0 x0 1 1 fun v1 =>
  rcv h0 x0 1 <|
  cl (FX1_send x0 x1 x4 v1 h0) fun v5 h6 =>
  if (v5 : Int32) = 0 then
    bz 0 (some (0, h6))
  else
    BX1_sendOn_70 x0 x1 x2 x3 h6
set_option maxRecDepth 100000 in
set_option maxHeartbeats 4000000 in
theorem BX1_sendOn_54_ok {G : xG} {l : Launch} {x0 : Option Nat} {x1 : Option Nat} {x2 : Int32} {x3 : Int32} {x4 : Int32} {h0 h1 : Hp} {r : Int32} (hF : BX1_sendOn_54 x0 x1 x2 x3 x4 h0 = some (r, h1)) : xv G l mX1_sendOn 6 0 0 54 [(0, false, va_rf x0), (1, false, va_rf x1), (2, false, .int x2), (3, false, .int x3), (4, false, .int x4)] [] h0 (xPZ r h1) := by
  unfold BX1_sendOn_54 at hF
  refine xe_aload_n dX1_sendOn_54 rfl rfl ?_
  refine xe_aload_n dX1_sendOn_55 rfl rfl ?_
  refine xe_iload dX1_sendOn_56 rfl ?_
  refine xe_aload_n dX1_sendOn_58 rfl rfl ?_
  obtain ⟨a2, e3, t4, hF⟩ := gR_inv hF
  refine xq_getR dX1_sendOn_59 fl_Judge_12 xk_1 e3 t4 rfl ?_
  obtain ⟨a10, e8, t9, hF⟩ := rcv_inv hF
  obtain ⟨v5, h6, o7, hF⟩ := cl_inv hF
  refine xz (xq_callV (As := [va_rf _, .int _, va_rf _]) (rest := []) dX1_sendOn_62 mk_X1_send ⟨tw_670, tw_672, ts_16⟩ (ci := 1) rfl e8 t9 (FX1_send_ok o7) xPZ_q (by decide) (by decide) rfl rfl ?_)
  refine xe_if_ne (tgt := 70) dX1_sendOn_65 (by decide) (fun c11 => ?_) (fun c11 => ?_)
  · replace hF := if_p c11 hF
    refine xe_iconst (v := 0) dX1_sendOn_68 (by decide) ?_
    obtain ⟨z12, hF⟩ := bz_inv hF
    exact xe_ireturn dX1_sendOn_69 (xPZ_ret z12 hF)
  · replace hF := if_n c11 hF
    exact xv.lv (BX1_sendOn_70_ok hF) (xsub_cons rfl (xsub_cons rfl (xsub_cons rfl (xsub_cons rfl xsub_nil))))
def FX1_sendOn (p0 : Option Nat) (p1 : Option Nat) (p2 : Int32) (h0 : Hp) : Option (Int32 × Hp) :=
  gR h0 p1 2 4 fun v1 =>
  aI h0 v1 .int p2 fun v5 =>
  gR h0 p1 2 5 fun v11 =>
  aI h0 v11 .int p2 fun v15 =>
  if (v5 : Int32) = 23 then
    gR h0 p0 1 0 fun v22 =>
    rcv h0 v22 3 <|
    cl (FX4_findTable v22 v15 h0) fun v26 h27 =>
    rcv h27 p0 1 <|
    cl (FX1_sendByTable p0 p1 v26 h27) fun v32 h33 =>
    bz v32 (some (v32, h33))
  else
    if (v5 : Int32) = 20 then
      BX1_sendOn_54 p0 p1 p2 v5 v15 h0
    else
      if (v5 : Int32) = 21 then
        BX1_sendOn_54 p0 p1 p2 v5 v15 h0
      else
        if (v5 : Int32) = 22 then
          BX1_sendOn_54 p0 p1 p2 v5 v15 h0
        else
          BX1_sendOn_70 p0 p1 p2 v5 h0
set_option maxRecDepth 100000 in
set_option maxHeartbeats 4000000 in
theorem FX1_sendOn_ok {G : xG} {l : Launch} {p0 : Option Nat} {p1 : Option Nat} {p2 : Int32} {h0 h1 : Hp} {r : Int32} (hF : FX1_sendOn p0 p1 p2 h0 = some (r, h1)) : xc G l mX1_sendOn 6 0 0 [va_rf p0, va_rf p1, .int p2] h0 (xPZ r h1) := by
  refine xo_Z [.inr (.inr _), .inr (.inr _), .inl _] (by decide) (Nat.le_of_ble_eq_true rfl) rfl ?_
  show xv _ _ _ _ _ _ _ [(0, false, va_rf p0), (1, false, va_rf p1), (2, false, .int p2)] _ _ _
  unfold FX1_sendOn at hF
  refine xe_aload_n dX1_sendOn_0 rfl rfl ?_
  obtain ⟨a2, e3, t4, hF⟩ := gR_inv hF
  refine xq_getR dX1_sendOn_1 fl_Judge_113 xk_2 e3 t4 rfl ?_
  refine xe_iload_n dX1_sendOn_4 rfl rfl ?_
  obtain ⟨a6, n7, e8, t9, b10, hF⟩ := aI_inv hF
  refine xq_iald dX1_sendOn_5 e8 t9 b10 ?_
  refine xe_istore_n dX1_sendOn_6 rfl (by decide) ?_
  refine xe_aload_n dX1_sendOn_7 rfl rfl ?_
  obtain ⟨a12, e13, t14, hF⟩ := gR_inv hF
  refine xq_getR dX1_sendOn_8 fl_Judge_116 xk_2 e13 t14 rfl ?_
  refine xe_iload_n dX1_sendOn_11 rfl rfl ?_
  obtain ⟨a16, n17, e18, t19, b20, hF⟩ := aI_inv hF
  refine xq_iald dX1_sendOn_12 e18 t19 b20 ?_
  refine xe_istore dX1_sendOn_13 (by decide) ?_
  refine xe_iload_n dX1_sendOn_15 rfl rfl ?_
  refine xe_bipush (v := 23) dX1_sendOn_16 (by decide) ?_
  refine xe_icmp_ne (tgt := 36) dX1_sendOn_18 (by decide) (fun c21 => ?_) (fun c21 => ?_)
  · replace hF := if_p c21 hF
    refine xe_aload_n dX1_sendOn_21 rfl rfl ?_
    refine xe_aload_n dX1_sendOn_22 rfl rfl ?_
    refine xe_aload_n dX1_sendOn_23 rfl rfl ?_
    obtain ⟨a23, e24, t25, hF⟩ := gR_inv hF
    refine xq_getR dX1_sendOn_24 fl_Judge_31 xk_1 e24 t25 rfl ?_
    refine xe_iload dX1_sendOn_27 rfl ?_
    obtain ⟨a31, e29, t30, hF⟩ := rcv_inv hF
    obtain ⟨v26, h27, o28, hF⟩ := cl_inv hF
    refine xz (xq_callV (As := [.int _]) (rest := [va_rf _, va_rf _]) dX1_sendOn_29 mk_X4_findTable ⟨tw_569, tw_466, tw_467⟩ (ci := 3) rfl e29 t30 (FX4_findTable_ok o28) xP_q (by decide) (Nat.le_trans (cs_r (cs_r cs_0)) (by decide)) rfl rfl ?_)
    obtain ⟨a37, e35, t36, hF⟩ := rcv_inv hF
    obtain ⟨v32, h33, o34, hF⟩ := cl_inv hF
    refine xz (xq_callV (As := [va_rf _, va_rf _]) (rest := []) dX1_sendOn_32 mk_X1_sendByTable ⟨tw_678, tw_680, ts_18⟩ (ci := 1) rfl e35 t36 (FX1_sendByTable_ok o34) xPZ_q (by decide) (by decide) rfl rfl ?_)
    obtain ⟨z38, hF⟩ := bz_inv hF
    exact xe_ireturn dX1_sendOn_35 (xPZ_ret z38 hF)
  · replace hF := if_n c21 hF
    refine xe_iload_n dX1_sendOn_36 rfl rfl ?_
    refine xe_bipush (v := 20) dX1_sendOn_37 (by decide) ?_
    refine xe_icmp_eq (tgt := 54) dX1_sendOn_39 (by decide) (fun c39 => ?_) (fun c39 => ?_)
    · replace hF := if_p c39 hF
      exact xv.lv (BX1_sendOn_54_ok hF) (xsub_cons rfl (xsub_cons rfl (xsub_cons rfl (xsub_cons rfl (xsub_cons rfl xsub_nil)))))
    · replace hF := if_n c39 hF
      refine xe_iload_n dX1_sendOn_42 rfl rfl ?_
      refine xe_bipush (v := 21) dX1_sendOn_43 (by decide) ?_
      refine xe_icmp_eq (tgt := 54) dX1_sendOn_45 (by decide) (fun c40 => ?_) (fun c40 => ?_)
      · replace hF := if_p c40 hF
        exact xv.lv (BX1_sendOn_54_ok hF) (xsub_cons rfl (xsub_cons rfl (xsub_cons rfl (xsub_cons rfl (xsub_cons rfl xsub_nil)))))
      · replace hF := if_n c40 hF
        refine xe_iload_n dX1_sendOn_48 rfl rfl ?_
        refine xe_bipush (v := 22) dX1_sendOn_49 (by decide) ?_
        refine xe_icmp_ne (tgt := 70) dX1_sendOn_51 (by decide) (fun c41 => ?_) (fun c41 => ?_)
        · replace hF := if_p c41 hF
          exact xv.lv (BX1_sendOn_54_ok hF) (xsub_cons rfl (xsub_cons rfl (xsub_cons rfl (xsub_cons rfl (xsub_cons rfl xsub_nil)))))
        · replace hF := if_n c41 hF
          exact xv.lv (BX1_sendOn_70_ok hF) (xsub_cons rfl (xsub_cons rfl (xsub_cons rfl (xsub_cons rfl xsub_nil))))
/-! SeldomOps$Shapes.leastDue()I -/
def BX6_leastDue_2 : Nat → Option Nat → Int32 → Hp → Option (Int32 × Hp)
  | 0, _, _, _ => none
  | n + 1, x0, x1, h0 =>
    if (x1 : Int32) < 60 then
      gR h0 x0 5 3 fun v2 =>
      aI h0 v2 .boolean x1 fun v6 =>
      if (v6 : Int32) = 0 then
        BX6_leastDue_2 n x0 (x1 + 1) h0
      else
        some (x1, h0)
    else
      some ((-1), h0)
set_option maxRecDepth 100000 in
set_option maxHeartbeats 4000000 in
theorem BX6_leastDue_2_ok {G : xG} {l : Launch} : ∀ (n : Nat) {x0 : Option Nat} {x1 : Int32} {h0 h1 : Hp} {r : Int32} (hF : BX6_leastDue_2 n x0 x1 h0 = some (r, h1)), xv G l mX6_leastDue 1 0 0 2 [(0, false, va_rf x0), (1, false, .int x1)] [] h0 (xP mkI r h1) := by
  intro n
  induction n with
  | zero => intro x0 x1 h0 h1 r hF; cases hF
  | succ n ih =>
    intro x0 x1 h0 h1 r hF
    unfold BX6_leastDue_2 at hF
    refine xe_iload_n dX6_leastDue_2 rfl rfl ?_
    refine xe_bipush (v := 60) dX6_leastDue_3 (by decide) ?_
    refine xe_icmp_ge (tgt := 25) dX6_leastDue_5 (by decide) (fun c1 => ?_) (fun c1 => ?_)
    · replace hF := if_p c1 hF
      refine xe_aload_n dX6_leastDue_8 rfl rfl ?_
      obtain ⟨a3, e4, t5, hF⟩ := gR_inv hF
      refine xq_getR dX6_leastDue_9 fl_Shapes_22 xk_5 e4 t5 rfl ?_
      refine xe_iload_n dX6_leastDue_12 rfl rfl ?_
      obtain ⟨a7, n8, e9, t10, b11, hF⟩ := aI_inv hF
      refine xq_zald dX6_leastDue_13 e9 t10 b11 ?_
      refine xe_if_eq (tgt := 19) dX6_leastDue_14 (by decide) (fun c12 => ?_) (fun c12 => ?_)
      · replace hF := if_p c12 hF
        refine xe_iinc (v := _ + 1) dX6_leastDue_19 rfl rfl (by decide) ?_
        refine xe_goto (tgt := 2) dX6_leastDue_22 (by decide) ?_
        exact xv.lv (ih hF) (xsub_cons rfl (xsub_cons rfl xsub_nil))
      · replace hF := if_n c12 hF
        refine xe_iload_n dX6_leastDue_17 rfl rfl ?_
        exact xe_ireturn dX6_leastDue_18 (xP_ret (mk := mkI) hF)
    · replace hF := if_n c1 hF
      refine xe_iconst (v := (-1)) dX6_leastDue_25 (by decide) ?_
      exact xe_ireturn dX6_leastDue_26 (xP_ret (mk := mkI) hF)
def FX6_leastDue (p0 : Option Nat) (h0 : Hp) : Option (Int32 × Hp) :=
  BX6_leastDue_2 100000 p0 0 h0
set_option maxRecDepth 100000 in
set_option maxHeartbeats 4000000 in
theorem FX6_leastDue_ok {G : xG} {l : Launch} {p0 : Option Nat} {h0 h1 : Hp} {r : Int32} (hF : FX6_leastDue p0 h0 = some (r, h1)) : xc G l mX6_leastDue 1 0 0 [va_rf p0] h0 (xP mkI r h1) := by
  refine xo_I [.inr (.inr _)] (by decide) (Nat.le_of_ble_eq_true rfl) rfl ?_
  show xv _ _ _ _ _ _ _ [(0, false, va_rf p0)] _ _ _
  unfold FX6_leastDue at hF
  refine xe_iconst (v := 0) dX6_leastDue_0 (by decide) ?_
  refine xe_istore_n dX6_leastDue_1 rfl (by decide) ?_
  exact xv.lv (BX6_leastDue_2_ok _ hF) (xsub_cons rfl (xsub_cons rfl xsub_nil))
/-! SeldomOps$Judge.examine(ILSeldomOps$Method;)I -/
def BX1_examine_124 (x0 : Option Nat) (x1 : Int32) (x2 : Option Nat) (x3 : Int32) (s0 : Option Nat) (s1 : Int32) (h0 : Hp) : Option (Int32 × Hp) :=
  pZ h0 s0 2 15 s1 fun h4 =>
  gI h4 x2 2 15 fun v6 =>
  if (v6 : Int32) = 0 then
    pI h4 x0 1 3 x1 fun h14 =>
    gI h14 x0 1 5 fun v16 =>
    pI h14 x0 1 4 v16 fun h23 =>
    some (((-10) - x3), h23)
  else
    some (0, h4)
set_option maxRecDepth 100000 in
set_option maxHeartbeats 4000000 in
theorem BX1_examine_124_ok {G : xG} {l : Launch} {x0 : Option Nat} {x1 : Int32} {x2 : Option Nat} {x3 : Int32} {s0 : Option Nat} {s1 : Int32} {h0 h1 : Hp} {r : Int32} (hF : BX1_examine_124 x0 x1 x2 x3 s0 s1 h0 = some (r, h1)) : xv G l mX1_examine 7 0 0 124 [(0, false, va_rf x0), (1, false, .int x1), (2, false, va_rf x2), (3, false, .int x3)] [.int s1, va_rf s0] h0 (xP mkI r h1) := by
  unfold BX1_examine_124 at hF
  obtain ⟨a1, e2, t3, z5, hF⟩ := pZ_inv hF
  refine xq_putI dX1_examine_124 fl_Judge_73 xk_2 (by decide) (fun z => by cases z) e2 t3 (Or.inr ⟨rfl, z5⟩) ?_
  refine xe_aload_n dX1_examine_127 rfl rfl ?_
  obtain ⟨a7, e8, t9, hF⟩ := gI_inv hF
  refine xq_getI dX1_examine_128 fl_Judge_73 xk_2 e8 t9 rfl ?_
  refine xe_if_eq (tgt := 136) dX1_examine_131 (by decide) (fun c10 => ?_) (fun c10 => ?_)
  · replace hF := if_p c10 hF
    refine xe_aload_n dX1_examine_136 rfl rfl ?_
    refine xe_iload_n dX1_examine_137 rfl rfl ?_
    obtain ⟨a11, e12, t13, hF⟩ := pI_inv hF
    refine xq_putI dX1_examine_138 fl_Judge_21 xk_1 (by decide) (fun z => by cases z) e12 t13 (Or.inl rfl) ?_
    refine xe_aload_n dX1_examine_141 rfl rfl ?_
    refine xe_aload_n dX1_examine_142 rfl rfl ?_
    obtain ⟨a17, e18, t19, hF⟩ := gI_inv hF
    refine xq_getI dX1_examine_143 fl_Judge_28 xk_1 e18 t19 rfl ?_
    obtain ⟨a20, e21, t22, hF⟩ := pI_inv hF
    refine xq_putI dX1_examine_146 fl_Judge_25 xk_1 (by decide) (fun z => by cases z) e21 t22 (Or.inl rfl) ?_
    refine xe_bipush (v := (-10)) dX1_examine_149 (by decide) ?_
    refine xe_iload_n dX1_examine_151 rfl rfl ?_
    refine xe_isub dX1_examine_152 ?_
    exact xe_ireturn dX1_examine_153 (xP_ret (mk := mkI) hF)
  · replace hF := if_n c10 hF
    refine xe_iconst (v := 0) dX1_examine_134 (by decide) ?_
    exact xe_ireturn dX1_examine_135 (xP_ret (mk := mkI) hF)
def BX1_examine_114 (x0 : Option Nat) (x1 : Int32) (x2 : Option Nat) (x3 : Int32) (h0 : Hp) : Option (Int32 × Hp) :=
  if (x3 : Int32) = 0 then
    BX1_examine_124 x0 x1 x2 x3 x2 1 h0
  else
    BX1_examine_124 x0 x1 x2 x3 x2 0 h0
set_option maxRecDepth 100000 in
set_option maxHeartbeats 4000000 in
theorem BX1_examine_114_ok {G : xG} {l : Launch} {x0 : Option Nat} {x1 : Int32} {x2 : Option Nat} {x3 : Int32} {h0 h1 : Hp} {r : Int32} (hF : BX1_examine_114 x0 x1 x2 x3 h0 = some (r, h1)) : xv G l mX1_examine 7 0 0 114 [(0, false, va_rf x0), (1, false, .int x1), (2, false, va_rf x2), (3, false, .int x3)] [] h0 (xP mkI r h1) := by
  unfold BX1_examine_114 at hF
  refine xe_aload_n dX1_examine_114 rfl rfl ?_
  refine xe_iload_n dX1_examine_115 rfl rfl ?_
  refine xe_if_ne (tgt := 123) dX1_examine_116 (by decide) (fun c1 => ?_) (fun c1 => ?_)
  · replace hF := if_p c1 hF
    refine xe_iconst (v := 1) dX1_examine_119 (by decide) ?_
    refine xe_goto (tgt := 124) dX1_examine_120 (by decide) ?_
    exact xv.lv (BX1_examine_124_ok hF) (xsub_cons rfl (xsub_cons rfl (xsub_cons rfl (xsub_cons rfl xsub_nil))))
  · replace hF := if_n c1 hF
    refine xe_iconst (v := 0) dX1_examine_123 (by decide) ?_
    exact xv.lv (BX1_examine_124_ok hF) (xsub_cons rfl (xsub_cons rfl (xsub_cons rfl (xsub_cons rfl xsub_nil))))
def BX1_examine_99 (k29 : Option Nat → Int32 → Option Nat → Int32 → Int32 → Int32 → Hp → Option (Int32 × Hp)) (x0 : Option Nat) (x1 : Int32) (x2 : Option Nat) (x3 : Int32) (x5 : Int32) (h0 : Hp) : Option (Int32 × Hp) :=
  gR h0 x2 2 13 fun v1 =>
  rcv h0 v1 5 <|
  cl (FX6_leastDue v1 h0) fun v5 h6 =>
  k29 x0 x1 x2 x3 v5 (x5 + 1) h6
set_option maxRecDepth 100000 in
set_option maxHeartbeats 4000000 in
theorem BX1_examine_99_ok {G : xG} {l : Launch} {k29 : Option Nat → Int32 → Option Nat → Int32 → Int32 → Int32 → Hp → Option (Int32 × Hp)} (hk29 : ∀ {x0 : Option Nat} {x1 : Int32} {x2 : Option Nat} {x3 : Int32} {x4 : Int32} {x5 : Int32} {h0 h1 : Hp} {r : Int32}, k29 x0 x1 x2 x3 x4 x5 h0 = some (r, h1) → xv G l mX1_examine 7 0 0 29 [(0, false, va_rf x0), (1, false, .int x1), (2, false, va_rf x2), (3, false, .int x3), (4, false, .int x4), (5, false, .int x5)] [] h0 (xP mkI r h1)) {x0 : Option Nat} {x1 : Int32} {x2 : Option Nat} {x3 : Int32} {x5 : Int32} {h0 h1 : Hp} {r : Int32} (hF : BX1_examine_99 k29 x0 x1 x2 x3 x5 h0 = some (r, h1)) : xv G l mX1_examine 7 0 0 99 [(0, false, va_rf x0), (1, false, .int x1), (2, false, va_rf x2), (3, false, .int x3), (5, false, .int x5)] [] h0 (xP mkI r h1) := by
  unfold BX1_examine_99 at hF
  refine xe_aload_n dX1_examine_99 rfl rfl ?_
  obtain ⟨a2, e3, t4, hF⟩ := gR_inv hF
  refine xq_getR dX1_examine_100 fl_Judge_48 xk_2 e3 t4 rfl ?_
  obtain ⟨a10, e8, t9, hF⟩ := rcv_inv hF
  obtain ⟨v5, h6, o7, hF⟩ := cl_inv hF
  refine xz (xq_callV (As := []) (rest := []) dX1_examine_103 mk_X6_leastDue ⟨tw_682, tw_683, tw_684⟩ (ci := 5) rfl e8 t9 (FX6_leastDue_ok o7) xP_q (by decide) (by decide) rfl rfl ?_)
  refine xe_istore dX1_examine_106 (by decide) ?_
  refine xe_iinc (v := _ + 1) dX1_examine_108 rfl rfl (by decide) ?_
  refine xe_goto (tgt := 29) dX1_examine_111 (by decide) ?_
  exact xv.lv (hk29 hF) (xsub_cons rfl (xsub_cons rfl (xsub_cons rfl (xsub_cons rfl (xsub_cons rfl (xsub_cons rfl xsub_nil))))))
def BX1_examine_96 (k29 : Option Nat → Int32 → Option Nat → Int32 → Int32 → Int32 → Hp → Option (Int32 × Hp)) (x0 : Option Nat) (x1 : Int32) (x2 : Option Nat) (x5 : Int32) (h0 : Hp) : Option (Int32 × Hp) :=
  BX1_examine_99 k29 x0 x1 x2 6 x5 h0
set_option maxRecDepth 100000 in
set_option maxHeartbeats 4000000 in
theorem BX1_examine_96_ok {G : xG} {l : Launch} {k29 : Option Nat → Int32 → Option Nat → Int32 → Int32 → Int32 → Hp → Option (Int32 × Hp)} (hk29 : ∀ {x0 : Option Nat} {x1 : Int32} {x2 : Option Nat} {x3 : Int32} {x4 : Int32} {x5 : Int32} {h0 h1 : Hp} {r : Int32}, k29 x0 x1 x2 x3 x4 x5 h0 = some (r, h1) → xv G l mX1_examine 7 0 0 29 [(0, false, va_rf x0), (1, false, .int x1), (2, false, va_rf x2), (3, false, .int x3), (4, false, .int x4), (5, false, .int x5)] [] h0 (xP mkI r h1)) {x0 : Option Nat} {x1 : Int32} {x2 : Option Nat} {x5 : Int32} {h0 h1 : Hp} {r : Int32} (hF : BX1_examine_96 k29 x0 x1 x2 x5 h0 = some (r, h1)) : xv G l mX1_examine 7 0 0 96 [(0, false, va_rf x0), (1, false, .int x1), (2, false, va_rf x2), (5, false, .int x5)] [] h0 (xP mkI r h1) := by
  unfold BX1_examine_96 at hF
  refine xe_bipush (v := 6) dX1_examine_96 (by decide) ?_
  refine xe_istore_n dX1_examine_98 rfl (by decide) ?_
  exact xv.lv (BX1_examine_99_ok hk29 hF) (xsub_cons rfl (xsub_cons rfl (xsub_cons rfl (xsub_cons rfl (xsub_cons rfl xsub_nil)))))
def BX1_examine_29 : Nat → Option Nat → Int32 → Option Nat → Int32 → Int32 → Int32 → Hp → Option (Int32 × Hp)
  | 0, _, _, _, _, _, _, _ => none
  | n + 1, x0, x1, x2, x3, x4, x5, h0 =>
    if (x5 : Int32) < 1020 then
      if (x4 : Int32) = (-1) then
        BX1_examine_114 x0 x1 x2 x3 h0
      else
        if (x3 : Int32) = 0 then
          pI h0 x0 1 5 x4 fun h7 =>
          gR h7 x2 2 13 fun v9 =>
          gR h7 v9 5 3 fun v13 =>
          sZ h7 v13 x4 0 fun h17 =>
          rcv h17 x0 1 <|
          cl (FX1_ownFault x0 x2 x4 h17) fun v24 h25 =>
          if (v24 : Int32) = 0 then
            rcv h25 x0 1 <|
            cl (FX1_sendToHandlers x0 x2 x4 h25) fun v31 h32 =>
            if (v31 : Int32) = 0 then
              BX1_examine_96 (BX1_examine_29 n) x0 x1 x2 x5 h32
            else
              rcv h32 x0 1 <|
              cl (FX1_sendOn x0 x2 x4 h32) fun v38 h39 =>
              if (v38 : Int32) = 0 then
                BX1_examine_96 (BX1_examine_29 n) x0 x1 x2 x5 h39
              else
                BX1_examine_99 (BX1_examine_29 n) x0 x1 x2 v24 x5 h39
          else
            BX1_examine_99 (BX1_examine_29 n) x0 x1 x2 v24 x5 h25
        else
          BX1_examine_114 x0 x1 x2 x3 h0
    else
      BX1_examine_114 x0 x1 x2 x3 h0
set_option maxRecDepth 100000 in
set_option maxHeartbeats 4000000 in
theorem BX1_examine_29_ok {G : xG} {l : Launch} : ∀ (n : Nat) {x0 : Option Nat} {x1 : Int32} {x2 : Option Nat} {x3 : Int32} {x4 : Int32} {x5 : Int32} {h0 h1 : Hp} {r : Int32} (hF : BX1_examine_29 n x0 x1 x2 x3 x4 x5 h0 = some (r, h1)), xv G l mX1_examine 7 0 0 29 [(0, false, va_rf x0), (1, false, .int x1), (2, false, va_rf x2), (3, false, .int x3), (4, false, .int x4), (5, false, .int x5)] [] h0 (xP mkI r h1) := by
  intro n
  induction n with
  | zero => intro x0 x1 x2 x3 x4 x5 h0 h1 r hF; cases hF
  | succ n ih =>
    intro x0 x1 x2 x3 x4 x5 h0 h1 r hF
    unfold BX1_examine_29 at hF
    refine xe_iload dX1_examine_29 rfl ?_
    refine xe_sipush (v := 1020) dX1_examine_31 (by decide) ?_
    refine xe_icmp_ge (tgt := 114) dX1_examine_34 (by decide) (fun c1 => ?_) (fun c1 => ?_)
    · replace hF := if_p c1 hF
      refine xe_iload dX1_examine_37 rfl ?_
      refine xe_iconst (v := (-1)) dX1_examine_39 (by decide) ?_
      refine xe_icmp_eq (tgt := 114) dX1_examine_40 (by decide) (fun c2 => ?_) (fun c2 => ?_)
      · replace hF := if_p c2 hF
        exact xv.lv (BX1_examine_114_ok hF) (xsub_cons rfl (xsub_cons rfl (xsub_cons rfl (xsub_cons rfl xsub_nil))))
      · replace hF := if_n c2 hF
        refine xe_iload_n dX1_examine_43 rfl rfl ?_
        refine xe_if_ne (tgt := 114) dX1_examine_44 (by decide) (fun c3 => ?_) (fun c3 => ?_)
        · replace hF := if_p c3 hF
          refine xe_aload_n dX1_examine_47 rfl rfl ?_
          refine xe_iload dX1_examine_48 rfl ?_
          obtain ⟨a4, e5, t6, hF⟩ := pI_inv hF
          refine xq_putI dX1_examine_50 fl_Judge_28 xk_1 (by decide) (fun z => by cases z) e5 t6 (Or.inl rfl) ?_
          refine xe_aload_n dX1_examine_53 rfl rfl ?_
          obtain ⟨a10, e11, t12, hF⟩ := gR_inv hF
          refine xq_getR dX1_examine_54 fl_Judge_48 xk_2 e11 t12 rfl ?_
          obtain ⟨a14, e15, t16, hF⟩ := gR_inv hF
          refine xq_getR dX1_examine_57 fl_Judge_52 xk_5 e15 t16 rfl ?_
          refine xe_iload dX1_examine_60 rfl ?_
          refine xe_iconst (v := 0) dX1_examine_62 (by decide) ?_
          obtain ⟨a18, n19, e20, t21, b22, z23, hF⟩ := sZ_inv hF
          refine xq_zast dX1_examine_63 e20 t21 b22 z23 ?_
          refine xe_aload_n dX1_examine_64 rfl rfl ?_
          refine xe_aload_n dX1_examine_65 rfl rfl ?_
          refine xe_iload dX1_examine_66 rfl ?_
          obtain ⟨a29, e27, t28, hF⟩ := rcv_inv hF
          obtain ⟨v24, h25, o26, hF⟩ := cl_inv hF
          refine xz (xq_callV (As := [va_rf _, .int _]) (rest := []) dX1_examine_68 mk_X1_ownFault ⟨tw_549, tw_551, ts_5⟩ (ci := 1) rfl e27 t28 (FX1_ownFault_ok o26) xP_q (by decide) (by decide) rfl rfl ?_)
          refine xe_istore_n dX1_examine_71 rfl (by decide) ?_
          refine xe_iload_n dX1_examine_72 rfl rfl ?_
          refine xe_if_ne (tgt := 99) dX1_examine_73 (by decide) (fun c30 => ?_) (fun c30 => ?_)
          · replace hF := if_p c30 hF
            refine xe_aload_n dX1_examine_76 rfl rfl ?_
            refine xe_aload_n dX1_examine_77 rfl rfl ?_
            refine xe_iload dX1_examine_78 rfl ?_
            obtain ⟨a36, e34, t35, hF⟩ := rcv_inv hF
            obtain ⟨v31, h32, o33, hF⟩ := cl_inv hF
            refine xz (xq_callV (As := [va_rf _, .int _]) (rest := []) dX1_examine_80 mk_X1_sendToHandlers ⟨tw_666, tw_668, ts_15⟩ (ci := 1) rfl e34 t35 (FX1_sendToHandlers_ok o33) xPZ_q (by decide) (by decide) rfl rfl ?_)
            refine xe_if_eq (tgt := 96) dX1_examine_83 (by decide) (fun c37 => ?_) (fun c37 => ?_)
            · replace hF := if_p c37 hF
              exact xv.lv (BX1_examine_96_ok ih hF) (xsub_cons rfl (xsub_cons rfl (xsub_cons rfl (xsub_cons rfl xsub_nil))))
            · replace hF := if_n c37 hF
              refine xe_aload_n dX1_examine_86 rfl rfl ?_
              refine xe_aload_n dX1_examine_87 rfl rfl ?_
              refine xe_iload dX1_examine_88 rfl ?_
              obtain ⟨a43, e41, t42, hF⟩ := rcv_inv hF
              obtain ⟨v38, h39, o40, hF⟩ := cl_inv hF
              refine xz (xq_callV (As := [va_rf _, .int _]) (rest := []) dX1_examine_90 mk_X1_sendOn ⟨tw_674, tw_676, ts_17⟩ (ci := 1) rfl e41 t42 (FX1_sendOn_ok o40) xPZ_q (by decide) (by decide) rfl rfl ?_)
              refine xe_if_ne (tgt := 99) dX1_examine_93 (by decide) (fun c44 => ?_) (fun c44 => ?_)
              · replace hF := if_p c44 hF
                exact xv.lv (BX1_examine_96_ok ih hF) (xsub_cons rfl (xsub_cons rfl (xsub_cons rfl (xsub_cons rfl xsub_nil))))
              · replace hF := if_n c44 hF
                exact xv.lv (BX1_examine_99_ok ih hF) (xsub_cons rfl (xsub_cons rfl (xsub_cons rfl (xsub_cons rfl (xsub_cons rfl xsub_nil)))))
          · replace hF := if_n c30 hF
            exact xv.lv (BX1_examine_99_ok ih hF) (xsub_cons rfl (xsub_cons rfl (xsub_cons rfl (xsub_cons rfl (xsub_cons rfl xsub_nil)))))
        · replace hF := if_n c3 hF
          exact xv.lv (BX1_examine_114_ok hF) (xsub_cons rfl (xsub_cons rfl (xsub_cons rfl (xsub_cons rfl xsub_nil))))
    · replace hF := if_n c1 hF
      exact xv.lv (BX1_examine_114_ok hF) (xsub_cons rfl (xsub_cons rfl (xsub_cons rfl (xsub_cons rfl xsub_nil))))
def BX1_examine_22 (x0 : Option Nat) (x1 : Int32) (x2 : Option Nat) (s0 : Int32) (h0 : Hp) : Option (Int32 × Hp) :=
  BX1_examine_29 100000 x0 x1 x2 s0 0 0 h0
set_option maxRecDepth 100000 in
set_option maxHeartbeats 4000000 in
theorem BX1_examine_22_ok {G : xG} {l : Launch} {x0 : Option Nat} {x1 : Int32} {x2 : Option Nat} {s0 : Int32} {h0 h1 : Hp} {r : Int32} (hF : BX1_examine_22 x0 x1 x2 s0 h0 = some (r, h1)) : xv G l mX1_examine 7 0 0 22 [(0, false, va_rf x0), (1, false, .int x1), (2, false, va_rf x2)] [.int s0] h0 (xP mkI r h1) := by
  unfold BX1_examine_22 at hF
  refine xe_istore_n dX1_examine_22 rfl (by decide) ?_
  refine xe_iconst (v := 0) dX1_examine_23 (by decide) ?_
  refine xe_istore dX1_examine_24 (by decide) ?_
  refine xe_iconst (v := 0) dX1_examine_26 (by decide) ?_
  refine xe_istore dX1_examine_27 (by decide) ?_
  exact xv.lv (BX1_examine_29_ok _ hF) (xsub_cons rfl (xsub_cons rfl (xsub_cons rfl (xsub_cons rfl (xsub_cons rfl (xsub_cons rfl xsub_nil))))))
def FX1_examine (p0 : Option Nat) (p1 : Int32) (p2 : Option Nat) (h0 : Hp) : Option (Int32 × Hp) :=
  pZ h0 p2 2 14 1 fun h4 =>
  rcv h4 p0 1 <|
  cl (FX1_begin p0 p2 h4) fun v6 h7 =>
  gI h7 p2 2 7 fun v12 =>
  if (v12 : Int32) = 0 then
    BX1_examine_22 p0 p1 p2 1 h7
  else
    BX1_examine_22 p0 p1 p2 0 h7
set_option maxRecDepth 100000 in
set_option maxHeartbeats 4000000 in
theorem FX1_examine_ok {G : xG} {l : Launch} {p0 : Option Nat} {p1 : Int32} {p2 : Option Nat} {h0 h1 : Hp} {r : Int32} (hF : FX1_examine p0 p1 p2 h0 = some (r, h1)) : xc G l mX1_examine 7 0 0 [va_rf p0, .int p1, va_rf p2] h0 (xP mkI r h1) := by
  refine xo_I [.inr (.inr _), .inl _, .inr (.inr _)] (by decide) (Nat.le_of_ble_eq_true rfl) rfl ?_
  show xv _ _ _ _ _ _ _ [(0, false, va_rf p0), (1, false, .int p1), (2, false, va_rf p2)] _ _ _
  unfold FX1_examine at hF
  refine xe_aload_n dX1_examine_0 rfl rfl ?_
  refine xe_iconst (v := 1) dX1_examine_1 (by decide) ?_
  obtain ⟨a1, e2, t3, z5, hF⟩ := pZ_inv hF
  refine xq_putI dX1_examine_2 fl_Judge_35 xk_2 (by decide) (fun z => by cases z) e2 t3 (Or.inr ⟨rfl, z5⟩) ?_
  refine xe_aload_n dX1_examine_5 rfl rfl ?_
  refine xe_aload_n dX1_examine_6 rfl rfl ?_
  obtain ⟨a11, e9, t10, hF⟩ := rcv_inv hF
  obtain ⟨v6, h7, o8, hF⟩ := cl_inv hF
  refine xz (xq_callV (As := [va_rf _]) (rest := []) dX1_examine_7 mk_X1_begin ⟨tw_489, tw_491, ts_0⟩ (ci := 1) rfl e9 t10 (FX1_begin_ok o8) xP_q (by decide) (by decide) rfl rfl ?_)
  refine xe_aload_n dX1_examine_10 rfl rfl ?_
  obtain ⟨a13, e14, t15, hF⟩ := gI_inv hF
  refine xq_getI dX1_examine_11 fl_Judge_45 xk_2 e14 t15 rfl ?_
  refine xe_if_ne (tgt := 21) dX1_examine_14 (by decide) (fun c16 => ?_) (fun c16 => ?_)
  · replace hF := if_p c16 hF
    refine xe_iconst (v := 1) dX1_examine_17 (by decide) ?_
    refine xe_goto (tgt := 22) dX1_examine_18 (by decide) ?_
    exact xv.lv (BX1_examine_22_ok hF) (xsub_cons rfl (xsub_cons rfl (xsub_cons rfl xsub_nil)))
  · replace hF := if_n c16 hF
    refine xe_iconst (v := 0) dX1_examine_21 (by decide) ?_
    exact xv.lv (BX1_examine_22_ok hF) (xsub_cons rfl (xsub_cons rfl (xsub_cons rfl xsub_nil)))
/-! SeldomOps$Shape.<init>()V -/
def FX5_init (p0 : Option Nat) (h0 : Hp) : Option (Unit × Hp) :=
  nz p0 none <|
  nA h0 (.inl 9) fun v3 h4 =>
  nz (some v3) none <|
  cl (FX10_init (some v3) h4) fun v7 h8 =>
  pR h8 p0 4 0 (some v3) fun h15 =>
  nA h15 (.inr (.long, 16)) fun v17 h18 =>
  pR h18 p0 4 1 (some v17) fun h24 =>
  some ((), h24)
set_option maxRecDepth 100000 in
set_option maxHeartbeats 4000000 in
theorem FX5_init_ok {G : xG} {l : Launch} {p0 : Option Nat} {h0 h1 : Hp} {r : Unit} (hF : FX5_init p0 h0 = some (r, h1)) : xc G l mX5_init 2 3 32 [va_rf p0] h0 (xP mkV r h1) := by
  refine xo_V [.inr (.inr _)] (by decide) (Nat.le_of_ble_eq_true rfl) rfl ?_
  show xv _ _ _ _ _ _ _ [(0, false, va_rf p0)] _ _ _
  unfold FX5_init at hF
  refine xe_aload_n dX5_init_0 rfl rfl ?_
  obtain ⟨a2, e1, hF⟩ := nzn_inv hF
  refine xq_objInit dX5_init_1 ⟨tw_71, tw_22, tw_23⟩ (by decide) (by decide) e1 ?_
  refine xe_aload_n dX5_init_4 rfl rfl ?_
  obtain ⟨v3, h4, e5, e6, hF⟩ := nA_inv hF
  refine xv.weaken (xn_new (k := 2) (n := 30) dX5_init_5 xk_9 (by decide) nw_Shape_9 e5 e6 ?_) (by first | decide | omega) (by first | decide | (simp only [xnf]; omega))
  refine xe_dup dX5_init_8 (va_rf_cat _) ?_
  obtain ⟨a11, e10, hF⟩ := nzn_inv hF
  obtain ⟨v7, h8, o9, hF⟩ := cl_inv hF
  refine xv.weaken (xq_callIN (k := 1) (n := 16) (As := []) (rest := [va_rf _, va_rf _]) dX5_init_9 mk_X10_init ⟨rfl, rfl⟩ ⟨tn_74, tw_75⟩ e10 (FX10_init_ok o9) xP_q (by decide) (Nat.le_trans (cs_r (cs_r cs_0)) (by decide)) rfl rfl ?_) (by first | decide | omega) (by first | decide | omega)
  obtain ⟨a12, e13, t14, hF⟩ := pR_inv hF
  refine xq_putR dX5_init_12 fl_Shape_12 xk_4 (by decide) (fun _ => ⟨rfl, _, _, rfl⟩) e13 t14 (Or.inl ⟨_, rfl⟩) ?_
  refine xe_aload_n dX5_init_15 rfl rfl ?_
  refine xe_bipush (v := 16) dX5_init_16 (by decide) ?_
  obtain ⟨v17, h18, e19, e20, hF⟩ := nA_inv hF
  refine xv.weaken (xn_newa (t := .long) (N := 16) (k := 0) (n := 0) dX5_init_18 rfl (Or.inr (Or.inl rfl)) tw_59 (by decide) (by decide) (by decide) e19 e20 ?_) (by first | decide | omega) (by first | decide | (simp only [xnf]; omega))
  obtain ⟨a21, e22, t23, hF⟩ := pR_inv hF
  refine xq_putR dX5_init_20 fl_Shape_18 xk_4 (by decide) (fun _ => ⟨rfl, _, _, rfl⟩) e22 t23 (Or.inr ⟨_, rfl⟩) ?_
  exact xe_return dX5_init_23 (xP_ret (mk := mkV) hF)
/-! SeldomOps$Judge.<init>(LSeldomOps$Program;)V -/
def FX1_init (p0 : Option Nat) (p1 : Option Nat) (h0 : Hp) : Option (Unit × Hp) :=
  nz p0 none <|
  nA h0 (.inl 4) fun v3 h4 =>
  nz (some v3) none <|
  cl (FX5_init (some v3) h4) fun v7 h8 =>
  pR h8 p0 1 1 (some v3) fun h15 =>
  nA h15 (.inl 4) fun v17 h18 =>
  nz (some v17) none <|
  cl (FX5_init (some v17) h18) fun v21 h22 =>
  pR h22 p0 1 2 (some v17) fun h29 =>
  pI h29 p0 1 3 (-1) fun h34 =>
  pI h34 p0 1 4 (-1) fun h39 =>
  pI h39 p0 1 5 0 fun h44 =>
  pR h44 p0 1 0 p1 fun h49 =>
  some ((), h49)
set_option maxRecDepth 100000 in
set_option maxHeartbeats 4000000 in
theorem FX1_init_ok {G : xG} {l : Launch} {p0 : Option Nat} {p1 : Option Nat} {h0 h1 : Hp} {r : Unit} (hF : FX1_init p0 p1 h0 = some (r, h1)) : xc G l mX1_init 3 8 68 [va_rf p0, va_rf p1] h0 (xP mkV r h1) := by
  refine xo_V [.inr (.inr _), .inr (.inr _)] (by decide) (Nat.le_of_ble_eq_true rfl) rfl ?_
  show xv _ _ _ _ _ _ _ [(0, false, va_rf p0), (1, false, va_rf p1)] _ _ _
  unfold FX1_init at hF
  refine xe_aload_n dX1_init_0 rfl rfl ?_
  obtain ⟨a2, e1, hF⟩ := nzn_inv hF
  refine xq_objInit dX1_init_1 ⟨tw_65, tw_22, tw_23⟩ (by decide) (by decide) e1 ?_
  refine xe_aload_n dX1_init_4 rfl rfl ?_
  obtain ⟨v3, h4, e5, e6, hF⟩ := nA_inv hF
  refine xv.weaken (xn_new (k := 7) (n := 66) dX1_init_5 xk_4 (by decide) nw_Judge_9 e5 e6 ?_) (by first | decide | omega) (by first | decide | (simp only [xnf]; omega))
  refine xe_dup dX1_init_8 (va_rf_cat _) ?_
  obtain ⟨a11, e10, hF⟩ := nzn_inv hF
  obtain ⟨v7, h8, o9, hF⟩ := cl_inv hF
  refine xv.weaken (xq_callIN (k := 4) (n := 34) (As := []) (rest := [va_rf _, va_rf _]) dX1_init_9 mk_X5_init ⟨rfl, rfl⟩ ⟨tn_68, tw_69⟩ e10 (FX5_init_ok o9) xP_q (by decide) (Nat.le_trans (cs_r (cs_r cs_0)) (by decide)) rfl rfl ?_) (by first | decide | omega) (by first | decide | omega)
  obtain ⟨a12, e13, t14, hF⟩ := pR_inv hF
  refine xq_putR dX1_init_12 fl_Judge_12 xk_1 (by decide) (fun _ => ⟨rfl, _, _, rfl⟩) e13 t14 (Or.inl ⟨_, rfl⟩) ?_
  refine xe_aload_n dX1_init_15 rfl rfl ?_
  obtain ⟨v17, h18, e19, e20, hF⟩ := nA_inv hF
  refine xv.weaken (xn_new (k := 3) (n := 32) dX1_init_16 xk_4 (by decide) nw_Judge_9 e19 e20 ?_) (by first | decide | omega) (by first | decide | (simp only [xnf]; omega))
  refine xe_dup dX1_init_19 (va_rf_cat _) ?_
  obtain ⟨a25, e24, hF⟩ := nzn_inv hF
  obtain ⟨v21, h22, o23, hF⟩ := cl_inv hF
  refine xv.weaken (xq_callIN (k := 0) (n := 0) (As := []) (rest := [va_rf _, va_rf _]) dX1_init_20 mk_X5_init ⟨rfl, rfl⟩ ⟨tn_68, tw_69⟩ e24 (FX5_init_ok o23) xP_q (by decide) (Nat.le_trans (cs_r (cs_r cs_0)) (by decide)) rfl rfl ?_) (by first | decide | omega) (by first | decide | omega)
  obtain ⟨a26, e27, t28, hF⟩ := pR_inv hF
  refine xq_putR dX1_init_23 fl_Judge_18 xk_1 (by decide) (fun _ => ⟨rfl, _, _, rfl⟩) e27 t28 (Or.inl ⟨_, rfl⟩) ?_
  refine xe_aload_n dX1_init_26 rfl rfl ?_
  refine xe_iconst (v := (-1)) dX1_init_27 (by decide) ?_
  obtain ⟨a31, e32, t33, hF⟩ := pI_inv hF
  refine xq_putI dX1_init_28 fl_Judge_21 xk_1 (by decide) (fun z => by cases z) e32 t33 (Or.inl rfl) ?_
  refine xe_aload_n dX1_init_31 rfl rfl ?_
  refine xe_iconst (v := (-1)) dX1_init_32 (by decide) ?_
  obtain ⟨a36, e37, t38, hF⟩ := pI_inv hF
  refine xq_putI dX1_init_33 fl_Judge_25 xk_1 (by decide) (fun z => by cases z) e37 t38 (Or.inl rfl) ?_
  refine xe_aload_n dX1_init_36 rfl rfl ?_
  refine xe_iconst (v := 0) dX1_init_37 (by decide) ?_
  obtain ⟨a41, e42, t43, hF⟩ := pI_inv hF
  refine xq_putI dX1_init_38 fl_Judge_28 xk_1 (by decide) (fun z => by cases z) e42 t43 (Or.inl rfl) ?_
  refine xe_aload_n dX1_init_41 rfl rfl ?_
  refine xe_aload_n dX1_init_42 rfl rfl ?_
  obtain ⟨a46, e47, t48, hF⟩ := pR_inv hF
  refine xq_putR dX1_init_43 fl_Judge_31 xk_1 (by decide) (fun _ => ⟨rfl, _, _, rfl⟩) e47 t48 (Or.inl ⟨_, rfl⟩) ?_
  exact xe_return dX1_init_46 (xP_ret (mk := mkV) hF)
/-! SeldomOps$Method.addArgument(I)I -/
def FX2_addArgument (p0 : Option Nat) (p1 : Int32) (h0 : Hp) : Option (Int32 × Hp) :=
  gR h0 p0 2 1 fun v1 =>
  gI h0 p0 2 2 fun v5 =>
  sI h0 v1 v5 p1 fun h9 =>
  gI h9 p0 2 2 fun v16 =>
  pI h9 p0 2 2 (v16 + 1) fun h23 =>
  gI h23 p0 2 3 fun v25 =>
  cl (FX11_width p1 h23) fun v29 h30 =>
  pI h30 p0 2 3 (v25 + v29) fun h35 =>
  gI h35 p0 2 3 fun v37 =>
  some (v37, h35)
set_option maxRecDepth 100000 in
set_option maxHeartbeats 4000000 in
theorem FX2_addArgument_ok {G : xG} {l : Launch} {p0 : Option Nat} {p1 : Int32} {h0 h1 : Hp} {r : Int32} (hF : FX2_addArgument p0 p1 h0 = some (r, h1)) : xc G l mX2_addArgument 3 0 0 [va_rf p0, .int p1] h0 (xP mkI r h1) := by
  refine xo_I [.inr (.inr _), .inl _] (by decide) (Nat.le_of_ble_eq_true rfl) rfl ?_
  show xv _ _ _ _ _ _ _ [(0, false, va_rf p0), (1, false, .int p1)] _ _ _
  unfold FX2_addArgument at hF
  refine xe_aload_n dX2_addArgument_0 rfl rfl ?_
  obtain ⟨a2, e3, t4, hF⟩ := gR_inv hF
  refine xq_getR dX2_addArgument_1 fl_Method_9 xk_2 e3 t4 rfl ?_
  refine xe_aload_n dX2_addArgument_4 rfl rfl ?_
  obtain ⟨a6, e7, t8, hF⟩ := gI_inv hF
  refine xq_getI dX2_addArgument_5 fl_Method_15 xk_2 e7 t8 rfl ?_
  refine xe_iload_n dX2_addArgument_8 rfl rfl ?_
  obtain ⟨a10, n11, e12, t13, b14, hF⟩ := sI_inv hF
  refine xq_iast dX2_addArgument_9 e12 t13 b14 ?_
  refine xe_aload_n dX2_addArgument_10 rfl rfl ?_
  refine xe_dup dX2_addArgument_11 (va_rf_cat _) ?_
  obtain ⟨a17, e18, t19, hF⟩ := gI_inv hF
  refine xq_getI dX2_addArgument_12 fl_Method_15 xk_2 e18 t19 rfl ?_
  refine xe_iconst (v := 1) dX2_addArgument_15 (by decide) ?_
  refine xe_iadd dX2_addArgument_16 ?_
  obtain ⟨a20, e21, t22, hF⟩ := pI_inv hF
  refine xq_putI dX2_addArgument_17 fl_Method_15 xk_2 (by decide) (fun z => by cases z) e21 t22 (Or.inl rfl) ?_
  refine xe_aload_n dX2_addArgument_20 rfl rfl ?_
  refine xe_dup dX2_addArgument_21 (va_rf_cat _) ?_
  obtain ⟨a26, e27, t28, hF⟩ := gI_inv hF
  refine xq_getI dX2_addArgument_22 fl_Method_19 xk_2 e27 t28 rfl ?_
  refine xe_iload_n dX2_addArgument_25 rfl rfl ?_
  obtain ⟨v29, h30, o31, hF⟩ := cl_inv hF
  refine xz (xq_callSN (As := [.int _]) (rest := [.int _, va_rf _]) dX2_addArgument_26 mk_X11_width ⟨tn_396, tw_387⟩ (FX11_width_ok o31) xP_q (by decide) (Nat.le_trans (cs_i (cs_r cs_0)) (by decide)) rfl rfl ?_)
  refine xe_iadd dX2_addArgument_29 ?_
  obtain ⟨a32, e33, t34, hF⟩ := pI_inv hF
  refine xq_putI dX2_addArgument_30 fl_Method_19 xk_2 (by decide) (fun z => by cases z) e33 t34 (Or.inl rfl) ?_
  refine xe_aload_n dX2_addArgument_33 rfl rfl ?_
  obtain ⟨a38, e39, t40, hF⟩ := gI_inv hF
  refine xq_getI dX2_addArgument_34 fl_Method_19 xk_2 e39 t40 rfl ?_
  exact xe_ireturn dX2_addArgument_37 (xP_ret (mk := mkI) hF)
/-! SeldomOps$Method.addHandler(IIII)I -/
def FX2_addHandler (p0 : Option Nat) (p1 : Int32) (p2 : Int32) (p3 : Int32) (p4 : Int32) (h0 : Hp) : Option (Int32 × Hp) :=
  gR h0 p0 2 8 fun v1 =>
  gI h0 p0 2 12 fun v5 =>
  sI h0 v1 v5 p1 fun h9 =>
  gR h9 p0 2 9 fun v16 =>
  gI h9 p0 2 12 fun v20 =>
  sI h9 v16 v20 p2 fun h24 =>
  gR h24 p0 2 10 fun v31 =>
  gI h24 p0 2 12 fun v35 =>
  sI h24 v31 v35 p3 fun h39 =>
  gR h39 p0 2 11 fun v46 =>
  gI h39 p0 2 12 fun v50 =>
  sI h39 v46 v50 p4 fun h54 =>
  gI h54 p0 2 12 fun v61 =>
  pI h54 p0 2 12 (v61 + 1) fun h68 =>
  gI h68 p0 2 12 fun v70 =>
  some (v70, h68)
set_option maxRecDepth 100000 in
set_option maxHeartbeats 4000000 in
theorem FX2_addHandler_ok {G : xG} {l : Launch} {p0 : Option Nat} {p1 : Int32} {p2 : Int32} {p3 : Int32} {p4 : Int32} {h0 h1 : Hp} {r : Int32} (hF : FX2_addHandler p0 p1 p2 p3 p4 h0 = some (r, h1)) : xc G l mX2_addHandler 1 0 0 [va_rf p0, .int p1, .int p2, .int p3, .int p4] h0 (xP mkI r h1) := by
  refine xo_I [.inr (.inr _), .inl _, .inl _, .inl _, .inl _] (by decide) (Nat.le_of_ble_eq_true rfl) rfl ?_
  show xv _ _ _ _ _ _ _ [(0, false, va_rf p0), (1, false, .int p1), (2, false, .int p2), (3, false, .int p3), (4, false, .int p4)] _ _ _
  unfold FX2_addHandler at hF
  refine xe_aload_n dX2_addHandler_0 rfl rfl ?_
  obtain ⟨a2, e3, t4, hF⟩ := gR_inv hF
  refine xq_getR dX2_addHandler_1 fl_Method_34 xk_2 e3 t4 rfl ?_
  refine xe_aload_n dX2_addHandler_4 rfl rfl ?_
  obtain ⟨a6, e7, t8, hF⟩ := gI_inv hF
  refine xq_getI dX2_addHandler_5 fl_Method_46 xk_2 e7 t8 rfl ?_
  refine xe_iload_n dX2_addHandler_8 rfl rfl ?_
  obtain ⟨a10, n11, e12, t13, b14, hF⟩ := sI_inv hF
  refine xq_iast dX2_addHandler_9 e12 t13 b14 ?_
  refine xe_aload_n dX2_addHandler_10 rfl rfl ?_
  obtain ⟨a17, e18, t19, hF⟩ := gR_inv hF
  refine xq_getR dX2_addHandler_11 fl_Method_37 xk_2 e18 t19 rfl ?_
  refine xe_aload_n dX2_addHandler_14 rfl rfl ?_
  obtain ⟨a21, e22, t23, hF⟩ := gI_inv hF
  refine xq_getI dX2_addHandler_15 fl_Method_46 xk_2 e22 t23 rfl ?_
  refine xe_iload_n dX2_addHandler_18 rfl rfl ?_
  obtain ⟨a25, n26, e27, t28, b29, hF⟩ := sI_inv hF
  refine xq_iast dX2_addHandler_19 e27 t28 b29 ?_
  refine xe_aload_n dX2_addHandler_20 rfl rfl ?_
  obtain ⟨a32, e33, t34, hF⟩ := gR_inv hF
  refine xq_getR dX2_addHandler_21 fl_Method_40 xk_2 e33 t34 rfl ?_
  refine xe_aload_n dX2_addHandler_24 rfl rfl ?_
  obtain ⟨a36, e37, t38, hF⟩ := gI_inv hF
  refine xq_getI dX2_addHandler_25 fl_Method_46 xk_2 e37 t38 rfl ?_
  refine xe_iload_n dX2_addHandler_28 rfl rfl ?_
  obtain ⟨a40, n41, e42, t43, b44, hF⟩ := sI_inv hF
  refine xq_iast dX2_addHandler_29 e42 t43 b44 ?_
  refine xe_aload_n dX2_addHandler_30 rfl rfl ?_
  obtain ⟨a47, e48, t49, hF⟩ := gR_inv hF
  refine xq_getR dX2_addHandler_31 fl_Method_43 xk_2 e48 t49 rfl ?_
  refine xe_aload_n dX2_addHandler_34 rfl rfl ?_
  obtain ⟨a51, e52, t53, hF⟩ := gI_inv hF
  refine xq_getI dX2_addHandler_35 fl_Method_46 xk_2 e52 t53 rfl ?_
  refine xe_iload dX2_addHandler_38 rfl ?_
  obtain ⟨a55, n56, e57, t58, b59, hF⟩ := sI_inv hF
  refine xq_iast dX2_addHandler_40 e57 t58 b59 ?_
  refine xe_aload_n dX2_addHandler_41 rfl rfl ?_
  refine xe_dup dX2_addHandler_42 (va_rf_cat _) ?_
  obtain ⟨a62, e63, t64, hF⟩ := gI_inv hF
  refine xq_getI dX2_addHandler_43 fl_Method_46 xk_2 e63 t64 rfl ?_
  refine xe_iconst (v := 1) dX2_addHandler_46 (by decide) ?_
  refine xe_iadd dX2_addHandler_47 ?_
  obtain ⟨a65, e66, t67, hF⟩ := pI_inv hF
  refine xq_putI dX2_addHandler_48 fl_Method_46 xk_2 (by decide) (fun z => by cases z) e66 t67 (Or.inl rfl) ?_
  refine xe_aload_n dX2_addHandler_51 rfl rfl ?_
  obtain ⟨a71, e72, t73, hF⟩ := gI_inv hF
  refine xq_getI dX2_addHandler_52 fl_Method_46 xk_2 e72 t73 rfl ?_
  exact xe_ireturn dX2_addHandler_55 (xP_ret (mk := mkI) hF)
/-! SeldomOps$Method.catcher(II)I -/
def BX2_catcher_46 (k2 : Option Nat → Int32 → Int32 → Int32 → Hp → Option (Int32 × Hp)) (x0 : Option Nat) (x1 : Int32) (x2 : Int32) (x3 : Int32) (h0 : Hp) : Option (Int32 × Hp) :=
  k2 x0 x1 x2 (x3 + 1) h0
set_option maxRecDepth 100000 in
set_option maxHeartbeats 4000000 in
theorem BX2_catcher_46_ok {G : xG} {l : Launch} {k2 : Option Nat → Int32 → Int32 → Int32 → Hp → Option (Int32 × Hp)} (hk2 : ∀ {x0 : Option Nat} {x1 : Int32} {x2 : Int32} {x3 : Int32} {h0 h1 : Hp} {r : Int32}, k2 x0 x1 x2 x3 h0 = some (r, h1) → xv G l mX2_catcher 2 0 0 2 [(0, false, va_rf x0), (1, false, .int x1), (2, false, .int x2), (3, false, .int x3)] [] h0 (xP mkI r h1)) {x0 : Option Nat} {x1 : Int32} {x2 : Int32} {x3 : Int32} {h0 h1 : Hp} {r : Int32} (hF : BX2_catcher_46 k2 x0 x1 x2 x3 h0 = some (r, h1)) : xv G l mX2_catcher 2 0 0 46 [(0, false, va_rf x0), (1, false, .int x1), (2, false, .int x2), (3, false, .int x3)] [] h0 (xP mkI r h1) := by
  unfold BX2_catcher_46 at hF
  refine xe_iinc (v := _ + 1) dX2_catcher_46 rfl rfl (by decide) ?_
  refine xe_goto (tgt := 2) dX2_catcher_49 (by decide) ?_
  exact xv.lv (hk2 hF) (xsub_cons rfl (xsub_cons rfl (xsub_cons rfl (xsub_cons rfl xsub_nil))))
def BX2_catcher_2 : Nat → Option Nat → Int32 → Int32 → Int32 → Hp → Option (Int32 × Hp)
  | 0, _, _, _, _, _ => none
  | n + 1, x0, x1, x2, x3, h0 =>
    gI h0 x0 2 12 fun v1 =>
    if (x3 : Int32) < v1 then
      rcv h0 x0 2 <|
      cl (FX2_covers x0 x3 x1 h0) fun v6 h7 =>
      if (v6 : Int32) = 0 then
        BX2_catcher_46 (BX2_catcher_2 n) x0 x1 x2 x3 h7
      else
        gR h7 x0 2 11 fun v13 =>
        aI h7 v13 .int x3 fun v17 =>
        if (v17 : Int32) = (-1) then
          gR h7 x0 2 10 fun v24 =>
          aI h7 v24 .int x3 fun v28 =>
          some (v28, h7)
        else
          gR h7 x0 2 11 fun v34 =>
          aI h7 v34 .int x3 fun v38 =>
          if (v38 : Int32) = x2 then
            gR h7 x0 2 10 fun v45 =>
            aI h7 v45 .int x3 fun v49 =>
            some (v49, h7)
          else
            BX2_catcher_46 (BX2_catcher_2 n) x0 x1 x2 x3 h7
    else
      some ((-1), h0)
set_option maxRecDepth 100000 in
set_option maxHeartbeats 4000000 in
theorem BX2_catcher_2_ok {G : xG} {l : Launch} : ∀ (n : Nat) {x0 : Option Nat} {x1 : Int32} {x2 : Int32} {x3 : Int32} {h0 h1 : Hp} {r : Int32} (hF : BX2_catcher_2 n x0 x1 x2 x3 h0 = some (r, h1)), xv G l mX2_catcher 2 0 0 2 [(0, false, va_rf x0), (1, false, .int x1), (2, false, .int x2), (3, false, .int x3)] [] h0 (xP mkI r h1) := by
  intro n
  induction n with
  | zero => intro x0 x1 x2 x3 h0 h1 r hF; cases hF
  | succ n ih =>
    intro x0 x1 x2 x3 h0 h1 r hF
    unfold BX2_catcher_2 at hF
    refine xe_iload_n dX2_catcher_2 rfl rfl ?_
    refine xe_aload_n dX2_catcher_3 rfl rfl ?_
    obtain ⟨a2, e3, t4, hF⟩ := gI_inv hF
    refine xq_getI dX2_catcher_4 fl_Method_46 xk_2 e3 t4 rfl ?_
    refine xe_icmp_ge (tgt := 52) dX2_catcher_7 (by decide) (fun c5 => ?_) (fun c5 => ?_)
    · replace hF := if_p c5 hF
      refine xe_aload_n dX2_catcher_10 rfl rfl ?_
      refine xe_iload_n dX2_catcher_11 rfl rfl ?_
      refine xe_iload_n dX2_catcher_12 rfl rfl ?_
      obtain ⟨a11, e9, t10, hF⟩ := rcv_inv hF
      obtain ⟨v6, h7, o8, hF⟩ := cl_inv hF
      refine xz (xq_callV (As := [.int _, .int _]) (rest := []) dX2_catcher_13 mk_X2_covers ⟨tw_927, tw_575, tw_576⟩ (ci := 2) rfl e9 t10 (FX2_covers_ok o8) xPZ_q (by decide) (by decide) rfl rfl ?_)
      refine xe_if_eq (tgt := 46) dX2_catcher_16 (by decide) (fun c12 => ?_) (fun c12 => ?_)
      · replace hF := if_p c12 hF
        exact xv.lv (BX2_catcher_46_ok ih hF) (xsub_cons rfl (xsub_cons rfl (xsub_cons rfl (xsub_cons rfl xsub_nil))))
      · replace hF := if_n c12 hF
        refine xe_aload_n dX2_catcher_19 rfl rfl ?_
        obtain ⟨a14, e15, t16, hF⟩ := gR_inv hF
        refine xq_getR dX2_catcher_20 fl_Method_43 xk_2 e15 t16 rfl ?_
        refine xe_iload_n dX2_catcher_23 rfl rfl ?_
        obtain ⟨a18, n19, e20, t21, b22, hF⟩ := aI_inv hF
        refine xq_iald dX2_catcher_24 e20 t21 b22 ?_
        refine xe_iconst (v := (-1)) dX2_catcher_25 (by decide) ?_
        refine xe_icmp_eq (tgt := 39) dX2_catcher_26 (by decide) (fun c23 => ?_) (fun c23 => ?_)
        · replace hF := if_p c23 hF
          refine xe_aload_n dX2_catcher_39 rfl rfl ?_
          obtain ⟨a25, e26, t27, hF⟩ := gR_inv hF
          refine xq_getR dX2_catcher_40 fl_Method_40 xk_2 e26 t27 rfl ?_
          refine xe_iload_n dX2_catcher_43 rfl rfl ?_
          obtain ⟨a29, n30, e31, t32, b33, hF⟩ := aI_inv hF
          refine xq_iald dX2_catcher_44 e31 t32 b33 ?_
          exact xe_ireturn dX2_catcher_45 (xP_ret (mk := mkI) hF)
        · replace hF := if_n c23 hF
          refine xe_aload_n dX2_catcher_29 rfl rfl ?_
          obtain ⟨a35, e36, t37, hF⟩ := gR_inv hF
          refine xq_getR dX2_catcher_30 fl_Method_43 xk_2 e36 t37 rfl ?_
          refine xe_iload_n dX2_catcher_33 rfl rfl ?_
          obtain ⟨a39, n40, e41, t42, b43, hF⟩ := aI_inv hF
          refine xq_iald dX2_catcher_34 e41 t42 b43 ?_
          refine xe_iload_n dX2_catcher_35 rfl rfl ?_
          refine xe_icmp_ne (tgt := 46) dX2_catcher_36 (by decide) (fun c44 => ?_) (fun c44 => ?_)
          · replace hF := if_p c44 hF
            refine xe_aload_n dX2_catcher_39 rfl rfl ?_
            obtain ⟨a46, e47, t48, hF⟩ := gR_inv hF
            refine xq_getR dX2_catcher_40 fl_Method_40 xk_2 e47 t48 rfl ?_
            refine xe_iload_n dX2_catcher_43 rfl rfl ?_
            obtain ⟨a50, n51, e52, t53, b54, hF⟩ := aI_inv hF
            refine xq_iald dX2_catcher_44 e52 t53 b54 ?_
            exact xe_ireturn dX2_catcher_45 (xP_ret (mk := mkI) hF)
          · replace hF := if_n c44 hF
            exact xv.lv (BX2_catcher_46_ok ih hF) (xsub_cons rfl (xsub_cons rfl (xsub_cons rfl (xsub_cons rfl xsub_nil))))
    · replace hF := if_n c5 hF
      refine xe_iconst (v := (-1)) dX2_catcher_52 (by decide) ?_
      exact xe_ireturn dX2_catcher_53 (xP_ret (mk := mkI) hF)
def FX2_catcher (p0 : Option Nat) (p1 : Int32) (p2 : Int32) (h0 : Hp) : Option (Int32 × Hp) :=
  BX2_catcher_2 100000 p0 p1 p2 0 h0
set_option maxRecDepth 100000 in
set_option maxHeartbeats 4000000 in
theorem FX2_catcher_ok {G : xG} {l : Launch} {p0 : Option Nat} {p1 : Int32} {p2 : Int32} {h0 h1 : Hp} {r : Int32} (hF : FX2_catcher p0 p1 p2 h0 = some (r, h1)) : xc G l mX2_catcher 2 0 0 [va_rf p0, .int p1, .int p2] h0 (xP mkI r h1) := by
  refine xo_I [.inr (.inr _), .inl _, .inl _] (by decide) (Nat.le_of_ble_eq_true rfl) rfl ?_
  show xv _ _ _ _ _ _ _ [(0, false, va_rf p0), (1, false, .int p1), (2, false, .int p2)] _ _ _
  unfold FX2_catcher at hF
  refine xe_iconst (v := 0) dX2_catcher_0 (by decide) ?_
  refine xe_istore_n dX2_catcher_1 rfl (by decide) ?_
  exact xv.lv (BX2_catcher_2_ok _ hF) (xsub_cons rfl (xsub_cons rfl (xsub_cons rfl (xsub_cons rfl xsub_nil))))
/-! SeldomOps$Shapes.<init>()V -/
def FX6_init (p0 : Option Nat) (h0 : Hp) : Option (Unit × Hp) :=
  nz p0 none <|
  nA h0 (.inr (.int, 60)) fun v3 h4 =>
  pR h4 p0 5 0 (some v3) fun h10 =>
  nA h10 (.inr (.long, 720)) fun v12 h13 =>
  pR h13 p0 5 1 (some v12) fun h19 =>
  nA h19 (.inr (.long, 960)) fun v21 h22 =>
  pR h22 p0 5 2 (some v21) fun h28 =>
  nA h28 (.inr (.boolean, 60)) fun v30 h31 =>
  pR h31 p0 5 3 (some v30) fun h37 =>
  some ((), h37)
set_option maxRecDepth 100000 in
set_option maxHeartbeats 4000000 in
theorem FX6_init_ok {G : xG} {l : Launch} {p0 : Option Nat} {h0 h1 : Hp} {r : Unit} (hF : FX6_init p0 h0 = some (r, h1)) : xc G l mX6_init 1 4 1800 [va_rf p0] h0 (xP mkV r h1) := by
  refine xo_V [.inr (.inr _)] (by decide) (Nat.le_of_ble_eq_true rfl) rfl ?_
  show xv _ _ _ _ _ _ _ [(0, false, va_rf p0)] _ _ _
  unfold FX6_init at hF
  refine xe_aload_n dX6_init_0 rfl rfl ?_
  obtain ⟨a2, e1, hF⟩ := nzn_inv hF
  refine xq_objInit dX6_init_1 ⟨tw_284, tw_22, tw_23⟩ (by decide) (by decide) e1 ?_
  refine xe_aload_n dX6_init_4 rfl rfl ?_
  refine xe_bipush (v := 60) dX6_init_5 (by decide) ?_
  obtain ⟨v3, h4, e5, e6, hF⟩ := nA_inv hF
  refine xv.weaken (xn_newa (t := .int) (N := 60) (k := 3) (n := 1740) dX6_init_7 rfl (Or.inl rfl) tw_153 (by decide) (by decide) (by decide) e5 e6 ?_) (by first | decide | omega) (by first | decide | (simp only [xnf]; omega))
  obtain ⟨a7, e8, t9, hF⟩ := pR_inv hF
  refine xq_putR dX6_init_9 fl_Shapes_9 xk_5 (by decide) (fun _ => ⟨rfl, _, _, rfl⟩) e8 t9 (Or.inr ⟨_, rfl⟩) ?_
  refine xe_aload_n dX6_init_12 rfl rfl ?_
  refine xe_sipush (v := 720) dX6_init_13 (by decide) ?_
  obtain ⟨v12, h13, e14, e15, hF⟩ := nA_inv hF
  refine xv.weaken (xn_newa (t := .long) (N := 720) (k := 2) (n := 1020) dX6_init_16 rfl (Or.inr (Or.inl rfl)) tw_59 (by decide) (by decide) (by decide) e14 e15 ?_) (by first | decide | omega) (by first | decide | (simp only [xnf]; omega))
  obtain ⟨a16, e17, t18, hF⟩ := pR_inv hF
  refine xq_putR dX6_init_18 fl_Shapes_15 xk_5 (by decide) (fun _ => ⟨rfl, _, _, rfl⟩) e17 t18 (Or.inr ⟨_, rfl⟩) ?_
  refine xe_aload_n dX6_init_21 rfl rfl ?_
  refine xe_sipush (v := 960) dX6_init_22 (by decide) ?_
  obtain ⟨v21, h22, e23, e24, hF⟩ := nA_inv hF
  refine xv.weaken (xn_newa (t := .long) (N := 960) (k := 1) (n := 60) dX6_init_25 rfl (Or.inr (Or.inl rfl)) tw_59 (by decide) (by decide) (by decide) e23 e24 ?_) (by first | decide | omega) (by first | decide | (simp only [xnf]; omega))
  obtain ⟨a25, e26, t27, hF⟩ := pR_inv hF
  refine xq_putR dX6_init_27 fl_Shapes_19 xk_5 (by decide) (fun _ => ⟨rfl, _, _, rfl⟩) e26 t27 (Or.inr ⟨_, rfl⟩) ?_
  refine xe_aload_n dX6_init_30 rfl rfl ?_
  refine xe_bipush (v := 60) dX6_init_31 (by decide) ?_
  obtain ⟨v30, h31, e32, e33, hF⟩ := nA_inv hF
  refine xv.weaken (xn_newa (t := .boolean) (N := 60) (k := 0) (n := 0) dX6_init_33 rfl (Or.inr (Or.inr rfl)) tw_299 (by decide) (by decide) (by decide) e32 e33 ?_) (by first | decide | omega) (by first | decide | (simp only [xnf]; omega))
  obtain ⟨a34, e35, t36, hF⟩ := pR_inv hF
  refine xq_putR dX6_init_35 fl_Shapes_22 xk_5 (by decide) (fun _ => ⟨rfl, _, _, rfl⟩) e35 t36 (Or.inr ⟨_, rfl⟩) ?_
  exact xe_return dX6_init_38 (xP_ret (mk := mkV) hF)
/-! SeldomOps$Method.<init>(I)V -/
def FX2_init (p0 : Option Nat) (p1 : Int32) (h0 : Hp) : Option (Unit × Hp) :=
  nz p0 none <|
  nA h0 (.inr (.int, 8)) fun v3 h4 =>
  pR h4 p0 2 1 (some v3) fun h10 =>
  pI h10 p0 2 2 0 fun h15 =>
  pI h15 p0 2 3 0 fun h20 =>
  nA h20 (.inr (.int, 60)) fun v22 h23 =>
  pR h23 p0 2 4 (some v22) fun h29 =>
  nA h29 (.inr (.int, 60)) fun v31 h32 =>
  pR h32 p0 2 5 (some v31) fun h38 =>
  nA h38 (.inr (.int, 60)) fun v40 h41 =>
  pR h41 p0 2 6 (some v40) fun h47 =>
  pI h47 p0 2 7 0 fun h52 =>
  nA h52 (.inr (.int, 6)) fun v54 h55 =>
  pR h55 p0 2 8 (some v54) fun h61 =>
  nA h61 (.inr (.int, 6)) fun v63 h64 =>
  pR h64 p0 2 9 (some v63) fun h70 =>
  nA h70 (.inr (.int, 6)) fun v72 h73 =>
  pR h73 p0 2 10 (some v72) fun h79 =>
  nA h79 (.inr (.int, 6)) fun v81 h82 =>
  pR h82 p0 2 11 (some v81) fun h88 =>
  pI h88 p0 2 12 0 fun h93 =>
  nA h93 (.inl 5) fun v95 h96 =>
  nz (some v95) none <|
  cl (FX6_init (some v95) h96) fun v99 h100 =>
  pR h100 p0 2 13 (some v95) fun h107 =>
  pZ h107 p0 2 14 0 fun h112 =>
  pZ h112 p0 2 15 0 fun h117 =>
  pI h117 p0 2 0 p1 fun h122 =>
  some ((), h122)
set_option maxRecDepth 100000 in
set_option maxHeartbeats 4000000 in
theorem FX2_init_ok {G : xG} {l : Launch} {p0 : Option Nat} {p1 : Int32} {h0 h1 : Hp} {r : Unit} (hF : FX2_init p0 p1 h0 = some (r, h1)) : xc G l mX2_init 2 13 2016 [va_rf p0, .int p1] h0 (xP mkV r h1) := by
  refine xo_V [.inr (.inr _), .inl _] (by decide) (Nat.le_of_ble_eq_true rfl) rfl ?_
  show xv _ _ _ _ _ _ _ [(0, false, va_rf p0), (1, false, .int p1)] _ _ _
  unfold FX2_init at hF
  refine xe_aload_n dX2_init_0 rfl rfl ?_
  obtain ⟨a2, e1, hF⟩ := nzn_inv hF
  refine xq_objInit dX2_init_1 ⟨tw_278, tw_22, tw_23⟩ (by decide) (by decide) e1 ?_
  refine xe_aload_n dX2_init_4 rfl rfl ?_
  refine xe_bipush (v := 8) dX2_init_5 (by decide) ?_
  obtain ⟨v3, h4, e5, e6, hF⟩ := nA_inv hF
  refine xv.weaken (xn_newa (t := .int) (N := 8) (k := 12) (n := 2008) dX2_init_7 rfl (Or.inl rfl) tw_153 (by decide) (by decide) (by decide) e5 e6 ?_) (by first | decide | omega) (by first | decide | (simp only [xnf]; omega))
  obtain ⟨a7, e8, t9, hF⟩ := pR_inv hF
  refine xq_putR dX2_init_9 fl_Method_9 xk_2 (by decide) (fun _ => ⟨rfl, _, _, rfl⟩) e8 t9 (Or.inr ⟨_, rfl⟩) ?_
  refine xe_aload_n dX2_init_12 rfl rfl ?_
  refine xe_iconst (v := 0) dX2_init_13 (by decide) ?_
  obtain ⟨a12, e13, t14, hF⟩ := pI_inv hF
  refine xq_putI dX2_init_14 fl_Method_15 xk_2 (by decide) (fun z => by cases z) e13 t14 (Or.inl rfl) ?_
  refine xe_aload_n dX2_init_17 rfl rfl ?_
  refine xe_iconst (v := 0) dX2_init_18 (by decide) ?_
  obtain ⟨a17, e18, t19, hF⟩ := pI_inv hF
  refine xq_putI dX2_init_19 fl_Method_19 xk_2 (by decide) (fun z => by cases z) e18 t19 (Or.inl rfl) ?_
  refine xe_aload_n dX2_init_22 rfl rfl ?_
  refine xe_bipush (v := 60) dX2_init_23 (by decide) ?_
  obtain ⟨v22, h23, e24, e25, hF⟩ := nA_inv hF
  refine xv.weaken (xn_newa (t := .int) (N := 60) (k := 11) (n := 1948) dX2_init_25 rfl (Or.inl rfl) tw_153 (by decide) (by decide) (by decide) e24 e25 ?_) (by first | decide | omega) (by first | decide | (simp only [xnf]; omega))
  obtain ⟨a26, e27, t28, hF⟩ := pR_inv hF
  refine xq_putR dX2_init_27 fl_Method_22 xk_2 (by decide) (fun _ => ⟨rfl, _, _, rfl⟩) e27 t28 (Or.inr ⟨_, rfl⟩) ?_
  refine xe_aload_n dX2_init_30 rfl rfl ?_
  refine xe_bipush (v := 60) dX2_init_31 (by decide) ?_
  obtain ⟨v31, h32, e33, e34, hF⟩ := nA_inv hF
  refine xv.weaken (xn_newa (t := .int) (N := 60) (k := 10) (n := 1888) dX2_init_33 rfl (Or.inl rfl) tw_153 (by decide) (by decide) (by decide) e33 e34 ?_) (by first | decide | omega) (by first | decide | (simp only [xnf]; omega))
  obtain ⟨a35, e36, t37, hF⟩ := pR_inv hF
  refine xq_putR dX2_init_35 fl_Method_25 xk_2 (by decide) (fun _ => ⟨rfl, _, _, rfl⟩) e36 t37 (Or.inr ⟨_, rfl⟩) ?_
  refine xe_aload_n dX2_init_38 rfl rfl ?_
  refine xe_bipush (v := 60) dX2_init_39 (by decide) ?_
  obtain ⟨v40, h41, e42, e43, hF⟩ := nA_inv hF
  refine xv.weaken (xn_newa (t := .int) (N := 60) (k := 9) (n := 1828) dX2_init_41 rfl (Or.inl rfl) tw_153 (by decide) (by decide) (by decide) e42 e43 ?_) (by first | decide | omega) (by first | decide | (simp only [xnf]; omega))
  obtain ⟨a44, e45, t46, hF⟩ := pR_inv hF
  refine xq_putR dX2_init_43 fl_Method_28 xk_2 (by decide) (fun _ => ⟨rfl, _, _, rfl⟩) e45 t46 (Or.inr ⟨_, rfl⟩) ?_
  refine xe_aload_n dX2_init_46 rfl rfl ?_
  refine xe_iconst (v := 0) dX2_init_47 (by decide) ?_
  obtain ⟨a49, e50, t51, hF⟩ := pI_inv hF
  refine xq_putI dX2_init_48 fl_Method_31 xk_2 (by decide) (fun z => by cases z) e50 t51 (Or.inl rfl) ?_
  refine xe_aload_n dX2_init_51 rfl rfl ?_
  refine xe_bipush (v := 6) dX2_init_52 (by decide) ?_
  obtain ⟨v54, h55, e56, e57, hF⟩ := nA_inv hF
  refine xv.weaken (xn_newa (t := .int) (N := 6) (k := 8) (n := 1822) dX2_init_54 rfl (Or.inl rfl) tw_153 (by decide) (by decide) (by decide) e56 e57 ?_) (by first | decide | omega) (by first | decide | (simp only [xnf]; omega))
  obtain ⟨a58, e59, t60, hF⟩ := pR_inv hF
  refine xq_putR dX2_init_56 fl_Method_34 xk_2 (by decide) (fun _ => ⟨rfl, _, _, rfl⟩) e59 t60 (Or.inr ⟨_, rfl⟩) ?_
  refine xe_aload_n dX2_init_59 rfl rfl ?_
  refine xe_bipush (v := 6) dX2_init_60 (by decide) ?_
  obtain ⟨v63, h64, e65, e66, hF⟩ := nA_inv hF
  refine xv.weaken (xn_newa (t := .int) (N := 6) (k := 7) (n := 1816) dX2_init_62 rfl (Or.inl rfl) tw_153 (by decide) (by decide) (by decide) e65 e66 ?_) (by first | decide | omega) (by first | decide | (simp only [xnf]; omega))
  obtain ⟨a67, e68, t69, hF⟩ := pR_inv hF
  refine xq_putR dX2_init_64 fl_Method_37 xk_2 (by decide) (fun _ => ⟨rfl, _, _, rfl⟩) e68 t69 (Or.inr ⟨_, rfl⟩) ?_
  refine xe_aload_n dX2_init_67 rfl rfl ?_
  refine xe_bipush (v := 6) dX2_init_68 (by decide) ?_
  obtain ⟨v72, h73, e74, e75, hF⟩ := nA_inv hF
  refine xv.weaken (xn_newa (t := .int) (N := 6) (k := 6) (n := 1810) dX2_init_70 rfl (Or.inl rfl) tw_153 (by decide) (by decide) (by decide) e74 e75 ?_) (by first | decide | omega) (by first | decide | (simp only [xnf]; omega))
  obtain ⟨a76, e77, t78, hF⟩ := pR_inv hF
  refine xq_putR dX2_init_72 fl_Method_40 xk_2 (by decide) (fun _ => ⟨rfl, _, _, rfl⟩) e77 t78 (Or.inr ⟨_, rfl⟩) ?_
  refine xe_aload_n dX2_init_75 rfl rfl ?_
  refine xe_bipush (v := 6) dX2_init_76 (by decide) ?_
  obtain ⟨v81, h82, e83, e84, hF⟩ := nA_inv hF
  refine xv.weaken (xn_newa (t := .int) (N := 6) (k := 5) (n := 1804) dX2_init_78 rfl (Or.inl rfl) tw_153 (by decide) (by decide) (by decide) e83 e84 ?_) (by first | decide | omega) (by first | decide | (simp only [xnf]; omega))
  obtain ⟨a85, e86, t87, hF⟩ := pR_inv hF
  refine xq_putR dX2_init_80 fl_Method_43 xk_2 (by decide) (fun _ => ⟨rfl, _, _, rfl⟩) e86 t87 (Or.inr ⟨_, rfl⟩) ?_
  refine xe_aload_n dX2_init_83 rfl rfl ?_
  refine xe_iconst (v := 0) dX2_init_84 (by decide) ?_
  obtain ⟨a90, e91, t92, hF⟩ := pI_inv hF
  refine xq_putI dX2_init_85 fl_Method_46 xk_2 (by decide) (fun z => by cases z) e91 t92 (Or.inl rfl) ?_
  refine xe_aload_n dX2_init_88 rfl rfl ?_
  obtain ⟨v95, h96, e97, e98, hF⟩ := nA_inv hF
  refine xv.weaken (xn_new (k := 4) (n := 1800) dX2_init_89 xk_5 (by decide) nw_Method_49 e97 e98 ?_) (by first | decide | omega) (by first | decide | (simp only [xnf]; omega))
  refine xe_dup dX2_init_92 (va_rf_cat _) ?_
  obtain ⟨a103, e102, hF⟩ := nzn_inv hF
  obtain ⟨v99, h100, o101, hF⟩ := cl_inv hF
  refine xv.weaken (xq_callIN (k := 0) (n := 0) (As := []) (rest := [va_rf _, va_rf _]) dX2_init_93 mk_X6_init ⟨rfl, rfl⟩ ⟨tn_281, tw_282⟩ e102 (FX6_init_ok o101) xP_q (by decide) (Nat.le_trans (cs_r (cs_r cs_0)) (by decide)) rfl rfl ?_) (by first | decide | omega) (by first | decide | omega)
  obtain ⟨a104, e105, t106, hF⟩ := pR_inv hF
  refine xq_putR dX2_init_96 fl_Method_52 xk_2 (by decide) (fun _ => ⟨rfl, _, _, rfl⟩) e105 t106 (Or.inl ⟨_, rfl⟩) ?_
  refine xe_aload_n dX2_init_99 rfl rfl ?_
  refine xe_iconst (v := 0) dX2_init_100 (by decide) ?_
  obtain ⟨a109, e110, t111, z113, hF⟩ := pZ_inv hF
  refine xq_putI dX2_init_101 fl_Method_56 xk_2 (by decide) (fun z => by cases z) e110 t111 (Or.inr ⟨rfl, z113⟩) ?_
  refine xe_aload_n dX2_init_104 rfl rfl ?_
  refine xe_iconst (v := 0) dX2_init_105 (by decide) ?_
  obtain ⟨a114, e115, t116, z118, hF⟩ := pZ_inv hF
  refine xq_putI dX2_init_106 fl_Method_60 xk_2 (by decide) (fun z => by cases z) e115 t116 (Or.inr ⟨rfl, z118⟩) ?_
  refine xe_aload_n dX2_init_109 rfl rfl ?_
  refine xe_iload_n dX2_init_110 rfl rfl ?_
  obtain ⟨a119, e120, t121, hF⟩ := pI_inv hF
  refine xq_putI dX2_init_111 fl_Method_63 xk_2 (by decide) (fun _ => ⟨rfl, _, _, rfl⟩) e120 t121 (Or.inl rfl) ?_
  exact xe_return dX2_init_114 (xP_ret (mk := mkV) hF)
/-! SeldomOps$Method.setOperation(IIII)V -/
def FX2_setOperation (p0 : Option Nat) (p1 : Int32) (p2 : Int32) (p3 : Int32) (p4 : Int32) (h0 : Hp) : Option (Unit × Hp) :=
  gR h0 p0 2 4 fun v1 =>
  sI h0 v1 p1 p2 fun h5 =>
  gR h5 p0 2 5 fun v12 =>
  sI h5 v12 p1 p3 fun h16 =>
  gR h16 p0 2 6 fun v23 =>
  sI h16 v23 p1 p4 fun h27 =>
  some ((), h27)
set_option maxRecDepth 100000 in
set_option maxHeartbeats 4000000 in
theorem FX2_setOperation_ok {G : xG} {l : Launch} {p0 : Option Nat} {p1 : Int32} {p2 : Int32} {p3 : Int32} {p4 : Int32} {h0 h1 : Hp} {r : Unit} (hF : FX2_setOperation p0 p1 p2 p3 p4 h0 = some (r, h1)) : xc G l mX2_setOperation 1 0 0 [va_rf p0, .int p1, .int p2, .int p3, .int p4] h0 (xP mkV r h1) := by
  refine xo_V [.inr (.inr _), .inl _, .inl _, .inl _, .inl _] (by decide) (Nat.le_of_ble_eq_true rfl) rfl ?_
  show xv _ _ _ _ _ _ _ [(0, false, va_rf p0), (1, false, .int p1), (2, false, .int p2), (3, false, .int p3), (4, false, .int p4)] _ _ _
  unfold FX2_setOperation at hF
  refine xe_aload_n dX2_setOperation_0 rfl rfl ?_
  obtain ⟨a2, e3, t4, hF⟩ := gR_inv hF
  refine xq_getR dX2_setOperation_1 fl_Method_22 xk_2 e3 t4 rfl ?_
  refine xe_iload_n dX2_setOperation_4 rfl rfl ?_
  refine xe_iload_n dX2_setOperation_5 rfl rfl ?_
  obtain ⟨a6, n7, e8, t9, b10, hF⟩ := sI_inv hF
  refine xq_iast dX2_setOperation_6 e8 t9 b10 ?_
  refine xe_aload_n dX2_setOperation_7 rfl rfl ?_
  obtain ⟨a13, e14, t15, hF⟩ := gR_inv hF
  refine xq_getR dX2_setOperation_8 fl_Method_25 xk_2 e14 t15 rfl ?_
  refine xe_iload_n dX2_setOperation_11 rfl rfl ?_
  refine xe_iload_n dX2_setOperation_12 rfl rfl ?_
  obtain ⟨a17, n18, e19, t20, b21, hF⟩ := sI_inv hF
  refine xq_iast dX2_setOperation_13 e19 t20 b21 ?_
  refine xe_aload_n dX2_setOperation_14 rfl rfl ?_
  obtain ⟨a24, e25, t26, hF⟩ := gR_inv hF
  refine xq_getR dX2_setOperation_15 fl_Method_28 xk_2 e25 t26 rfl ?_
  refine xe_iload_n dX2_setOperation_18 rfl rfl ?_
  refine xe_iload dX2_setOperation_19 rfl ?_
  obtain ⟨a28, n29, e30, t31, b32, hF⟩ := sI_inv hF
  refine xq_iast dX2_setOperation_21 e30 t31 b32 ?_
  exact xe_return dX2_setOperation_22 (xP_ret (mk := mkV) hF)
/-! SeldomOps$Numbers.calculateInt(III)I -/
def FX3_calculateInt (p0 : Int32) (p1 : Int32) (p2 : Int32) (h0 : Hp) : Option (Int32 × Hp) :=
  if (p0 : Int32) = 0 then
    some ((p1 + p2), h0)
  else
  if (p0 : Int32) = 1 then
    some ((p1 - p2), h0)
  else
  if (p0 : Int32) = 2 then
    some ((p1 * p2), h0)
  else
  if (p0 : Int32) = 3 then
    if (p2 : Int32) = 0 then
      some (0, h0)
    else
      if (p2 : Int32) = 0 then none else
      some ((p1 / p2), h0)
  else
  if (p0 : Int32) = 4 then
    if (p2 : Int32) = 0 then
      some (0, h0)
    else
      if (p2 : Int32) = 0 then none else
      some ((p1 - p1 / p2 * p2), h0)
  else
  if (p0 : Int32) = 5 then
    some ((p1 &&& p2), h0)
  else
  if (p0 : Int32) = 6 then
    some ((p1 ||| p2), h0)
  else
  if (p0 : Int32) = 7 then
    some ((p1 ^^^ p2), h0)
  else
  if (p0 : Int32) = 8 then
    some ((p1 <<< (p2 &&& 31)), h0)
  else
  if (p0 : Int32) = 9 then
    some ((p1 >>> (p2 &&& 31)), h0)
  else
  if (p0 : Int32) = 10 then
    some ((Int32.toUInt32 p1 >>> (Int32.toUInt32 p2 &&& Int32.toUInt32 31)).toInt32, h0)
  else
  some ((0 - p1), h0)
set_option maxRecDepth 100000 in
set_option maxHeartbeats 4000000 in
theorem FX3_calculateInt_ok {G : xG} {l : Launch} {p0 : Int32} {p1 : Int32} {p2 : Int32} {h0 h1 : Hp} {r : Int32} (hF : FX3_calculateInt p0 p1 p2 h0 = some (r, h1)) : xc G l mX3_calculateInt 1 0 0 [.int p0, .int p1, .int p2] h0 (xP mkI r h1) := by
  refine xo_I [.inl _, .inl _, .inl _] (by decide) (Nat.le_of_ble_eq_true rfl) rfl ?_
  show xv _ _ _ _ _ _ _ [(0, false, .int p0), (1, false, .int p1), (2, false, .int p2)] _ _ _
  unfold FX3_calculateInt at hF
  refine xe_iload_n dX3_calculateInt_0 rfl rfl ?_
  refine xs_case (j := 0) (tgt := 60) dX3_calculateInt_1 (by decide) (by decide) rfl (by decide) (fun c1 => ?_) (fun c1 => ?_)
  · replace hF := if_p c1 hF
    refine xe_iload_n dX3_calculateInt_60 rfl rfl ?_
    refine xe_iload_n dX3_calculateInt_61 rfl rfl ?_
    refine xe_iadd dX3_calculateInt_62 ?_
    exact xe_ireturn dX3_calculateInt_63 (xP_ret (mk := mkI) hF)
  replace hF := if_n c1 hF
  refine xs_case (j := 1) (tgt := 64) dX3_calculateInt_1 (by decide) (by decide) rfl (by decide) (fun c2 => ?_) (fun c2 => ?_)
  · replace hF := if_p c2 hF
    refine xe_iload_n dX3_calculateInt_64 rfl rfl ?_
    refine xe_iload_n dX3_calculateInt_65 rfl rfl ?_
    refine xe_isub dX3_calculateInt_66 ?_
    exact xe_ireturn dX3_calculateInt_67 (xP_ret (mk := mkI) hF)
  replace hF := if_n c2 hF
  refine xs_case (j := 2) (tgt := 68) dX3_calculateInt_1 (by decide) (by decide) rfl (by decide) (fun c3 => ?_) (fun c3 => ?_)
  · replace hF := if_p c3 hF
    refine xe_iload_n dX3_calculateInt_68 rfl rfl ?_
    refine xe_iload_n dX3_calculateInt_69 rfl rfl ?_
    refine xe_imul dX3_calculateInt_70 ?_
    exact xe_ireturn dX3_calculateInt_71 (xP_ret (mk := mkI) hF)
  replace hF := if_n c3 hF
  refine xs_case (j := 3) (tgt := 72) dX3_calculateInt_1 (by decide) (by decide) rfl (by decide) (fun c4 => ?_) (fun c4 => ?_)
  · replace hF := if_p c4 hF
    refine xe_iload_n dX3_calculateInt_72 rfl rfl ?_
    refine xe_if_ne (tgt := 80) dX3_calculateInt_73 (by decide) (fun c5 => ?_) (fun c5 => ?_)
    · replace hF := if_p c5 hF
      refine xe_iconst (v := 0) dX3_calculateInt_76 (by decide) ?_
      refine xe_goto (tgt := 83) dX3_calculateInt_77 (by decide) ?_
      exact xe_ireturn dX3_calculateInt_83 (xP_ret (mk := mkI) hF)
    · replace hF := if_n c5 hF
      refine xe_iload_n dX3_calculateInt_80 rfl rfl ?_
      refine xe_iload_n dX3_calculateInt_81 rfl rfl ?_
      obtain ⟨c6, hF⟩ := dv_inv hF
      refine xe_idiv dX3_calculateInt_82 c6 ?_
      exact xe_ireturn dX3_calculateInt_83 (xP_ret (mk := mkI) hF)
  replace hF := if_n c4 hF
  refine xs_case (j := 4) (tgt := 84) dX3_calculateInt_1 (by decide) (by decide) rfl (by decide) (fun c7 => ?_) (fun c7 => ?_)
  · replace hF := if_p c7 hF
    refine xe_iload_n dX3_calculateInt_84 rfl rfl ?_
    refine xe_if_ne (tgt := 92) dX3_calculateInt_85 (by decide) (fun c8 => ?_) (fun c8 => ?_)
    · replace hF := if_p c8 hF
      refine xe_iconst (v := 0) dX3_calculateInt_88 (by decide) ?_
      refine xe_goto (tgt := 95) dX3_calculateInt_89 (by decide) ?_
      exact xe_ireturn dX3_calculateInt_95 (xP_ret (mk := mkI) hF)
    · replace hF := if_n c8 hF
      refine xe_iload_n dX3_calculateInt_92 rfl rfl ?_
      refine xe_iload_n dX3_calculateInt_93 rfl rfl ?_
      obtain ⟨c9, hF⟩ := dv_inv hF
      refine xe_irem dX3_calculateInt_94 c9 ?_
      exact xe_ireturn dX3_calculateInt_95 (xP_ret (mk := mkI) hF)
  replace hF := if_n c7 hF
  refine xs_case (j := 5) (tgt := 96) dX3_calculateInt_1 (by decide) (by decide) rfl (by decide) (fun c10 => ?_) (fun c10 => ?_)
  · replace hF := if_p c10 hF
    refine xe_iload_n dX3_calculateInt_96 rfl rfl ?_
    refine xe_iload_n dX3_calculateInt_97 rfl rfl ?_
    refine xe_iand dX3_calculateInt_98 ?_
    exact xe_ireturn dX3_calculateInt_99 (xP_ret (mk := mkI) hF)
  replace hF := if_n c10 hF
  refine xs_case (j := 6) (tgt := 100) dX3_calculateInt_1 (by decide) (by decide) rfl (by decide) (fun c11 => ?_) (fun c11 => ?_)
  · replace hF := if_p c11 hF
    refine xe_iload_n dX3_calculateInt_100 rfl rfl ?_
    refine xe_iload_n dX3_calculateInt_101 rfl rfl ?_
    refine xe_ior dX3_calculateInt_102 ?_
    exact xe_ireturn dX3_calculateInt_103 (xP_ret (mk := mkI) hF)
  replace hF := if_n c11 hF
  refine xs_case (j := 7) (tgt := 104) dX3_calculateInt_1 (by decide) (by decide) rfl (by decide) (fun c12 => ?_) (fun c12 => ?_)
  · replace hF := if_p c12 hF
    refine xe_iload_n dX3_calculateInt_104 rfl rfl ?_
    refine xe_iload_n dX3_calculateInt_105 rfl rfl ?_
    refine xe_ixor dX3_calculateInt_106 ?_
    exact xe_ireturn dX3_calculateInt_107 (xP_ret (mk := mkI) hF)
  replace hF := if_n c12 hF
  refine xs_case (j := 8) (tgt := 108) dX3_calculateInt_1 (by decide) (by decide) rfl (by decide) (fun c13 => ?_) (fun c13 => ?_)
  · replace hF := if_p c13 hF
    refine xe_iload_n dX3_calculateInt_108 rfl rfl ?_
    refine xe_iload_n dX3_calculateInt_109 rfl rfl ?_
    refine xe_ishl dX3_calculateInt_110 ?_
    exact xe_ireturn dX3_calculateInt_111 (xP_ret (mk := mkI) hF)
  replace hF := if_n c13 hF
  refine xs_case (j := 9) (tgt := 112) dX3_calculateInt_1 (by decide) (by decide) rfl (by decide) (fun c14 => ?_) (fun c14 => ?_)
  · replace hF := if_p c14 hF
    refine xe_iload_n dX3_calculateInt_112 rfl rfl ?_
    refine xe_iload_n dX3_calculateInt_113 rfl rfl ?_
    refine xe_ishr dX3_calculateInt_114 ?_
    exact xe_ireturn dX3_calculateInt_115 (xP_ret (mk := mkI) hF)
  replace hF := if_n c14 hF
  refine xs_case (j := 10) (tgt := 116) dX3_calculateInt_1 (by decide) (by decide) rfl (by decide) (fun c15 => ?_) (fun c15 => ?_)
  · replace hF := if_p c15 hF
    refine xe_iload_n dX3_calculateInt_116 rfl rfl ?_
    refine xe_iload_n dX3_calculateInt_117 rfl rfl ?_
    refine xe_iushr dX3_calculateInt_118 ?_
    exact xe_ireturn dX3_calculateInt_119 (xP_ret (mk := mkI) hF)
  replace hF := if_n c15 hF
  refine xs_rest (tgt := 120) [0, 1, 2, 3, 4, 5, 6, 7, 8, 9, 10] dX3_calculateInt_1 (by decide) (List.forall_mem_cons.mpr ⟨c1, List.forall_mem_cons.mpr ⟨c2, List.forall_mem_cons.mpr ⟨c3, List.forall_mem_cons.mpr ⟨c4, List.forall_mem_cons.mpr ⟨c7, List.forall_mem_cons.mpr ⟨c10, List.forall_mem_cons.mpr ⟨c11, List.forall_mem_cons.mpr ⟨c12, List.forall_mem_cons.mpr ⟨c13, List.forall_mem_cons.mpr ⟨c14, List.forall_mem_cons.mpr ⟨c15, fun _ h => by cases h⟩⟩⟩⟩⟩⟩⟩⟩⟩⟩⟩) (by decide) ?_
  refine xe_iload_n dX3_calculateInt_120 rfl rfl ?_
  refine xe_ineg dX3_calculateInt_121 ?_
  exact xe_ireturn dX3_calculateInt_122 (xP_ret (mk := mkI) hF)
/-! SeldomOps$Numbers.calculateLong(IJJ)J -/
def FX3_calculateLong (p0 : Int32) (p1 : Int64) (p2 : Int64) (h0 : Hp) : Option (Int64 × Hp) :=
  if (p0 : Int32) = 0 then
    some ((p1 + p2), h0)
  else
  if (p0 : Int32) = 1 then
    some ((p1 - p2), h0)
  else
  if (p0 : Int32) = 2 then
    some ((p1 * p2), h0)
  else
  if (p0 : Int32) = 3 then
    if (p2 : Int64) = 0 then
      some (0, h0)
    else
      if (p2 : Int64) = 0 then none else
      some ((p1 / p2), h0)
  else
  if (p0 : Int32) = 4 then
    if (p2 : Int64) = 0 then
      some (0, h0)
    else
      if (p2 : Int64) = 0 then none else
      some ((p1 - p1 / p2 * p2), h0)
  else
  if (p0 : Int32) = 5 then
    some ((p1 &&& p2), h0)
  else
  if (p0 : Int32) = 6 then
    some ((p1 ||| p2), h0)
  else
  if (p0 : Int32) = 7 then
    some ((p1 ^^^ p2), h0)
  else
  if (p0 : Int32) = 8 then
    some ((p1 <<< (Int32.toInt64 (Int64.toInt32 p2) &&& 63)), h0)
  else
  if (p0 : Int32) = 9 then
    some ((p1 >>> (Int32.toInt64 (Int64.toInt32 p2) &&& 63)), h0)
  else
  if (p0 : Int32) = 10 then
    some ((Int64.toUInt64 p1 >>> ((Int32.toInt64 (Int64.toInt32 p2)).toUInt64 &&& Int64.toUInt64 63)).toInt64, h0)
  else
  some ((0 - p1), h0)
set_option maxRecDepth 100000 in
set_option maxHeartbeats 4000000 in
theorem FX3_calculateLong_ok {G : xG} {l : Launch} {p0 : Int32} {p1 : Int64} {p2 : Int64} {h0 h1 : Hp} {r : Int64} (hF : FX3_calculateLong p0 p1 p2 h0 = some (r, h1)) : xc G l mX3_calculateLong 1 0 0 [.int p0, .long p1, .long p2] h0 (xP mkL r h1) := by
  refine xo_L [.inl _, .inr (.inl _), .inr (.inl _)] (by decide) (Nat.le_of_ble_eq_true rfl) rfl ?_
  show xv _ _ _ _ _ _ _ [(0, false, .int p0), (1, true, .long p1), (3, true, .long p2)] _ _ _
  unfold FX3_calculateLong at hF
  refine xe_iload_n dX3_calculateLong_0 rfl rfl ?_
  refine xs_case (j := 0) (tgt := 60) dX3_calculateLong_1 (by decide) (by decide) rfl (by decide) (fun c1 => ?_) (fun c1 => ?_)
  · replace hF := if_p c1 hF
    refine xe_lload_n dX3_calculateLong_60 rfl rfl ?_
    refine xe_lload_n dX3_calculateLong_61 rfl rfl ?_
    refine xe_ladd dX3_calculateLong_62 ?_
    exact xe_lreturn dX3_calculateLong_63 (xP_ret (mk := mkL) hF)
  replace hF := if_n c1 hF
  refine xs_case (j := 1) (tgt := 64) dX3_calculateLong_1 (by decide) (by decide) rfl (by decide) (fun c2 => ?_) (fun c2 => ?_)
  · replace hF := if_p c2 hF
    refine xe_lload_n dX3_calculateLong_64 rfl rfl ?_
    refine xe_lload_n dX3_calculateLong_65 rfl rfl ?_
    refine xe_lsub dX3_calculateLong_66 ?_
    exact xe_lreturn dX3_calculateLong_67 (xP_ret (mk := mkL) hF)
  replace hF := if_n c2 hF
  refine xs_case (j := 2) (tgt := 68) dX3_calculateLong_1 (by decide) (by decide) rfl (by decide) (fun c3 => ?_) (fun c3 => ?_)
  · replace hF := if_p c3 hF
    refine xe_lload_n dX3_calculateLong_68 rfl rfl ?_
    refine xe_lload_n dX3_calculateLong_69 rfl rfl ?_
    refine xe_lmul dX3_calculateLong_70 ?_
    exact xe_lreturn dX3_calculateLong_71 (xP_ret (mk := mkL) hF)
  replace hF := if_n c3 hF
  refine xs_case (j := 3) (tgt := 72) dX3_calculateLong_1 (by decide) (by decide) rfl (by decide) (fun c4 => ?_) (fun c4 => ?_)
  · replace hF := if_p c4 hF
    refine xe_lload_n dX3_calculateLong_72 rfl rfl ?_
    refine xe_lconst (v := 0) dX3_calculateLong_73 (by decide) ?_
    refine xe_lcmp dX3_calculateLong_74 ?_
    refine xe_lif_ne (tgt := 82) dX3_calculateLong_75 (by decide) (fun c5 => ?_) (fun c5 => ?_)
    · replace hF := if_p c5 hF
      refine xe_lconst (v := 0) dX3_calculateLong_78 (by decide) ?_
      refine xe_goto (tgt := 85) dX3_calculateLong_79 (by decide) ?_
      exact xe_lreturn dX3_calculateLong_85 (xP_ret (mk := mkL) hF)
    · replace hF := if_n c5 hF
      refine xe_lload_n dX3_calculateLong_82 rfl rfl ?_
      refine xe_lload_n dX3_calculateLong_83 rfl rfl ?_
      obtain ⟨c6, hF⟩ := dv_inv hF
      refine xe_ldiv dX3_calculateLong_84 c6 ?_
      exact xe_lreturn dX3_calculateLong_85 (xP_ret (mk := mkL) hF)
  replace hF := if_n c4 hF
  refine xs_case (j := 4) (tgt := 86) dX3_calculateLong_1 (by decide) (by decide) rfl (by decide) (fun c7 => ?_) (fun c7 => ?_)
  · replace hF := if_p c7 hF
    refine xe_lload_n dX3_calculateLong_86 rfl rfl ?_
    refine xe_lconst (v := 0) dX3_calculateLong_87 (by decide) ?_
    refine xe_lcmp dX3_calculateLong_88 ?_
    refine xe_lif_ne (tgt := 96) dX3_calculateLong_89 (by decide) (fun c8 => ?_) (fun c8 => ?_)
    · replace hF := if_p c8 hF
      refine xe_lconst (v := 0) dX3_calculateLong_92 (by decide) ?_
      refine xe_goto (tgt := 99) dX3_calculateLong_93 (by decide) ?_
      exact xe_lreturn dX3_calculateLong_99 (xP_ret (mk := mkL) hF)
    · replace hF := if_n c8 hF
      refine xe_lload_n dX3_calculateLong_96 rfl rfl ?_
      refine xe_lload_n dX3_calculateLong_97 rfl rfl ?_
      obtain ⟨c9, hF⟩ := dv_inv hF
      refine xe_lrem dX3_calculateLong_98 c9 ?_
      exact xe_lreturn dX3_calculateLong_99 (xP_ret (mk := mkL) hF)
  replace hF := if_n c7 hF
  refine xs_case (j := 5) (tgt := 100) dX3_calculateLong_1 (by decide) (by decide) rfl (by decide) (fun c10 => ?_) (fun c10 => ?_)
  · replace hF := if_p c10 hF
    refine xe_lload_n dX3_calculateLong_100 rfl rfl ?_
    refine xe_lload_n dX3_calculateLong_101 rfl rfl ?_
    refine xe_land dX3_calculateLong_102 ?_
    exact xe_lreturn dX3_calculateLong_103 (xP_ret (mk := mkL) hF)
  replace hF := if_n c10 hF
  refine xs_case (j := 6) (tgt := 104) dX3_calculateLong_1 (by decide) (by decide) rfl (by decide) (fun c11 => ?_) (fun c11 => ?_)
  · replace hF := if_p c11 hF
    refine xe_lload_n dX3_calculateLong_104 rfl rfl ?_
    refine xe_lload_n dX3_calculateLong_105 rfl rfl ?_
    refine xe_lor dX3_calculateLong_106 ?_
    exact xe_lreturn dX3_calculateLong_107 (xP_ret (mk := mkL) hF)
  replace hF := if_n c11 hF
  refine xs_case (j := 7) (tgt := 108) dX3_calculateLong_1 (by decide) (by decide) rfl (by decide) (fun c12 => ?_) (fun c12 => ?_)
  · replace hF := if_p c12 hF
    refine xe_lload_n dX3_calculateLong_108 rfl rfl ?_
    refine xe_lload_n dX3_calculateLong_109 rfl rfl ?_
    refine xe_lxor dX3_calculateLong_110 ?_
    exact xe_lreturn dX3_calculateLong_111 (xP_ret (mk := mkL) hF)
  replace hF := if_n c12 hF
  refine xs_case (j := 8) (tgt := 112) dX3_calculateLong_1 (by decide) (by decide) rfl (by decide) (fun c13 => ?_) (fun c13 => ?_)
  · replace hF := if_p c13 hF
    refine xe_lload_n dX3_calculateLong_112 rfl rfl ?_
    refine xe_lload_n dX3_calculateLong_113 rfl rfl ?_
    refine xe_l2i dX3_calculateLong_114 ?_
    refine xe_lshl dX3_calculateLong_115 ?_
    exact xe_lreturn dX3_calculateLong_116 (xP_ret (mk := mkL) hF)
  replace hF := if_n c13 hF
  refine xs_case (j := 9) (tgt := 117) dX3_calculateLong_1 (by decide) (by decide) rfl (by decide) (fun c14 => ?_) (fun c14 => ?_)
  · replace hF := if_p c14 hF
    refine xe_lload_n dX3_calculateLong_117 rfl rfl ?_
    refine xe_lload_n dX3_calculateLong_118 rfl rfl ?_
    refine xe_l2i dX3_calculateLong_119 ?_
    refine xe_lshr dX3_calculateLong_120 ?_
    exact xe_lreturn dX3_calculateLong_121 (xP_ret (mk := mkL) hF)
  replace hF := if_n c14 hF
  refine xs_case (j := 10) (tgt := 122) dX3_calculateLong_1 (by decide) (by decide) rfl (by decide) (fun c15 => ?_) (fun c15 => ?_)
  · replace hF := if_p c15 hF
    refine xe_lload_n dX3_calculateLong_122 rfl rfl ?_
    refine xe_lload_n dX3_calculateLong_123 rfl rfl ?_
    refine xe_l2i dX3_calculateLong_124 ?_
    refine xe_lushr dX3_calculateLong_125 ?_
    exact xe_lreturn dX3_calculateLong_126 (xP_ret (mk := mkL) hF)
  replace hF := if_n c15 hF
  refine xs_rest (tgt := 127) [0, 1, 2, 3, 4, 5, 6, 7, 8, 9, 10] dX3_calculateLong_1 (by decide) (List.forall_mem_cons.mpr ⟨c1, List.forall_mem_cons.mpr ⟨c2, List.forall_mem_cons.mpr ⟨c3, List.forall_mem_cons.mpr ⟨c4, List.forall_mem_cons.mpr ⟨c7, List.forall_mem_cons.mpr ⟨c10, List.forall_mem_cons.mpr ⟨c11, List.forall_mem_cons.mpr ⟨c12, List.forall_mem_cons.mpr ⟨c13, List.forall_mem_cons.mpr ⟨c14, List.forall_mem_cons.mpr ⟨c15, fun _ h => by cases h⟩⟩⟩⟩⟩⟩⟩⟩⟩⟩⟩) (by decide) ?_
  refine xe_lload_n dX3_calculateLong_127 rfl rfl ?_
  refine xe_lneg dX3_calculateLong_128 ?_
  exact xe_lreturn dX3_calculateLong_129 (xP_ret (mk := mkL) hF)
/-! SeldomOps$Numbers.order(JJ)I -/
def FX3_order (p0 : Int64) (p1 : Int64) (h0 : Hp) : Option (Int32 × Hp) :=
  if (p0 : Int64) = p1 then
    some (0, h0)
  else
    if (p0 : Int64) < p1 then
      some ((-1), h0)
    else
      some (1, h0)
set_option maxRecDepth 100000 in
set_option maxHeartbeats 4000000 in
theorem FX3_order_ok {G : xG} {l : Launch} {p0 : Int64} {p1 : Int64} {h0 h1 : Hp} {r : Int32} (hF : FX3_order p0 p1 h0 = some (r, h1)) : xc G l mX3_order 1 0 0 [.long p0, .long p1] h0 (xP mkI r h1) := by
  refine xo_I [.inr (.inl _), .inr (.inl _)] (by decide) (Nat.le_of_ble_eq_true rfl) rfl ?_
  show xv _ _ _ _ _ _ _ [(0, true, .long p0), (2, true, .long p1)] _ _ _
  unfold FX3_order at hF
  refine xe_lload_n dX3_order_0 rfl rfl ?_
  refine xe_lload_n dX3_order_1 rfl rfl ?_
  refine xe_lcmp dX3_order_2 ?_
  refine xe_lif_ne (tgt := 8) dX3_order_3 (by decide) (fun c1 => ?_) (fun c1 => ?_)
  · replace hF := if_p c1 hF
    refine xe_iconst (v := 0) dX3_order_6 (by decide) ?_
    exact xe_ireturn dX3_order_7 (xP_ret (mk := mkI) hF)
  · replace hF := if_n c1 hF
    refine xe_lload_n dX3_order_8 rfl rfl ?_
    refine xe_lload_n dX3_order_9 rfl rfl ?_
    refine xe_lcmp dX3_order_10 ?_
    refine xe_lif_ge (tgt := 18) dX3_order_11 (by decide) (fun c2 => ?_) (fun c2 => ?_)
    · replace hF := if_p c2 hF
      refine xe_iconst (v := (-1)) dX3_order_14 (by decide) ?_
      refine xe_goto (tgt := 19) dX3_order_15 (by decide) ?_
      exact xe_ireturn dX3_order_19 (xP_ret (mk := mkI) hF)
    · replace hF := if_n c2 hF
      refine xe_iconst (v := 1) dX3_order_18 (by decide) ?_
      exact xe_ireturn dX3_order_19 (xP_ret (mk := mkI) hF)
