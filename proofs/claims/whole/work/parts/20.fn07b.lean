/-! SeldomOps.good(I)I -/
def FX11_good (p0 : Option Nat) (p1 : Int32) (h0 : Hp) : Option (Int32 × Hp) :=
  gR h0 p0 10 0 fun v1 =>
  rcv h0 v1 3 <|
  cl (FX4_findMethod v1 p1 h0) fun v5 h6 =>
  nz v5 (
    some ((-2), h6)
  ) (
    gI h6 v5 2 15 fun v12 =>
    if (v12 : Int32) = 0 then
      some (0, h6)
    else
      some (1, h6)
  )
set_option maxRecDepth 100000 in
set_option maxHeartbeats 4000000 in
theorem FX11_good_ok {G : xG} {l : Launch} {p0 : Option Nat} {p1 : Int32} {h0 h1 : Hp} {r : Int32} (hF : FX11_good p0 p1 h0 = some (r, h1)) : xc G l mX11_good 3 0 0 [va_rf p0, .int p1] h0 (xP mkI r h1) := by
  refine xo_I [.inr (.inr _), .inl _] (by decide) (Nat.le_of_ble_eq_true rfl) rfl ?_
  show xv _ _ _ _ _ _ _ [(0, false, va_rf p0), (1, false, .int p1)] _ _ _
  unfold FX11_good at hF
  refine xe_aload_n dX11_good_0 rfl rfl ?_
  obtain ⟨a2, e3, t4, hF⟩ := gR_inv hF
  refine xq_getR dX11_good_1 fl_SeldomOps_10 xk_10 e3 t4 rfl ?_
  refine xe_iload_n dX11_good_4 rfl rfl ?_
  obtain ⟨a10, e8, t9, hF⟩ := rcv_inv hF
  obtain ⟨v5, h6, o7, hF⟩ := cl_inv hF
  refine xz (xq_callV (As := [.int _]) (rest := []) dX11_good_5 mk_X4_findMethod ⟨tw_381, tw_382, tw_383⟩ (ci := 3) rfl e8 t9 (FX4_findMethod_ok o7) xP_q (by decide) (by decide) rfl rfl ?_)
  refine xe_astore_n dX11_good_8 rfl (by decide) ?_
  refine xe_aload_n dX11_good_9 rfl rfl ?_
  refine xe_ifnonnull (tgt := 16) dX11_good_10 (by decide) (fun e11 => ?_) (fun a_ e11 => ?_)
  · replace hF := nz_n' e11 hF
    refine xe_bipush (v := (-2)) dX11_good_13 (by decide) ?_
    exact xe_ireturn dX11_good_15 (xP_ret (mk := mkI) hF)
  · replace hF := nz_s' e11 hF
    refine xe_aload_n dX11_good_16 rfl rfl ?_
    obtain ⟨a13, e14, t15, hF⟩ := gI_inv hF
    refine xq_getI dX11_good_17 fl_SeldomOps_124 xk_2 e14 t15 rfl ?_
    refine xe_if_eq (tgt := 27) dX11_good_20 (by decide) (fun c16 => ?_) (fun c16 => ?_)
    · replace hF := if_p c16 hF
      refine xe_iconst (v := 0) dX11_good_27 (by decide) ?_
      exact xe_ireturn dX11_good_28 (xP_ret (mk := mkI) hF)
    · replace hF := if_n c16 hF
      refine xe_iconst (v := 1) dX11_good_23 (by decide) ?_
      refine xe_goto (tgt := 28) dX11_good_24 (by decide) ?_
      exact xe_ireturn dX11_good_28 (xP_ret (mk := mkI) hF)
/-! SeldomOps.handler(IIIII)I -/
def FX11_handler (p0 : Option Nat) (p1 : Int32) (p2 : Int32) (p3 : Int32) (p4 : Int32) (p5 : Int32) (h0 : Hp) : Option (Int32 × Hp) :=
  gR h0 p0 10 0 fun v1 =>
  rcv h0 v1 3 <|
  cl (FX4_findMethod v1 p1 h0) fun v5 h6 =>
  nz v5 (
    some ((-2), h6)
  ) (
    if (p2 : Int32) < 0 then
      some ((-2), h6)
    else
      if (p3 : Int32) < p2 then
        some ((-2), h6)
      else
        if (60 : Int32) < p3 then
          some ((-2), h6)
        else
          cl (FX11_within p4 60 h6) fun v15 h16 =>
          if (v15 : Int32) = 0 then
            some ((-2), h16)
          else
            if (p5 : Int32) < (-1) then
              some ((-2), h16)
            else
              if (p5 : Int32) < 16 then
                gI h16 v5 2 12 fun v21 =>
                if (v21 : Int32) = 6 then
                  some ((-4), h16)
                else
                  gR h16 p0 10 0 fun v26 =>
                  rcv h16 v26 3 <|
                  cl (FX4_forgetJudgements v26 h16) fun v30 h31 =>
                  rcv h31 v5 2 <|
                  cl (FX2_addHandler v5 p2 p3 p4 p5 h31) fun v36 h37 =>
                  some (v36, h37)
              else
                some ((-2), h16)
  )
set_option maxRecDepth 100000 in
set_option maxHeartbeats 4000000 in
theorem FX11_handler_ok {G : xG} {l : Launch} {p0 : Option Nat} {p1 : Int32} {p2 : Int32} {p3 : Int32} {p4 : Int32} {p5 : Int32} {h0 h1 : Hp} {r : Int32} (hF : FX11_handler p0 p1 p2 p3 p4 p5 h0 = some (r, h1)) : xc G l mX11_handler 3 0 0 [va_rf p0, .int p1, .int p2, .int p3, .int p4, .int p5] h0 (xP mkI r h1) := by
  refine xo_I [.inr (.inr _), .inl _, .inl _, .inl _, .inl _, .inl _] (by decide) (Nat.le_of_ble_eq_true rfl) rfl ?_
  show xv _ _ _ _ _ _ _ [(0, false, va_rf p0), (1, false, .int p1), (2, false, .int p2), (3, false, .int p3), (4, false, .int p4), (5, false, .int p5)] _ _ _
  unfold FX11_handler at hF
  refine xe_aload_n dX11_handler_0 rfl rfl ?_
  obtain ⟨a2, e3, t4, hF⟩ := gR_inv hF
  refine xq_getR dX11_handler_1 fl_SeldomOps_10 xk_10 e3 t4 rfl ?_
  refine xe_iload_n dX11_handler_4 rfl rfl ?_
  obtain ⟨a10, e8, t9, hF⟩ := rcv_inv hF
  obtain ⟨v5, h6, o7, hF⟩ := cl_inv hF
  refine xz (xq_callV (As := [.int _]) (rest := []) dX11_handler_5 mk_X4_findMethod ⟨tw_381, tw_382, tw_383⟩ (ci := 3) rfl e8 t9 (FX4_findMethod_ok o7) xP_q (by decide) (by decide) rfl rfl ?_)
  refine xe_astore dX11_handler_8 (by decide) ?_
  refine xe_aload dX11_handler_10 rfl ?_
  refine xe_ifnull (tgt := 30) dX11_handler_12 (by decide) (fun e11 => ?_) (fun a_ e11 => ?_)
  · replace hF := nz_n' e11 hF
    refine xe_bipush (v := (-2)) dX11_handler_30 (by decide) ?_
    exact xe_ireturn dX11_handler_32 (xP_ret (mk := mkI) hF)
  · replace hF := nz_s' e11 hF
    refine xe_iload_n dX11_handler_15 rfl rfl ?_
    refine xe_if_lt (tgt := 30) dX11_handler_16 (by decide) (fun c12 => ?_) (fun c12 => ?_)
    · replace hF := if_p c12 hF
      refine xe_bipush (v := (-2)) dX11_handler_30 (by decide) ?_
      exact xe_ireturn dX11_handler_32 (xP_ret (mk := mkI) hF)
    · replace hF := if_n c12 hF
      refine xe_iload_n dX11_handler_19 rfl rfl ?_
      refine xe_iload_n dX11_handler_20 rfl rfl ?_
      refine xe_icmp_gt (tgt := 30) dX11_handler_21 (by decide) (fun c13 => ?_) (fun c13 => ?_)
      · replace hF := if_p c13 hF
        refine xe_bipush (v := (-2)) dX11_handler_30 (by decide) ?_
        exact xe_ireturn dX11_handler_32 (xP_ret (mk := mkI) hF)
      · replace hF := if_n c13 hF
        refine xe_iload_n dX11_handler_24 rfl rfl ?_
        refine xe_bipush (v := 60) dX11_handler_25 (by decide) ?_
        refine xe_icmp_le (tgt := 33) dX11_handler_27 (by decide) (fun c14 => ?_) (fun c14 => ?_)
        · replace hF := if_p c14 hF
          refine xe_bipush (v := (-2)) dX11_handler_30 (by decide) ?_
          exact xe_ireturn dX11_handler_32 (xP_ret (mk := mkI) hF)
        · replace hF := if_n c14 hF
          refine xe_iload dX11_handler_33 rfl ?_
          refine xe_bipush (v := 60) dX11_handler_35 (by decide) ?_
          obtain ⟨v15, h16, o17, hF⟩ := cl_inv hF
          refine xz (xq_callS (As := [.int _, .int _]) (rest := []) dX11_handler_37 mk_X11_within ⟨tw_263, tw_264⟩ (FX11_within_ok o17) xPZ_q (by decide) (by decide) rfl rfl ?_)
          refine xe_if_eq (tgt := 56) dX11_handler_40 (by decide) (fun c18 => ?_) (fun c18 => ?_)
          · replace hF := if_p c18 hF
            refine xe_bipush (v := (-2)) dX11_handler_56 (by decide) ?_
            exact xe_ireturn dX11_handler_58 (xP_ret (mk := mkI) hF)
          · replace hF := if_n c18 hF
            refine xe_iload dX11_handler_43 rfl ?_
            refine xe_iconst (v := (-1)) dX11_handler_45 (by decide) ?_
            refine xe_icmp_lt (tgt := 56) dX11_handler_46 (by decide) (fun c19 => ?_) (fun c19 => ?_)
            · replace hF := if_p c19 hF
              refine xe_bipush (v := (-2)) dX11_handler_56 (by decide) ?_
              exact xe_ireturn dX11_handler_58 (xP_ret (mk := mkI) hF)
            · replace hF := if_n c19 hF
              refine xe_iload dX11_handler_49 rfl ?_
              refine xe_bipush (v := 16) dX11_handler_51 (by decide) ?_
              refine xe_icmp_lt (tgt := 59) dX11_handler_53 (by decide) (fun c20 => ?_) (fun c20 => ?_)
              · replace hF := if_p c20 hF
                refine xe_aload dX11_handler_59 rfl ?_
                obtain ⟨a22, e23, t24, hF⟩ := gI_inv hF
                refine xq_getI dX11_handler_61 fl_SeldomOps_76 xk_2 e23 t24 rfl ?_
                refine xe_bipush (v := 6) dX11_handler_64 (by decide) ?_
                refine xe_icmp_ne (tgt := 72) dX11_handler_66 (by decide) (fun c25 => ?_) (fun c25 => ?_)
                · replace hF := if_p c25 hF
                  refine xe_bipush (v := (-4)) dX11_handler_69 (by decide) ?_
                  exact xe_ireturn dX11_handler_71 (xP_ret (mk := mkI) hF)
                · replace hF := if_n c25 hF
                  refine xe_aload_n dX11_handler_72 rfl rfl ?_
                  obtain ⟨a27, e28, t29, hF⟩ := gR_inv hF
                  refine xq_getR dX11_handler_73 fl_SeldomOps_10 xk_10 e28 t29 rfl ?_
                  obtain ⟨a35, e33, t34, hF⟩ := rcv_inv hF
                  obtain ⟨v30, h31, o32, hF⟩ := cl_inv hF
                  refine xz (xq_callV (As := []) (rest := []) dX11_handler_76 mk_X4_forgetJudgements ⟨tw_266, tw_267, tw_268⟩ (ci := 3) rfl e33 t34 (FX4_forgetJudgements_ok o32) xP_q (by decide) (by decide) rfl rfl ?_)
                  refine xe_aload dX11_handler_79 rfl ?_
                  refine xe_iload_n dX11_handler_81 rfl rfl ?_
                  refine xe_iload_n dX11_handler_82 rfl rfl ?_
                  refine xe_iload dX11_handler_83 rfl ?_
                  refine xe_iload dX11_handler_85 rfl ?_
                  obtain ⟨a41, e39, t40, hF⟩ := rcv_inv hF
                  obtain ⟨v36, h37, o38, hF⟩ := cl_inv hF
                  refine xz (xq_callV (As := [.int _, .int _, .int _, .int _]) (rest := []) dX11_handler_87 mk_X2_addHandler ⟨tw_413, tw_414, tw_415⟩ (ci := 2) rfl e39 t40 (FX2_addHandler_ok o38) xP_q (by decide) (by decide) rfl rfl ?_)
                  exact xe_ireturn dX11_handler_90 (xP_ret (mk := mkI) hF)
              · replace hF := if_n c20 hF
                refine xe_bipush (v := (-2)) dX11_handler_56 (by decide) ?_
                exact xe_ireturn dX11_handler_58 (xP_ret (mk := mkI) hF)
/-! SeldomOps.<init>()V -/
def FX11_init (p0 : Option Nat) (h0 : Hp) : Option (Unit × Hp) :=
  nz p0 none <|
  nA h0 (.inl 3) fun v3 h4 =>
  nz (some v3) none <|
  cl (FX4_init (some v3) h4) fun v7 h8 =>
  pR h8 p0 10 0 (some v3) fun h15 =>
  nA h15 (.inl 1) fun v17 h18 =>
  gR h18 p0 10 0 fun v21 =>
  nz (some v17) none <|
  cl (FX1_init (some v17) v21 h18) fun v25 h26 =>
  pR h26 p0 10 1 (some v17) fun h33 =>
  nA h33 (.inl 8) fun v35 h36 =>
  gR h36 p0 10 0 fun v39 =>
  nz (some v35) none <|
  cl (FX9_init (some v35) v39 h36) fun v43 h44 =>
  pR h44 p0 10 2 (some v35) fun h51 =>
  nA h51 (.inr (.long, 8)) fun v53 h54 =>
  pR h54 p0 10 3 (some v53) fun h60 =>
  pI h60 p0 10 4 0 fun h65 =>
  some ((), h65)
set_option maxRecDepth 100000 in
set_option maxHeartbeats 4000000 in
theorem FX11_init_ok {G : xG} {l : Launch} {p0 : Option Nat} {h0 h1 : Hp} {r : Unit} (hF : FX11_init p0 h0 = some (r, h1)) : xc G l mX11_init 4 57 7053 [va_rf p0] h0 (xP mkV r h1) := by
  refine xo_V [.inr (.inr _)] (by decide) (Nat.le_of_ble_eq_true rfl) rfl ?_
  show xv _ _ _ _ _ _ _ [(0, false, va_rf p0)] _ _ _
  unfold FX11_init at hF
  refine xe_aload_n dX11_init_0 rfl rfl ?_
  obtain ⟨a2, e1, hF⟩ := nzn_inv hF
  refine xq_objInit dX11_init_1 ⟨tw_21, tw_22, tw_23⟩ (by decide) (by decide) e1 ?_
  refine xe_aload_n dX11_init_4 rfl rfl ?_
  obtain ⟨v3, h4, e5, e6, hF⟩ := nA_inv hF
  refine xv.weaken (xn_new (k := 56) (n := 7047) dX11_init_5 xk_3 (by decide) nw_SeldomOps_7 e5 e6 ?_) (by first | decide | omega) (by first | decide | (simp only [xnf]; omega))
  refine xe_dup dX11_init_8 (va_rf_cat _) ?_
  obtain ⟨a11, e10, hF⟩ := nzn_inv hF
  obtain ⟨v7, h8, o9, hF⟩ := cl_inv hF
  refine xv.weaken (xq_callIN (k := 53) (n := 6991) (As := []) (rest := [va_rf _, va_rf _]) dX11_init_9 mk_X4_init ⟨rfl, rfl⟩ ⟨tn_26, tw_27⟩ e10 (FX4_init_ok o9) xP_q (by decide) (Nat.le_trans (cs_r (cs_r cs_0)) (by decide)) rfl rfl ?_) (by first | decide | omega) (by first | decide | omega)
  obtain ⟨a12, e13, t14, hF⟩ := pR_inv hF
  refine xq_putR dX11_init_12 fl_SeldomOps_10 xk_10 (by decide) (fun _ => ⟨rfl, _, _, rfl⟩) e13 t14 (Or.inl ⟨_, rfl⟩) ?_
  refine xe_aload_n dX11_init_15 rfl rfl ?_
  obtain ⟨v17, h18, e19, e20, hF⟩ := nA_inv hF
  refine xv.weaken (xn_new (k := 52) (n := 6985) dX11_init_16 xk_1 (by decide) nw_SeldomOps_16 e19 e20 ?_) (by first | decide | omega) (by first | decide | (simp only [xnf]; omega))
  refine xe_dup dX11_init_19 (va_rf_cat _) ?_
  refine xe_aload_n dX11_init_20 rfl rfl ?_
  obtain ⟨a22, e23, t24, hF⟩ := gR_inv hF
  refine xq_getR dX11_init_21 fl_SeldomOps_10 xk_10 e23 t24 rfl ?_
  obtain ⟨a29, e28, hF⟩ := nzn_inv hF
  obtain ⟨v25, h26, o27, hF⟩ := cl_inv hF
  refine xv.weaken (xq_callI (k := 44) (n := 6917) (As := [va_rf _]) (rest := [va_rf _, va_rf _]) dX11_init_24 mk_X1_init ⟨rfl, rfl⟩ ⟨tw_62, tw_63⟩ e28 (FX1_init_ok o27) xP_q (by decide) (Nat.le_trans (cs_r (cs_r cs_0)) (by decide)) rfl rfl ?_) (by first | decide | omega) (by first | decide | omega)
  obtain ⟨a30, e31, t32, hF⟩ := pR_inv hF
  refine xq_putR dX11_init_27 fl_SeldomOps_21 xk_10 (by decide) (fun _ => ⟨rfl, _, _, rfl⟩) e31 t32 (Or.inl ⟨_, rfl⟩) ?_
  refine xe_aload_n dX11_init_30 rfl rfl ?_
  obtain ⟨v35, h36, e37, e38, hF⟩ := nA_inv hF
  refine xv.weaken (xn_new (k := 43) (n := 6902) dX11_init_31 xk_8 (by decide) nw_SeldomOps_25 e37 e38 ?_) (by first | decide | omega) (by first | decide | (simp only [xnf]; omega))
  refine xe_dup dX11_init_34 (va_rf_cat _) ?_
  refine xe_aload_n dX11_init_35 rfl rfl ?_
  obtain ⟨a40, e41, t42, hF⟩ := gR_inv hF
  refine xq_getR dX11_init_36 fl_SeldomOps_10 xk_10 e41 t42 rfl ?_
  obtain ⟨a47, e46, hF⟩ := nzn_inv hF
  obtain ⟨v43, h44, o45, hF⟩ := cl_inv hF
  refine xv.weaken (xq_callI (k := 1) (n := 8) (As := [va_rf _]) (rest := [va_rf _, va_rf _]) dX11_init_39 mk_X9_init ⟨rfl, rfl⟩ ⟨tw_124, tw_125⟩ e46 (FX9_init_ok o45) xP_q (by decide) (Nat.le_trans (cs_r (cs_r cs_0)) (by decide)) rfl rfl ?_) (by first | decide | omega) (by first | decide | omega)
  obtain ⟨a48, e49, t50, hF⟩ := pR_inv hF
  refine xq_putR dX11_init_42 fl_SeldomOps_28 xk_10 (by decide) (fun _ => ⟨rfl, _, _, rfl⟩) e49 t50 (Or.inl ⟨_, rfl⟩) ?_
  refine xe_aload_n dX11_init_45 rfl rfl ?_
  refine xe_bipush (v := 8) dX11_init_46 (by decide) ?_
  obtain ⟨v53, h54, e55, e56, hF⟩ := nA_inv hF
  refine xv.weaken (xn_newa (t := .long) (N := 8) (k := 0) (n := 0) dX11_init_48 rfl (Or.inr (Or.inl rfl)) tw_59 (by decide) (by decide) (by decide) e55 e56 ?_) (by first | decide | omega) (by first | decide | (simp only [xnf]; omega))
  obtain ⟨a57, e58, t59, hF⟩ := pR_inv hF
  refine xq_putR dX11_init_50 fl_SeldomOps_32 xk_10 (by decide) (fun _ => ⟨rfl, _, _, rfl⟩) e58 t59 (Or.inr ⟨_, rfl⟩) ?_
  refine xe_aload_n dX11_init_53 rfl rfl ?_
  refine xe_iconst (v := 0) dX11_init_54 (by decide) ?_
  obtain ⟨a62, e63, t64, hF⟩ := pI_inv hF
  refine xq_putI dX11_init_55 fl_SeldomOps_36 xk_10 (by decide) (fun z => by cases z) e63 t64 (Or.inl rfl) ?_
  exact xe_return dX11_init_58 (xP_ret (mk := mkV) hF)
/-! SeldomOps.judge(I)I -/
def FX11_judge (p0 : Option Nat) (p1 : Int32) (h0 : Hp) : Option (Int32 × Hp) :=
  gR h0 p0 10 0 fun v1 =>
  rcv h0 v1 3 <|
  cl (FX4_findMethod v1 p1 h0) fun v5 h6 =>
  nz v5 (
    some ((-2), h6)
  ) (
    gR h6 p0 10 1 fun v12 =>
    rcv h6 v12 1 <|
    cl (FX1_examine v12 p1 v5 h6) fun v16 h17 =>
    some (v16, h17)
  )
set_option maxRecDepth 100000 in
set_option maxHeartbeats 4000000 in
theorem FX11_judge_ok {G : xG} {l : Launch} {p0 : Option Nat} {p1 : Int32} {h0 h1 : Hp} {r : Int32} (hF : FX11_judge p0 p1 h0 = some (r, h1)) : xc G l mX11_judge 8 0 0 [va_rf p0, .int p1] h0 (xP mkI r h1) := by
  refine xo_I [.inr (.inr _), .inl _] (by decide) (Nat.le_of_ble_eq_true rfl) rfl ?_
  show xv _ _ _ _ _ _ _ [(0, false, va_rf p0), (1, false, .int p1)] _ _ _
  unfold FX11_judge at hF
  refine xe_aload_n dX11_judge_0 rfl rfl ?_
  obtain ⟨a2, e3, t4, hF⟩ := gR_inv hF
  refine xq_getR dX11_judge_1 fl_SeldomOps_10 xk_10 e3 t4 rfl ?_
  refine xe_iload_n dX11_judge_4 rfl rfl ?_
  obtain ⟨a10, e8, t9, hF⟩ := rcv_inv hF
  obtain ⟨v5, h6, o7, hF⟩ := cl_inv hF
  refine xz (xq_callV (As := [.int _]) (rest := []) dX11_judge_5 mk_X4_findMethod ⟨tw_381, tw_382, tw_383⟩ (ci := 3) rfl e8 t9 (FX4_findMethod_ok o7) xP_q (by decide) (by decide) rfl rfl ?_)
  refine xe_astore_n dX11_judge_8 rfl (by decide) ?_
  refine xe_aload_n dX11_judge_9 rfl rfl ?_
  refine xe_ifnonnull (tgt := 18) dX11_judge_10 (by decide) (fun e11 => ?_) (fun a_ e11 => ?_)
  · replace hF := nz_n' e11 hF
    refine xe_bipush (v := (-2)) dX11_judge_13 (by decide) ?_
    refine xe_goto (tgt := 27) dX11_judge_15 (by decide) ?_
    exact xe_ireturn dX11_judge_27 (xP_ret (mk := mkI) hF)
  · replace hF := nz_s' e11 hF
    refine xe_aload_n dX11_judge_18 rfl rfl ?_
    obtain ⟨a13, e14, t15, hF⟩ := gR_inv hF
    refine xq_getR dX11_judge_19 fl_SeldomOps_21 xk_10 e14 t15 rfl ?_
    refine xe_iload_n dX11_judge_22 rfl rfl ?_
    refine xe_aload_n dX11_judge_23 rfl rfl ?_
    obtain ⟨a21, e19, t20, hF⟩ := rcv_inv hF
    obtain ⟨v16, h17, o18, hF⟩ := cl_inv hF
    refine xz (xq_callV (As := [.int _, va_rf _]) (rest := []) dX11_judge_24 mk_X1_examine ⟨tw_485, tw_486, tw_487⟩ (ci := 1) rfl e19 t20 (FX1_examine_ok o18) xP_q (by decide) (by decide) rfl rfl ?_)
    exact xe_ireturn dX11_judge_27 (xP_ret (mk := mkI) hF)
/-! SeldomOps.method(I)I -/
def FX11_method (p0 : Option Nat) (p1 : Int32) (h0 : Hp) : Option (Int32 × Hp) :=
  cl (FX11_within p1 6 h0) fun v1 h2 =>
  if (v1 : Int32) = 0 then
    some ((-2), h2)
  else
    gR h2 p0 10 0 fun v5 =>
    gI h2 v5 3 1 fun v9 =>
    if (v9 : Int32) = 8 then
      some ((-4), h2)
    else
      gR h2 p0 10 0 fun v14 =>
      rcv h2 v14 3 <|
      cl (FX4_forgetJudgements v14 h2) fun v18 h19 =>
      gR h19 p0 10 0 fun v24 =>
      rcv h19 v24 3 <|
      cl (FX4_addMethod v24 p1 h19) fun v28 h29 =>
      some (v28, h29)
set_option maxRecDepth 100000 in
set_option maxHeartbeats 4000000 in
theorem FX11_method_ok {G : xG} {l : Launch} {p0 : Option Nat} {p1 : Int32} {h0 h1 : Hp} {r : Int32} (hF : FX11_method p0 p1 h0 = some (r, h1)) : xc G l mX11_method 4 14 2032 [va_rf p0, .int p1] h0 (xP mkI r h1) := by
  refine xo_I [.inr (.inr _), .inl _] (by decide) (Nat.le_of_ble_eq_true rfl) rfl ?_
  show xv _ _ _ _ _ _ _ [(0, false, va_rf p0), (1, false, .int p1)] _ _ _
  unfold FX11_method at hF
  refine xe_iload_n dX11_method_0 rfl rfl ?_
  refine xe_bipush (v := 6) dX11_method_1 (by decide) ?_
  obtain ⟨v1, h2, o3, hF⟩ := cl_inv hF
  refine xz (xq_callS (As := [.int _, .int _]) (rest := []) dX11_method_3 mk_X11_within ⟨tw_263, tw_264⟩ (FX11_within_ok o3) xPZ_q (by decide) (by decide) rfl rfl ?_)
  refine xe_if_ne (tgt := 12) dX11_method_6 (by decide) (fun c4 => ?_) (fun c4 => ?_)
  · replace hF := if_p c4 hF
    refine xe_bipush (v := (-2)) dX11_method_9 (by decide) ?_
    exact xe_ireturn dX11_method_11 (xP_ret (mk := mkI) hF)
  · replace hF := if_n c4 hF
    refine xe_aload_n dX11_method_12 rfl rfl ?_
    obtain ⟨a6, e7, t8, hF⟩ := gR_inv hF
    refine xq_getR dX11_method_13 fl_SeldomOps_10 xk_10 e7 t8 rfl ?_
    obtain ⟨a10, e11, t12, hF⟩ := gI_inv hF
    refine xq_getI dX11_method_16 fl_SeldomOps_44 xk_3 e11 t12 rfl ?_
    refine xe_bipush (v := 8) dX11_method_19 (by decide) ?_
    refine xe_icmp_ne (tgt := 27) dX11_method_21 (by decide) (fun c13 => ?_) (fun c13 => ?_)
    · replace hF := if_p c13 hF
      refine xe_bipush (v := (-4)) dX11_method_24 (by decide) ?_
      exact xe_ireturn dX11_method_26 (xP_ret (mk := mkI) hF)
    · replace hF := if_n c13 hF
      refine xe_aload_n dX11_method_27 rfl rfl ?_
      obtain ⟨a15, e16, t17, hF⟩ := gR_inv hF
      refine xq_getR dX11_method_28 fl_SeldomOps_10 xk_10 e16 t17 rfl ?_
      obtain ⟨a23, e21, t22, hF⟩ := rcv_inv hF
      obtain ⟨v18, h19, o20, hF⟩ := cl_inv hF
      refine xz (xq_callV (As := []) (rest := []) dX11_method_31 mk_X4_forgetJudgements ⟨tw_266, tw_267, tw_268⟩ (ci := 3) rfl e21 t22 (FX4_forgetJudgements_ok o20) xP_q (by decide) (by decide) rfl rfl ?_)
      refine xe_aload_n dX11_method_34 rfl rfl ?_
      obtain ⟨a25, e26, t27, hF⟩ := gR_inv hF
      refine xq_getR dX11_method_35 fl_SeldomOps_10 xk_10 e26 t27 rfl ?_
      refine xe_iload_n dX11_method_38 rfl rfl ?_
      obtain ⟨a33, e31, t32, hF⟩ := rcv_inv hF
      obtain ⟨v28, h29, o30, hF⟩ := cl_inv hF
      refine xv.weaken (xq_callV (k := 0) (n := 0) (As := [.int _]) (rest := []) dX11_method_39 mk_X4_addMethod ⟨tw_270, tw_271, tw_272⟩ (ci := 3) rfl e31 t32 (FX4_addMethod_ok o30) xP_q (by decide) (by decide) rfl rfl ?_) (by first | decide | omega) (by first | decide | omega)
      exact xe_ireturn dX11_method_42 (xP_ret (mk := mkI) hF)
/-! SeldomOps.op(IIII)I -/
def FX11_op (p0 : Option Nat) (p1 : Int32) (p2 : Int32) (p3 : Int32) (p4 : Int32) (h0 : Hp) : Option (Int32 × Hp) :=
  gR h0 p0 10 0 fun v1 =>
  rcv h0 v1 3 <|
  cl (FX4_findMethod v1 p1 h0) fun v5 h6 =>
  nz v5 (
    some ((-2), h6)
  ) (
    cl (FX11_within p2 36 h6) fun v12 h13 =>
    if (v12 : Int32) = 0 then
      some ((-2), h13)
    else
      gI h13 v5 2 7 fun v16 =>
      if (v16 : Int32) = 60 then
        some ((-4), h13)
      else
        gR h13 p0 10 0 fun v21 =>
        rcv h13 v21 3 <|
        cl (FX4_forgetJudgements v21 h13) fun v25 h26 =>
        gI h26 v5 2 7 fun v31 =>
        gI h26 v5 2 7 fun v35 =>
        pI h26 v5 2 7 (v35 + 1) fun h42 =>
        rcv h42 v5 2 <|
        cl (FX2_setOperation v5 v31 p2 p3 p4 h42) fun v44 h45 =>
        some (v31, h45)
  )
set_option maxRecDepth 100000 in
set_option maxHeartbeats 4000000 in
theorem FX11_op_ok {G : xG} {l : Launch} {p0 : Option Nat} {p1 : Int32} {p2 : Int32} {p3 : Int32} {p4 : Int32} {h0 h1 : Hp} {r : Int32} (hF : FX11_op p0 p1 p2 p3 p4 h0 = some (r, h1)) : xc G l mX11_op 3 0 0 [va_rf p0, .int p1, .int p2, .int p3, .int p4] h0 (xP mkI r h1) := by
  refine xo_I [.inr (.inr _), .inl _, .inl _, .inl _, .inl _] (by decide) (Nat.le_of_ble_eq_true rfl) rfl ?_
  show xv _ _ _ _ _ _ _ [(0, false, va_rf p0), (1, false, .int p1), (2, false, .int p2), (3, false, .int p3), (4, false, .int p4)] _ _ _
  unfold FX11_op at hF
  refine xe_aload_n dX11_op_0 rfl rfl ?_
  obtain ⟨a2, e3, t4, hF⟩ := gR_inv hF
  refine xq_getR dX11_op_1 fl_SeldomOps_10 xk_10 e3 t4 rfl ?_
  refine xe_iload_n dX11_op_4 rfl rfl ?_
  obtain ⟨a10, e8, t9, hF⟩ := rcv_inv hF
  obtain ⟨v5, h6, o7, hF⟩ := cl_inv hF
  refine xz (xq_callV (As := [.int _]) (rest := []) dX11_op_5 mk_X4_findMethod ⟨tw_381, tw_382, tw_383⟩ (ci := 3) rfl e8 t9 (FX4_findMethod_ok o7) xP_q (by decide) (by decide) rfl rfl ?_)
  refine xe_astore dX11_op_8 (by decide) ?_
  refine xe_aload dX11_op_10 rfl ?_
  refine xe_ifnull (tgt := 24) dX11_op_12 (by decide) (fun e11 => ?_) (fun a_ e11 => ?_)
  · replace hF := nz_n' e11 hF
    refine xe_bipush (v := (-2)) dX11_op_24 (by decide) ?_
    exact xe_ireturn dX11_op_26 (xP_ret (mk := mkI) hF)
  · replace hF := nz_s' e11 hF
    refine xe_iload_n dX11_op_15 rfl rfl ?_
    refine xe_bipush (v := 36) dX11_op_16 (by decide) ?_
    obtain ⟨v12, h13, o14, hF⟩ := cl_inv hF
    refine xz (xq_callS (As := [.int _, .int _]) (rest := []) dX11_op_18 mk_X11_within ⟨tw_263, tw_264⟩ (FX11_within_ok o14) xPZ_q (by decide) (by decide) rfl rfl ?_)
    refine xe_if_ne (tgt := 27) dX11_op_21 (by decide) (fun c15 => ?_) (fun c15 => ?_)
    · replace hF := if_p c15 hF
      refine xe_bipush (v := (-2)) dX11_op_24 (by decide) ?_
      exact xe_ireturn dX11_op_26 (xP_ret (mk := mkI) hF)
    · replace hF := if_n c15 hF
      refine xe_aload dX11_op_27 rfl ?_
      obtain ⟨a17, e18, t19, hF⟩ := gI_inv hF
      refine xq_getI dX11_op_29 fl_SeldomOps_69 xk_2 e18 t19 rfl ?_
      refine xe_bipush (v := 60) dX11_op_32 (by decide) ?_
      refine xe_icmp_ne (tgt := 40) dX11_op_34 (by decide) (fun c20 => ?_) (fun c20 => ?_)
      · replace hF := if_p c20 hF
        refine xe_bipush (v := (-4)) dX11_op_37 (by decide) ?_
        exact xe_ireturn dX11_op_39 (xP_ret (mk := mkI) hF)
      · replace hF := if_n c20 hF
        refine xe_aload_n dX11_op_40 rfl rfl ?_
        obtain ⟨a22, e23, t24, hF⟩ := gR_inv hF
        refine xq_getR dX11_op_41 fl_SeldomOps_10 xk_10 e23 t24 rfl ?_
        obtain ⟨a30, e28, t29, hF⟩ := rcv_inv hF
        obtain ⟨v25, h26, o27, hF⟩ := cl_inv hF
        refine xz (xq_callV (As := []) (rest := []) dX11_op_44 mk_X4_forgetJudgements ⟨tw_266, tw_267, tw_268⟩ (ci := 3) rfl e28 t29 (FX4_forgetJudgements_ok o27) xP_q (by decide) (by decide) rfl rfl ?_)
        refine xe_aload dX11_op_47 rfl ?_
        obtain ⟨a32, e33, t34, hF⟩ := gI_inv hF
        refine xq_getI dX11_op_49 fl_SeldomOps_69 xk_2 e33 t34 rfl ?_
        refine xe_istore dX11_op_52 (by decide) ?_
        refine xe_aload dX11_op_54 rfl ?_
        refine xe_dup dX11_op_56 (va_rf_cat _) ?_
        obtain ⟨a36, e37, t38, hF⟩ := gI_inv hF
        refine xq_getI dX11_op_57 fl_SeldomOps_69 xk_2 e37 t38 rfl ?_
        refine xe_iconst (v := 1) dX11_op_60 (by decide) ?_
        refine xe_iadd dX11_op_61 ?_
        obtain ⟨a39, e40, t41, hF⟩ := pI_inv hF
        refine xq_putI dX11_op_62 fl_SeldomOps_69 xk_2 (by decide) (fun z => by cases z) e40 t41 (Or.inl rfl) ?_
        refine xe_aload dX11_op_65 rfl ?_
        refine xe_iload dX11_op_67 rfl ?_
        refine xe_iload_n dX11_op_69 rfl rfl ?_
        refine xe_iload_n dX11_op_70 rfl rfl ?_
        refine xe_iload dX11_op_71 rfl ?_
        obtain ⟨a49, e47, t48, hF⟩ := rcv_inv hF
        obtain ⟨v44, h45, o46, hF⟩ := cl_inv hF
        refine xz (xq_callV (As := [.int _, .int _, .int _, .int _]) (rest := []) dX11_op_73 mk_X2_setOperation ⟨tw_401, tw_402, tw_403⟩ (ci := 2) rfl e47 t48 (FX2_setOperation_ok o46) xP_q (by decide) (by decide) rfl rfl ?_)
        refine xe_iload dX11_op_76 rfl ?_
        exact xe_ireturn dX11_op_78 (xP_ret (mk := mkI) hF)
/-! SeldomOps.shape(III)I -/
def FX11_shape (p0 : Option Nat) (p1 : Int32) (p2 : Int32) (p3 : Int32) (h0 : Hp) : Option (Int32 × Hp) :=
  gR h0 p0 10 0 fun v1 =>
  rcv h0 v1 3 <|
  cl (FX4_findMethod v1 p1 h0) fun v5 h6 =>
  nz v5 (
    some ((-2), h6)
  ) (
    gI h6 v5 2 7 fun v12 =>
    cl (FX11_within p2 v12 h6) fun v16 h17 =>
    if (v16 : Int32) = 0 then
      some ((-2), h17)
    else
      if (p3 : Int32) < (-17) then
        some ((-2), h17)
      else
        if (p3 : Int32) < 12 then
          gI h17 v5 2 14 fun v22 =>
          if (v22 : Int32) = 0 then
            some ((-1), h17)
          else
            gR h17 v5 2 13 fun v27 =>
            rcv h17 v27 5 <|
            cl (FX6_tell v27 p2 p3 h17) fun v31 h32 =>
            some (v31, h32)
        else
          some ((-2), h17)
  )
set_option maxRecDepth 100000 in
set_option maxHeartbeats 4000000 in
theorem FX11_shape_ok {G : xG} {l : Launch} {p0 : Option Nat} {p1 : Int32} {p2 : Int32} {p3 : Int32} {h0 h1 : Hp} {r : Int32} (hF : FX11_shape p0 p1 p2 p3 h0 = some (r, h1)) : xc G l mX11_shape 3 0 0 [va_rf p0, .int p1, .int p2, .int p3] h0 (xP mkI r h1) := by
  refine xo_I [.inr (.inr _), .inl _, .inl _, .inl _] (by decide) (Nat.le_of_ble_eq_true rfl) rfl ?_
  show xv _ _ _ _ _ _ _ [(0, false, va_rf p0), (1, false, .int p1), (2, false, .int p2), (3, false, .int p3)] _ _ _
  unfold FX11_shape at hF
  refine xe_aload_n dX11_shape_0 rfl rfl ?_
  obtain ⟨a2, e3, t4, hF⟩ := gR_inv hF
  refine xq_getR dX11_shape_1 fl_SeldomOps_10 xk_10 e3 t4 rfl ?_
  refine xe_iload_n dX11_shape_4 rfl rfl ?_
  obtain ⟨a10, e8, t9, hF⟩ := rcv_inv hF
  obtain ⟨v5, h6, o7, hF⟩ := cl_inv hF
  refine xz (xq_callV (As := [.int _]) (rest := []) dX11_shape_5 mk_X4_findMethod ⟨tw_381, tw_382, tw_383⟩ (ci := 3) rfl e8 t9 (FX4_findMethod_ok o7) xP_q (by decide) (by decide) rfl rfl ?_)
  refine xe_astore dX11_shape_8 (by decide) ?_
  refine xe_aload dX11_shape_10 rfl ?_
  refine xe_ifnull (tgt := 39) dX11_shape_12 (by decide) (fun e11 => ?_) (fun a_ e11 => ?_)
  · replace hF := nz_n' e11 hF
    refine xe_bipush (v := (-2)) dX11_shape_39 (by decide) ?_
    exact xe_ireturn dX11_shape_41 (xP_ret (mk := mkI) hF)
  · replace hF := nz_s' e11 hF
    refine xe_iload_n dX11_shape_15 rfl rfl ?_
    refine xe_aload dX11_shape_16 rfl ?_
    obtain ⟨a13, e14, t15, hF⟩ := gI_inv hF
    refine xq_getI dX11_shape_18 fl_SeldomOps_69 xk_2 e14 t15 rfl ?_
    obtain ⟨v16, h17, o18, hF⟩ := cl_inv hF
    refine xz (xq_callS (As := [.int _, .int _]) (rest := []) dX11_shape_21 mk_X11_within ⟨tw_263, tw_264⟩ (FX11_within_ok o18) xPZ_q (by decide) (by decide) rfl rfl ?_)
    refine xe_if_eq (tgt := 39) dX11_shape_24 (by decide) (fun c19 => ?_) (fun c19 => ?_)
    · replace hF := if_p c19 hF
      refine xe_bipush (v := (-2)) dX11_shape_39 (by decide) ?_
      exact xe_ireturn dX11_shape_41 (xP_ret (mk := mkI) hF)
    · replace hF := if_n c19 hF
      refine xe_iload_n dX11_shape_27 rfl rfl ?_
      refine xe_bipush (v := (-17)) dX11_shape_28 (by decide) ?_
      refine xe_icmp_lt (tgt := 39) dX11_shape_30 (by decide) (fun c20 => ?_) (fun c20 => ?_)
      · replace hF := if_p c20 hF
        refine xe_bipush (v := (-2)) dX11_shape_39 (by decide) ?_
        exact xe_ireturn dX11_shape_41 (xP_ret (mk := mkI) hF)
      · replace hF := if_n c20 hF
        refine xe_iload_n dX11_shape_33 rfl rfl ?_
        refine xe_bipush (v := 12) dX11_shape_34 (by decide) ?_
        refine xe_icmp_lt (tgt := 42) dX11_shape_36 (by decide) (fun c21 => ?_) (fun c21 => ?_)
        · replace hF := if_p c21 hF
          refine xe_aload dX11_shape_42 rfl ?_
          obtain ⟨a23, e24, t25, hF⟩ := gI_inv hF
          refine xq_getI dX11_shape_44 fl_SeldomOps_128 xk_2 e24 t25 rfl ?_
          refine xe_if_eq (tgt := 63) dX11_shape_47 (by decide) (fun c26 => ?_) (fun c26 => ?_)
          · replace hF := if_p c26 hF
            refine xe_iconst (v := (-1)) dX11_shape_63 (by decide) ?_
            exact xe_ireturn dX11_shape_64 (xP_ret (mk := mkI) hF)
          · replace hF := if_n c26 hF
            refine xe_aload dX11_shape_50 rfl ?_
            obtain ⟨a28, e29, t30, hF⟩ := gR_inv hF
            refine xq_getR dX11_shape_52 fl_SeldomOps_131 xk_2 e29 t30 rfl ?_
            refine xe_iload_n dX11_shape_55 rfl rfl ?_
            refine xe_iload_n dX11_shape_56 rfl rfl ?_
            obtain ⟨a36, e34, t35, hF⟩ := rcv_inv hF
            obtain ⟨v31, h32, o33, hF⟩ := cl_inv hF
            refine xz (xq_callV (As := [.int _, .int _]) (rest := []) dX11_shape_57 mk_X6_tell ⟨tw_698, tw_699, tw_700⟩ (ci := 5) rfl e34 t35 (FX6_tell_ok o33) xP_q (by decide) (by decide) rfl rfl ?_)
            refine xe_goto (tgt := 64) dX11_shape_60 (by decide) ?_
            exact xe_ireturn dX11_shape_64 (xP_ret (mk := mkI) hF)
        · replace hF := if_n c21 hF
          refine xe_bipush (v := (-2)) dX11_shape_39 (by decide) ?_
          exact xe_ireturn dX11_shape_41 (xP_ret (mk := mkI) hF)
/-! SeldomOps.table(ZII)I -/
def FX11_table (p0 : Option Nat) (p1 : Int32) (p2 : Int32) (p3 : Int32) (h0 : Hp) : Option (Int32 × Hp) :=
  cl (FX11_within p3 60 h0) fun v1 h2 =>
  if (v1 : Int32) = 0 then
    some ((-2), h2)
  else
    gR h2 p0 10 0 fun v5 =>
    gI h2 v5 3 5 fun v9 =>
    if (v9 : Int32) = 8 then
      some ((-4), h2)
    else
      gR h2 p0 10 0 fun v14 =>
      rcv h2 v14 3 <|
      cl (FX4_forgetJudgements v14 h2) fun v18 h19 =>
      gR h19 p0 10 0 fun v24 =>
      rcv h19 v24 3 <|
      cl (FX4_addTable v24 p1 p2 p3 h19) fun v28 h29 =>
      some (v28, h29)
set_option maxRecDepth 100000 in
set_option maxHeartbeats 4000000 in
theorem FX11_table_ok {G : xG} {l : Launch} {p0 : Option Nat} {p1 : Int32} {p2 : Int32} {p3 : Int32} {h0 h1 : Hp} {r : Int32} (hF : FX11_table p0 p1 p2 p3 h0 = some (r, h1)) : xc G l mX11_table 3 3 22 [va_rf p0, .int p1, .int p2, .int p3] h0 (xP mkI r h1) := by
  refine xo_I [.inr (.inr _), .inl _, .inl _, .inl _] (by decide) (Nat.le_of_ble_eq_true rfl) rfl ?_
  show xv _ _ _ _ _ _ _ [(0, false, va_rf p0), (1, false, .int p1), (2, false, .int p2), (3, false, .int p3)] _ _ _
  unfold FX11_table at hF
  refine xe_iload_n dX11_table_0 rfl rfl ?_
  refine xe_bipush (v := 60) dX11_table_1 (by decide) ?_
  obtain ⟨v1, h2, o3, hF⟩ := cl_inv hF
  refine xz (xq_callS (As := [.int _, .int _]) (rest := []) dX11_table_3 mk_X11_within ⟨tw_263, tw_264⟩ (FX11_within_ok o3) xPZ_q (by decide) (by decide) rfl rfl ?_)
  refine xe_if_ne (tgt := 12) dX11_table_6 (by decide) (fun c4 => ?_) (fun c4 => ?_)
  · replace hF := if_p c4 hF
    refine xe_bipush (v := (-2)) dX11_table_9 (by decide) ?_
    exact xe_ireturn dX11_table_11 (xP_ret (mk := mkI) hF)
  · replace hF := if_n c4 hF
    refine xe_aload_n dX11_table_12 rfl rfl ?_
    obtain ⟨a6, e7, t8, hF⟩ := gR_inv hF
    refine xq_getR dX11_table_13 fl_SeldomOps_10 xk_10 e7 t8 rfl ?_
    obtain ⟨a10, e11, t12, hF⟩ := gI_inv hF
    refine xq_getI dX11_table_16 fl_SeldomOps_90 xk_3 e11 t12 rfl ?_
    refine xe_bipush (v := 8) dX11_table_19 (by decide) ?_
    refine xe_icmp_ne (tgt := 27) dX11_table_21 (by decide) (fun c13 => ?_) (fun c13 => ?_)
    · replace hF := if_p c13 hF
      refine xe_bipush (v := (-4)) dX11_table_24 (by decide) ?_
      exact xe_ireturn dX11_table_26 (xP_ret (mk := mkI) hF)
    · replace hF := if_n c13 hF
      refine xe_aload_n dX11_table_27 rfl rfl ?_
      obtain ⟨a15, e16, t17, hF⟩ := gR_inv hF
      refine xq_getR dX11_table_28 fl_SeldomOps_10 xk_10 e16 t17 rfl ?_
      obtain ⟨a23, e21, t22, hF⟩ := rcv_inv hF
      obtain ⟨v18, h19, o20, hF⟩ := cl_inv hF
      refine xz (xq_callV (As := []) (rest := []) dX11_table_31 mk_X4_forgetJudgements ⟨tw_266, tw_267, tw_268⟩ (ci := 3) rfl e21 t22 (FX4_forgetJudgements_ok o20) xP_q (by decide) (by decide) rfl rfl ?_)
      refine xe_aload_n dX11_table_34 rfl rfl ?_
      obtain ⟨a25, e26, t27, hF⟩ := gR_inv hF
      refine xq_getR dX11_table_35 fl_SeldomOps_10 xk_10 e26 t27 rfl ?_
      refine xe_iload_n dX11_table_38 rfl rfl ?_
      refine xe_iload_n dX11_table_39 rfl rfl ?_
      refine xe_iload_n dX11_table_40 rfl rfl ?_
      obtain ⟨a33, e31, t32, hF⟩ := rcv_inv hF
      obtain ⟨v28, h29, o30, hF⟩ := cl_inv hF
      refine xv.weaken (xq_callV (k := 0) (n := 0) (As := [.int _, .int _, .int _]) (rest := []) dX11_table_41 mk_X4_addTable ⟨tw_429, tw_430, tw_431⟩ (ci := 3) rfl e31 t32 (FX4_addTable_ok o30) xP_q (by decide) (by decide) rfl rfl ?_) (by first | decide | omega) (by first | decide | omega)
      exact xe_ireturn dX11_table_44 (xP_ret (mk := mkI) hF)
/-! SeldomOps.thing(II)I -/
def FX11_thing (p0 : Option Nat) (p1 : Int32) (p2 : Int32) (h0 : Hp) : Option (Int32 × Hp) :=
  gR h0 p0 10 2 fun v1 =>
  gR h0 v1 8 1 fun v5 =>
  rcv h0 v5 7 <|
  cl (FX8_describe v5 p1 p2 h0) fun v9 h10 =>
  some (v9, h10)
set_option maxRecDepth 100000 in
set_option maxHeartbeats 4000000 in
theorem FX11_thing_ok {G : xG} {l : Launch} {p0 : Option Nat} {p1 : Int32} {p2 : Int32} {h0 h1 : Hp} {r : Int32} (hF : FX11_thing p0 p1 p2 h0 = some (r, h1)) : xc G l mX11_thing 3 0 0 [va_rf p0, .int p1, .int p2] h0 (xP mkI r h1) := by
  refine xo_I [.inr (.inr _), .inl _, .inl _] (by decide) (Nat.le_of_ble_eq_true rfl) rfl ?_
  show xv _ _ _ _ _ _ _ [(0, false, va_rf p0), (1, false, .int p1), (2, false, .int p2)] _ _ _
  unfold FX11_thing at hF
  refine xe_aload_n dX11_thing_0 rfl rfl ?_
  obtain ⟨a2, e3, t4, hF⟩ := gR_inv hF
  refine xq_getR dX11_thing_1 fl_SeldomOps_28 xk_10 e3 t4 rfl ?_
  obtain ⟨a6, e7, t8, hF⟩ := gR_inv hF
  refine xq_getR dX11_thing_4 fl_SeldomOps_161 xk_8 e7 t8 rfl ?_
  refine xe_iload_n dX11_thing_7 rfl rfl ?_
  refine xe_iload_n dX11_thing_8 rfl rfl ?_
  obtain ⟨a14, e12, t13, hF⟩ := rcv_inv hF
  obtain ⟨v9, h10, o11, hF⟩ := cl_inv hF
  refine xz (xq_callV (As := [.int _, .int _]) (rest := []) dX11_thing_9 mk_X8_describe ⟨tw_950, tw_951, tw_952⟩ (ci := 7) rfl e12 t13 (FX8_describe_ok o11) xP_q (by decide) (by decide) rfl rfl ?_)
  exact xe_ireturn dX11_thing_12 (xP_ret (mk := mkI) hF)
/-! SeldomOps.told(I)I -/
def FX11_told (p0 : Option Nat) (p1 : Int32) (h0 : Hp) : Option (Int32 × Hp) :=
  gR h0 p0 10 2 fun v1 =>
  rcv h0 v1 8 <|
  cl (FX9_report v1 p1 h0) fun v5 h6 =>
  some (v5, h6)
set_option maxRecDepth 100000 in
set_option maxHeartbeats 4000000 in
theorem FX11_told_ok {G : xG} {l : Launch} {p0 : Option Nat} {p1 : Int32} {h0 h1 : Hp} {r : Int32} (hF : FX11_told p0 p1 h0 = some (r, h1)) : xc G l mX11_told 3 0 0 [va_rf p0, .int p1] h0 (xP mkI r h1) := by
  refine xo_I [.inr (.inr _), .inl _] (by decide) (Nat.le_of_ble_eq_true rfl) rfl ?_
  show xv _ _ _ _ _ _ _ [(0, false, va_rf p0), (1, false, .int p1)] _ _ _
  unfold FX11_told at hF
  refine xe_aload_n dX11_told_0 rfl rfl ?_
  obtain ⟨a2, e3, t4, hF⟩ := gR_inv hF
  refine xq_getR dX11_told_1 fl_SeldomOps_28 xk_10 e3 t4 rfl ?_
  refine xe_iload_n dX11_told_4 rfl rfl ?_
  obtain ⟨a10, e8, t9, hF⟩ := rcv_inv hF
  obtain ⟨v5, h6, o7, hF⟩ := cl_inv hF
  refine xz (xq_callV (As := [.int _]) (rest := []) dX11_told_5 mk_X9_report ⟨tw_942, tw_943, tw_944⟩ (ci := 8) rfl e8 t9 (FX9_report_ok o7) xP_q (by decide) (by decide) rfl rfl ?_)
  exact xe_ireturn dX11_told_8 (xP_ret (mk := mkI) hF)
/-! SeldomOps.value()J -/
def FX11_value (p0 : Option Nat) (h0 : Hp) : Option (Int64 × Hp) :=
  gR h0 p0 10 2 fun v1 =>
  gL h0 v1 8 5 fun v5 =>
  some (v5, h0)
set_option maxRecDepth 100000 in
set_option maxHeartbeats 4000000 in
theorem FX11_value_ok {G : xG} {l : Launch} {p0 : Option Nat} {h0 h1 : Hp} {r : Int64} (hF : FX11_value p0 h0 = some (r, h1)) : xc G l mX11_value 1 0 0 [va_rf p0] h0 (xP mkL r h1) := by
  refine xo_L [.inr (.inr _)] (by decide) (Nat.le_of_ble_eq_true rfl) rfl ?_
  show xv _ _ _ _ _ _ _ [(0, false, va_rf p0)] _ _ _
  unfold FX11_value at hF
  refine xe_aload_n dX11_value_0 rfl rfl ?_
  obtain ⟨a2, e3, t4, hF⟩ := gR_inv hF
  refine xq_getR dX11_value_1 fl_SeldomOps_28 xk_10 e3 t4 rfl ?_
  obtain ⟨a6, e7, t8, hF⟩ := gL_inv hF
  refine xq_getL dX11_value_4 fl_SeldomOps_154 xk_8 e7 t8 rfl ?_
  exact xe_lreturn dX11_value_7 (xP_ret (mk := mkL) hF)
/-! SeldomOps.walk(II)I -/
def FX11_walk (p0 : Option Nat) (p1 : Int32) (p2 : Int32) (h0 : Hp) : Option (Int32 × Hp) :=
  gR h0 p0 10 0 fun v1 =>
  rcv h0 v1 3 <|
  cl (FX4_findMethod v1 p1 h0) fun v5 h6 =>
  nz v5 (
    some ((-2), h6)
  ) (
    if (p2 : Int32) < 0 then
      some ((-2), h6)
    else
      if (3000 : Int32) < p2 then
        some ((-2), h6)
      else
        gR h6 p0 10 0 fun v14 =>
        rcv h6 v14 3 <|
        cl (FX4_allFaultless v14 h6) fun v18 h19 =>
        if (v18 : Int32) = 0 then
          some ((-3), h19)
        else
          gI h19 p0 10 4 fun v25 =>
          gI h19 v5 2 2 fun v29 =>
          if (v25 : Int32) = v29 then
            pI h19 p0 10 4 0 fun h37 =>
            gR h37 p0 10 2 fun v39 =>
            gR h37 p0 10 3 fun v43 =>
            rcv h37 v39 8 <|
            cl (FX9_start v39 p1 v5 v43 h37) fun v47 h48 =>
            gR h48 p0 10 2 fun v53 =>
            rcv h48 v53 8 <|
            cl (FX9_run v53 p2 h48) fun v57 h58 =>
            some (v57, h58)
          else
            some ((-3), h19)
  )
set_option maxRecDepth 100000 in
set_option maxHeartbeats 4000000 in
theorem FX11_walk_ok {G : xG} {l : Launch} {p0 : Option Nat} {p1 : Int32} {p2 : Int32} {h0 h1 : Hp} {r : Int32} (hF : FX11_walk p0 p1 p2 h0 = some (r, h1)) : xc G l mX11_walk 14 0 0 [va_rf p0, .int p1, .int p2] h0 (xP mkI r h1) := by
  refine xo_I [.inr (.inr _), .inl _, .inl _] (by decide) (Nat.le_of_ble_eq_true rfl) rfl ?_
  show xv _ _ _ _ _ _ _ [(0, false, va_rf p0), (1, false, .int p1), (2, false, .int p2)] _ _ _
  unfold FX11_walk at hF
  refine xe_aload_n dX11_walk_0 rfl rfl ?_
  obtain ⟨a2, e3, t4, hF⟩ := gR_inv hF
  refine xq_getR dX11_walk_1 fl_SeldomOps_10 xk_10 e3 t4 rfl ?_
  refine xe_iload_n dX11_walk_4 rfl rfl ?_
  obtain ⟨a10, e8, t9, hF⟩ := rcv_inv hF
  obtain ⟨v5, h6, o7, hF⟩ := cl_inv hF
  refine xz (xq_callV (As := [.int _]) (rest := []) dX11_walk_5 mk_X4_findMethod ⟨tw_381, tw_382, tw_383⟩ (ci := 3) rfl e8 t9 (FX4_findMethod_ok o7) xP_q (by decide) (by decide) rfl rfl ?_)
  refine xe_astore_n dX11_walk_8 rfl (by decide) ?_
  refine xe_aload_n dX11_walk_9 rfl rfl ?_
  refine xe_ifnull (tgt := 24) dX11_walk_10 (by decide) (fun e11 => ?_) (fun a_ e11 => ?_)
  · replace hF := nz_n' e11 hF
    refine xe_bipush (v := (-2)) dX11_walk_24 (by decide) ?_
    exact xe_ireturn dX11_walk_26 (xP_ret (mk := mkI) hF)
  · replace hF := nz_s' e11 hF
    refine xe_iload_n dX11_walk_13 rfl rfl ?_
    refine xe_if_lt (tgt := 24) dX11_walk_14 (by decide) (fun c12 => ?_) (fun c12 => ?_)
    · replace hF := if_p c12 hF
      refine xe_bipush (v := (-2)) dX11_walk_24 (by decide) ?_
      exact xe_ireturn dX11_walk_26 (xP_ret (mk := mkI) hF)
    · replace hF := if_n c12 hF
      refine xe_iload_n dX11_walk_17 rfl rfl ?_
      refine xe_sipush (v := 3000) dX11_walk_18 (by decide) ?_
      refine xe_icmp_le (tgt := 27) dX11_walk_21 (by decide) (fun c13 => ?_) (fun c13 => ?_)
      · replace hF := if_p c13 hF
        refine xe_bipush (v := (-2)) dX11_walk_24 (by decide) ?_
        exact xe_ireturn dX11_walk_26 (xP_ret (mk := mkI) hF)
      · replace hF := if_n c13 hF
        refine xe_aload_n dX11_walk_27 rfl rfl ?_
        obtain ⟨a15, e16, t17, hF⟩ := gR_inv hF
        refine xq_getR dX11_walk_28 fl_SeldomOps_10 xk_10 e16 t17 rfl ?_
        obtain ⟨a23, e21, t22, hF⟩ := rcv_inv hF
        obtain ⟨v18, h19, o20, hF⟩ := cl_inv hF
        refine xz (xq_callV (As := []) (rest := []) dX11_walk_31 mk_X4_allFaultless ⟨tw_710, tw_711, tw_712⟩ (ci := 3) rfl e21 t22 (FX4_allFaultless_ok o20) xPZ_q (by decide) (by decide) rfl rfl ?_)
        refine xe_if_eq (tgt := 48) dX11_walk_34 (by decide) (fun c24 => ?_) (fun c24 => ?_)
        · replace hF := if_p c24 hF
          refine xe_bipush (v := (-3)) dX11_walk_48 (by decide) ?_
          exact xe_ireturn dX11_walk_50 (xP_ret (mk := mkI) hF)
        · replace hF := if_n c24 hF
          refine xe_aload_n dX11_walk_37 rfl rfl ?_
          obtain ⟨a26, e27, t28, hF⟩ := gI_inv hF
          refine xq_getI dX11_walk_38 fl_SeldomOps_36 xk_10 e27 t28 rfl ?_
          refine xe_aload_n dX11_walk_41 rfl rfl ?_
          obtain ⟨a30, e31, t32, hF⟩ := gI_inv hF
          refine xq_getI dX11_walk_42 fl_SeldomOps_144 xk_2 e31 t32 rfl ?_
          refine xe_icmp_eq (tgt := 51) dX11_walk_45 (by decide) (fun c33 => ?_) (fun c33 => ?_)
          · replace hF := if_p c33 hF
            refine xe_aload_n dX11_walk_51 rfl rfl ?_
            refine xe_iconst (v := 0) dX11_walk_52 (by decide) ?_
            obtain ⟨a34, e35, t36, hF⟩ := pI_inv hF
            refine xq_putI dX11_walk_53 fl_SeldomOps_36 xk_10 (by decide) (fun z => by cases z) e35 t36 (Or.inl rfl) ?_
            refine xe_aload_n dX11_walk_56 rfl rfl ?_
            obtain ⟨a40, e41, t42, hF⟩ := gR_inv hF
            refine xq_getR dX11_walk_57 fl_SeldomOps_28 xk_10 e41 t42 rfl ?_
            refine xe_iload_n dX11_walk_60 rfl rfl ?_
            refine xe_aload_n dX11_walk_61 rfl rfl ?_
            refine xe_aload_n dX11_walk_62 rfl rfl ?_
            obtain ⟨a44, e45, t46, hF⟩ := gR_inv hF
            refine xq_getR dX11_walk_63 fl_SeldomOps_32 xk_10 e45 t46 rfl ?_
            obtain ⟨a52, e50, t51, hF⟩ := rcv_inv hF
            obtain ⟨v47, h48, o49, hF⟩ := cl_inv hF
            refine xz (xq_callV (As := [.int _, va_rf _, va_rf _]) (rest := []) dX11_walk_66 mk_X9_start ⟨tw_714, tw_715, tw_716⟩ (ci := 8) rfl e50 t51 (FX9_start_ok o49) xP_q (by decide) (by decide) rfl rfl ?_)
            refine xe_aload_n dX11_walk_69 rfl rfl ?_
            obtain ⟨a54, e55, t56, hF⟩ := gR_inv hF
            refine xq_getR dX11_walk_70 fl_SeldomOps_28 xk_10 e55 t56 rfl ?_
            refine xe_iload_n dX11_walk_73 rfl rfl ?_
            obtain ⟨a62, e60, t61, hF⟩ := rcv_inv hF
            obtain ⟨v57, h58, o59, hF⟩ := cl_inv hF
            refine xz (xq_callV (As := [.int _]) (rest := []) dX11_walk_74 mk_X9_run ⟨tw_738, tw_739, tw_740⟩ (ci := 8) rfl e60 t61 (FX9_run_ok o59) xP_q (by decide) (by decide) rfl rfl ?_)
            exact xe_ireturn dX11_walk_77 (xP_ret (mk := mkI) hF)
          · replace hF := if_n c33 hF
            refine xe_bipush (v := (-3)) dX11_walk_48 (by decide) ?_
            exact xe_ireturn dX11_walk_50 (xP_ret (mk := mkI) hF)
/-! SeldomOpsModel.in(JJJ)Z -/
def FX12_in (p0 : Int64) (p1 : Int64) (p2 : Int64) (h0 : Hp) : Option (Int32 × Hp) :=
  if (p0 : Int64) < p1 then
    bz 0 (some (0, h0))
  else
    if (p2 : Int64) < p0 then
      bz 0 (some (0, h0))
    else
      bz 1 (some (1, h0))
set_option maxRecDepth 100000 in
set_option maxHeartbeats 4000000 in
theorem FX12_in_ok {G : xG} {l : Launch} {p0 : Int64} {p1 : Int64} {p2 : Int64} {h0 h1 : Hp} {r : Int32} (hF : FX12_in p0 p1 p2 h0 = some (r, h1)) : xc G l mX12_in 1 0 0 [.long p0, .long p1, .long p2] h0 (xPZ r h1) := by
  refine xo_Z [.inr (.inl _), .inr (.inl _), .inr (.inl _)] (by decide) (Nat.le_of_ble_eq_true rfl) rfl ?_
  show xv _ _ _ _ _ _ _ [(0, true, .long p0), (2, true, .long p1), (4, true, .long p2)] _ _ _
  unfold FX12_in at hF
  refine xe_lload_n dX12_in_0 rfl rfl ?_
  refine xe_lload_n dX12_in_1 rfl rfl ?_
  refine xe_lcmp dX12_in_2 ?_
  refine xe_lif_lt (tgt := 17) dX12_in_3 (by decide) (fun c1 => ?_) (fun c1 => ?_)
  · replace hF := if_p c1 hF
    refine xe_iconst (v := 0) dX12_in_17 (by decide) ?_
    obtain ⟨z2, hF⟩ := bz_inv hF
    exact xe_ireturn dX12_in_18 (xPZ_ret z2 hF)
  · replace hF := if_n c1 hF
    refine xe_lload_n dX12_in_6 rfl rfl ?_
    refine xe_lload dX12_in_7 rfl ?_
    refine xe_lcmp dX12_in_9 ?_
    refine xe_lif_gt (tgt := 17) dX12_in_10 (by decide) (fun c3 => ?_) (fun c3 => ?_)
    · replace hF := if_p c3 hF
      refine xe_iconst (v := 0) dX12_in_17 (by decide) ?_
      obtain ⟨z4, hF⟩ := bz_inv hF
      exact xe_ireturn dX12_in_18 (xPZ_ret z4 hF)
    · replace hF := if_n c3 hF
      refine xe_iconst (v := 1) dX12_in_13 (by decide) ?_
      refine xe_goto (tgt := 18) dX12_in_14 (by decide) ?_
      obtain ⟨z5, hF⟩ := bz_inv hF
      exact xe_ireturn dX12_in_18 (xPZ_ret z5 hF)
/-! SeldomOpsModel.isMethod(I)Z -/
def FX12_isMethod (p0 : Option Nat) (p1 : Int32) (h0 : Hp) : Option (Int32 × Hp) :=
  gI h0 p0 11 0 fun v1 =>
  cl (FX12_in (Int32.toInt64 p1) 0 (Int32.toInt64 (v1 - 1)) h0) fun v5 h6 =>
  bz v5 (some (v5, h6))
set_option maxRecDepth 100000 in
set_option maxHeartbeats 4000000 in
theorem FX12_isMethod_ok {G : xG} {l : Launch} {p0 : Option Nat} {p1 : Int32} {h0 h1 : Hp} {r : Int32} (hF : FX12_isMethod p0 p1 h0 = some (r, h1)) : xc G l mX12_isMethod 2 0 0 [va_rf p0, .int p1] h0 (xPZ r h1) := by
  refine xo_Z [.inr (.inr _), .inl _] (by decide) (Nat.le_of_ble_eq_true rfl) rfl ?_
  show xv _ _ _ _ _ _ _ [(0, false, va_rf p0), (1, false, .int p1)] _ _ _
  unfold FX12_isMethod at hF
  refine xe_iload_n dX12_isMethod_0 rfl rfl ?_
  refine xe_i2l dX12_isMethod_1 ?_
  refine xe_lconst (v := 0) dX12_isMethod_2 (by decide) ?_
  refine xe_aload_n dX12_isMethod_3 rfl rfl ?_
  obtain ⟨a2, e3, t4, hF⟩ := gI_inv hF
  refine xq_getI dX12_isMethod_4 fl_SeldomOpsModel_148 xk_11 e3 t4 rfl ?_
  refine xe_iconst (v := 1) dX12_isMethod_7 (by decide) ?_
  refine xe_isub dX12_isMethod_8 ?_
  refine xe_i2l dX12_isMethod_9 ?_
  obtain ⟨v5, h6, o7, hF⟩ := cl_inv hF
  refine xz (xq_callS (As := [.long _, .long _, .long _]) (rest := []) dX12_isMethod_10 mk_X12_in ⟨tw_1174, tw_1175⟩ (FX12_in_ok o7) xPZ_q (by decide) (by decide) rfl rfl ?_)
  obtain ⟨z8, hF⟩ := bz_inv hF
  exact xe_ireturn dX12_isMethod_13 (xPZ_ret z8 hF)
/-! SeldomOpsModel.change()V -/
def BX12_change_23 : Nat → Option Nat → Int32 → Hp → Option (Unit × Hp)
  | 0, _, _, _ => none
  | n + 1, x0, x1, h0 =>
    if (x1 : Int32) < 480 then
      gR h0 x0 11 24 fun v2 =>
      sZ h0 v2 x1 0 fun h6 =>
      BX12_change_23 n x0 (x1 + 1) h6
    else
      some ((), h0)
set_option maxRecDepth 100000 in
set_option maxHeartbeats 4000000 in
theorem BX12_change_23_ok {G : xG} {l : Launch} : ∀ (n : Nat) {x0 : Option Nat} {x1 : Int32} {h0 h1 : Hp} {r : Unit} (hF : BX12_change_23 n x0 x1 h0 = some (r, h1)), xv G l mX12_change 1 0 0 23 [(0, false, va_rf x0), (1, false, .int x1)] [] h0 (xP mkV r h1) := by
  intro n
  induction n with
  | zero => intro x0 x1 h0 h1 r hF; cases hF
  | succ n ih =>
    intro x0 x1 h0 h1 r hF
    unfold BX12_change_23 at hF
    refine xe_iload_n dX12_change_23 rfl rfl ?_
    refine xe_sipush (v := 480) dX12_change_24 (by decide) ?_
    refine xe_icmp_ge (tgt := 43) dX12_change_27 (by decide) (fun c1 => ?_) (fun c1 => ?_)
    · replace hF := if_p c1 hF
      refine xe_aload_n dX12_change_30 rfl rfl ?_
      obtain ⟨a3, e4, t5, hF⟩ := gR_inv hF
      refine xq_getR dX12_change_31 fl_SeldomOpsModel_75 xk_11 e4 t5 rfl ?_
      refine xe_iload_n dX12_change_34 rfl rfl ?_
      refine xe_iconst (v := 0) dX12_change_35 (by decide) ?_
      obtain ⟨a7, n8, e9, t10, b11, z12, hF⟩ := sZ_inv hF
      refine xq_zast dX12_change_36 e9 t10 b11 z12 ?_
      refine xe_iinc (v := _ + 1) dX12_change_37 rfl rfl (by decide) ?_
      refine xe_goto (tgt := 23) dX12_change_40 (by decide) ?_
      exact xv.lv (ih hF) (xsub_cons rfl (xsub_cons rfl xsub_nil))
    · replace hF := if_n c1 hF
      exact xe_return dX12_change_43 (xP_ret (mk := mkV) hF)
def BX12_change_2 : Nat → Option Nat → Int32 → Hp → Option (Unit × Hp)
  | 0, _, _, _ => none
  | n + 1, x0, x1, h0 =>
    if (x1 : Int32) < 8 then
      gR h0 x0 11 14 fun v2 =>
      sZ h0 v2 x1 0 fun h6 =>
      BX12_change_2 n x0 (x1 + 1) h6
    else
      BX12_change_23 100000 x0 0 h0
set_option maxRecDepth 100000 in
set_option maxHeartbeats 4000000 in
theorem BX12_change_2_ok {G : xG} {l : Launch} : ∀ (n : Nat) {x0 : Option Nat} {x1 : Int32} {h0 h1 : Hp} {r : Unit} (hF : BX12_change_2 n x0 x1 h0 = some (r, h1)), xv G l mX12_change 1 0 0 2 [(0, false, va_rf x0), (1, false, .int x1)] [] h0 (xP mkV r h1) := by
  intro n
  induction n with
  | zero => intro x0 x1 h0 h1 r hF; cases hF
  | succ n ih =>
    intro x0 x1 h0 h1 r hF
    unfold BX12_change_2 at hF
    refine xe_iload_n dX12_change_2 rfl rfl ?_
    refine xe_bipush (v := 8) dX12_change_3 (by decide) ?_
    refine xe_icmp_ge (tgt := 21) dX12_change_5 (by decide) (fun c1 => ?_) (fun c1 => ?_)
    · replace hF := if_p c1 hF
      refine xe_aload_n dX12_change_8 rfl rfl ?_
      obtain ⟨a3, e4, t5, hF⟩ := gR_inv hF
      refine xq_getR dX12_change_9 fl_SeldomOpsModel_49 xk_11 e4 t5 rfl ?_
      refine xe_iload_n dX12_change_12 rfl rfl ?_
      refine xe_iconst (v := 0) dX12_change_13 (by decide) ?_
      obtain ⟨a7, n8, e9, t10, b11, z12, hF⟩ := sZ_inv hF
      refine xq_zast dX12_change_14 e9 t10 b11 z12 ?_
      refine xe_iinc (v := _ + 1) dX12_change_15 rfl rfl (by decide) ?_
      refine xe_goto (tgt := 2) dX12_change_18 (by decide) ?_
      exact xv.lv (ih hF) (xsub_cons rfl (xsub_cons rfl xsub_nil))
    · replace hF := if_n c1 hF
      refine xe_iconst (v := 0) dX12_change_21 (by decide) ?_
      refine xe_istore_n dX12_change_22 rfl (by decide) ?_
      exact xv.lv (BX12_change_23_ok _ hF) (xsub_cons rfl (xsub_cons rfl xsub_nil))
def FX12_change (p0 : Option Nat) (h0 : Hp) : Option (Unit × Hp) :=
  BX12_change_2 100000 p0 0 h0
set_option maxRecDepth 100000 in
set_option maxHeartbeats 4000000 in
theorem FX12_change_ok {G : xG} {l : Launch} {p0 : Option Nat} {h0 h1 : Hp} {r : Unit} (hF : FX12_change p0 h0 = some (r, h1)) : xc G l mX12_change 1 0 0 [va_rf p0] h0 (xP mkV r h1) := by
  refine xo_V [.inr (.inr _)] (by decide) (Nat.le_of_ble_eq_true rfl) rfl ?_
  show xv _ _ _ _ _ _ _ [(0, false, va_rf p0)] _ _ _
  unfold FX12_change at hF
  refine xe_iconst (v := 0) dX12_change_0 (by decide) ?_
  refine xe_istore_n dX12_change_1 rfl (by decide) ?_
  exact xv.lv (BX12_change_2_ok _ hF) (xsub_cons rfl (xsub_cons rfl xsub_nil))
/-! SeldomOpsModel.alter(IIIII)I -/
def FX12_alter (p0 : Option Nat) (p1 : Int32) (p2 : Int32) (p3 : Int32) (p4 : Int32) (p5 : Int32) (h0 : Hp) : Option (Int32 × Hp) :=
  rcv h0 p0 11 <|
  cl (FX12_isMethod p0 p1 h0) fun v1 h2 =>
  if (v1 : Int32) = 0 then
    some ((-2), h2)
  else
    gR h2 p0 11 5 fun v8 =>
    aI h2 v8 .int p1 fun v12 =>
    cl (FX12_in (Int32.toInt64 p2) 0 (Int32.toInt64 (v12 - 1)) h2) fun v18 h19 =>
    if (v18 : Int32) = 0 then
      some ((-2), h19)
    else
      cl (FX12_in (Int32.toInt64 p3) 0 35 h19) fun v22 h23 =>
      if (v22 : Int32) = 0 then
        some ((-2), h23)
      else
        rcv h23 p0 11 <|
        cl (FX12_change p0 h23) fun v26 h27 =>
        gR h27 p0 11 6 fun v32 =>
        sI h27 v32 ((60 * p1) + p2) p3 fun h36 =>
        gR h36 p0 11 7 fun v43 =>
        sI h36 v43 ((60 * p1) + p2) p4 fun h47 =>
        gR h47 p0 11 8 fun v54 =>
        sI h47 v54 ((60 * p1) + p2) p5 fun h58 =>
        some (p2, h58)
set_option maxRecDepth 100000 in
set_option maxHeartbeats 4000000 in
theorem FX12_alter_ok {G : xG} {l : Launch} {p0 : Option Nat} {p1 : Int32} {p2 : Int32} {p3 : Int32} {p4 : Int32} {p5 : Int32} {h0 h1 : Hp} {r : Int32} (hF : FX12_alter p0 p1 p2 p3 p4 p5 h0 = some (r, h1)) : xc G l mX12_alter 3 0 0 [va_rf p0, .int p1, .int p2, .int p3, .int p4, .int p5] h0 (xP mkI r h1) := by
  refine xo_I [.inr (.inr _), .inl _, .inl _, .inl _, .inl _, .inl _] (by decide) (Nat.le_of_ble_eq_true rfl) rfl ?_
  show xv _ _ _ _ _ _ _ [(0, false, va_rf p0), (1, false, .int p1), (2, false, .int p2), (3, false, .int p3), (4, false, .int p4), (5, false, .int p5)] _ _ _
  unfold FX12_alter at hF
  refine xe_aload_n dX12_alter_0 rfl rfl ?_
  refine xe_iload_n dX12_alter_1 rfl rfl ?_
  obtain ⟨a6, e4, t5, hF⟩ := rcv_inv hF
  obtain ⟨v1, h2, o3, hF⟩ := cl_inv hF
  refine xz (xq_callV (As := [.int _]) (rest := []) dX12_alter_2 mk_X12_isMethod ⟨tw_1185, tw_1187, ts_38⟩ (ci := 11) rfl e4 t5 (FX12_isMethod_ok o3) xPZ_q (by decide) (by decide) rfl rfl ?_)
  refine xe_if_eq (tgt := 38) dX12_alter_5 (by decide) (fun c7 => ?_) (fun c7 => ?_)
  · replace hF := if_p c7 hF
    refine xe_bipush (v := (-2)) dX12_alter_38 (by decide) ?_
    exact xe_ireturn dX12_alter_40 (xP_ret (mk := mkI) hF)
  · replace hF := if_n c7 hF
    refine xe_iload_n dX12_alter_8 rfl rfl ?_
    refine xe_i2l dX12_alter_9 ?_
    refine xe_lconst (v := 0) dX12_alter_10 (by decide) ?_
    refine xe_aload_n dX12_alter_11 rfl rfl ?_
    obtain ⟨a9, e10, t11, hF⟩ := gR_inv hF
    refine xq_getR dX12_alter_12 fl_SeldomOpsModel_22 xk_11 e10 t11 rfl ?_
    refine xe_iload_n dX12_alter_15 rfl rfl ?_
    obtain ⟨a13, n14, e15, t16, b17, hF⟩ := aI_inv hF
    refine xq_iald dX12_alter_16 e15 t16 b17 ?_
    refine xe_iconst (v := 1) dX12_alter_17 (by decide) ?_
    refine xe_isub dX12_alter_18 ?_
    refine xe_i2l dX12_alter_19 ?_
    obtain ⟨v18, h19, o20, hF⟩ := cl_inv hF
    refine xz (xq_callS (As := [.long _, .long _, .long _]) (rest := []) dX12_alter_20 mk_X12_in ⟨tw_1174, tw_1175⟩ (FX12_in_ok o20) xPZ_q (by decide) (by decide) rfl rfl ?_)
    refine xe_if_eq (tgt := 38) dX12_alter_23 (by decide) (fun c21 => ?_) (fun c21 => ?_)
    · replace hF := if_p c21 hF
      refine xe_bipush (v := (-2)) dX12_alter_38 (by decide) ?_
      exact xe_ireturn dX12_alter_40 (xP_ret (mk := mkI) hF)
    · replace hF := if_n c21 hF
      refine xe_iload_n dX12_alter_26 rfl rfl ?_
      refine xe_i2l dX12_alter_27 ?_
      refine xe_lconst (v := 0) dX12_alter_28 (by decide) ?_
      refine xe_ldc2 (v := 35) dX12_alter_29 tw_1197 ?_
      obtain ⟨v22, h23, o24, hF⟩ := cl_inv hF
      refine xz (xq_callS (As := [.long _, .long _, .long _]) (rest := []) dX12_alter_32 mk_X12_in ⟨tw_1174, tw_1175⟩ (FX12_in_ok o24) xPZ_q (by decide) (by decide) rfl rfl ?_)
      refine xe_if_ne (tgt := 41) dX12_alter_35 (by decide) (fun c25 => ?_) (fun c25 => ?_)
      · replace hF := if_p c25 hF
        refine xe_bipush (v := (-2)) dX12_alter_38 (by decide) ?_
        exact xe_ireturn dX12_alter_40 (xP_ret (mk := mkI) hF)
      · replace hF := if_n c25 hF
        refine xe_aload_n dX12_alter_41 rfl rfl ?_
        obtain ⟨a31, e29, t30, hF⟩ := rcv_inv hF
        obtain ⟨v26, h27, o28, hF⟩ := cl_inv hF
        refine xz (xq_callV (As := []) (rest := []) dX12_alter_42 mk_X12_change ⟨tw_1177, tw_1179, ts_37⟩ (ci := 11) rfl e29 t30 (FX12_change_ok o28) xP_q (by decide) (by decide) rfl rfl ?_)
        refine xe_aload_n dX12_alter_45 rfl rfl ?_
        obtain ⟨a33, e34, t35, hF⟩ := gR_inv hF
        refine xq_getR dX12_alter_46 fl_SeldomOpsModel_25 xk_11 e34 t35 rfl ?_
        refine xe_bipush (v := 60) dX12_alter_49 (by decide) ?_
        refine xe_iload_n dX12_alter_51 rfl rfl ?_
        refine xe_imul dX12_alter_52 ?_
        refine xe_iload_n dX12_alter_53 rfl rfl ?_
        refine xe_iadd dX12_alter_54 ?_
        refine xe_iload_n dX12_alter_55 rfl rfl ?_
        obtain ⟨a37, n38, e39, t40, b41, hF⟩ := sI_inv hF
        refine xq_iast dX12_alter_56 e39 t40 b41 ?_
        refine xe_aload_n dX12_alter_57 rfl rfl ?_
        obtain ⟨a44, e45, t46, hF⟩ := gR_inv hF
        refine xq_getR dX12_alter_58 fl_SeldomOpsModel_28 xk_11 e45 t46 rfl ?_
        refine xe_bipush (v := 60) dX12_alter_61 (by decide) ?_
        refine xe_iload_n dX12_alter_63 rfl rfl ?_
        refine xe_imul dX12_alter_64 ?_
        refine xe_iload_n dX12_alter_65 rfl rfl ?_
        refine xe_iadd dX12_alter_66 ?_
        refine xe_iload dX12_alter_67 rfl ?_
        obtain ⟨a48, n49, e50, t51, b52, hF⟩ := sI_inv hF
        refine xq_iast dX12_alter_69 e50 t51 b52 ?_
        refine xe_aload_n dX12_alter_70 rfl rfl ?_
        obtain ⟨a55, e56, t57, hF⟩ := gR_inv hF
        refine xq_getR dX12_alter_71 fl_SeldomOpsModel_31 xk_11 e56 t57 rfl ?_
        refine xe_bipush (v := 60) dX12_alter_74 (by decide) ?_
        refine xe_iload_n dX12_alter_76 rfl rfl ?_
        refine xe_imul dX12_alter_77 ?_
        refine xe_iload_n dX12_alter_78 rfl rfl ?_
        refine xe_iadd dX12_alter_79 ?_
        refine xe_iload dX12_alter_80 rfl ?_
        obtain ⟨a59, n60, e61, t62, b63, hF⟩ := sI_inv hF
        refine xq_iast dX12_alter_82 e61 t62 b63 ?_
        refine xe_iload_n dX12_alter_83 rfl rfl ?_
        exact xe_ireturn dX12_alter_84 (xP_ret (mk := mkI) hF)
/-! SeldomOpsModel.wordsOf(I)I -/
def FX12_wordsOf (p0 : Int32) (h0 : Hp) : Option (Int32 × Hp) :=
  if (p0 : Int32) = 1 then
    some (2, h0)
  else
    if (p0 : Int32) = 3 then
      some (2, h0)
    else
      some (1, h0)
set_option maxRecDepth 100000 in
set_option maxHeartbeats 4000000 in
theorem FX12_wordsOf_ok {G : xG} {l : Launch} {p0 : Int32} {h0 h1 : Hp} {r : Int32} (hF : FX12_wordsOf p0 h0 = some (r, h1)) : xc G l mX12_wordsOf 1 0 0 [.int p0] h0 (xP mkI r h1) := by
  refine xo_I [.inl _] (by decide) (Nat.le_of_ble_eq_true rfl) rfl ?_
  show xv _ _ _ _ _ _ _ [(0, false, .int p0)] _ _ _
  unfold FX12_wordsOf at hF
  refine xe_iload_n dX12_wordsOf_0 rfl rfl ?_
  refine xe_iconst (v := 1) dX12_wordsOf_1 (by decide) ?_
  refine xe_icmp_eq (tgt := 10) dX12_wordsOf_2 (by decide) (fun c1 => ?_) (fun c1 => ?_)
  · replace hF := if_p c1 hF
    refine xe_iconst (v := 2) dX12_wordsOf_10 (by decide) ?_
    refine xe_goto (tgt := 15) dX12_wordsOf_11 (by decide) ?_
    exact xe_ireturn dX12_wordsOf_15 (xP_ret (mk := mkI) hF)
  · replace hF := if_n c1 hF
    refine xe_iload_n dX12_wordsOf_5 rfl rfl ?_
    refine xe_iconst (v := 3) dX12_wordsOf_6 (by decide) ?_
    refine xe_icmp_ne (tgt := 14) dX12_wordsOf_7 (by decide) (fun c2 => ?_) (fun c2 => ?_)
    · replace hF := if_p c2 hF
      refine xe_iconst (v := 2) dX12_wordsOf_10 (by decide) ?_
      refine xe_goto (tgt := 15) dX12_wordsOf_11 (by decide) ?_
      exact xe_ireturn dX12_wordsOf_15 (xP_ret (mk := mkI) hF)
    · replace hF := if_n c2 hF
      refine xe_iconst (v := 1) dX12_wordsOf_14 (by decide) ?_
      exact xe_ireturn dX12_wordsOf_15 (xP_ret (mk := mkI) hF)
/-! SeldomOpsModel.argument(II)I -/
def FX12_argument (p0 : Option Nat) (p1 : Int32) (p2 : Int32) (h0 : Hp) : Option (Int32 × Hp) :=
  rcv h0 p0 11 <|
  cl (FX12_isMethod p0 p1 h0) fun v1 h2 =>
  if (v1 : Int32) = 0 then
    some ((-2), h2)
  else
    cl (FX12_in (Int32.toInt64 p2) 0 4 h2) fun v8 h9 =>
    if (v8 : Int32) = 0 then
      some ((-2), h9)
    else
      gR h9 p0 11 3 fun v12 =>
      aI h9 v12 .int p1 fun v16 =>
      cl (FX12_wordsOf p2 h9) fun v22 h23 =>
      if (8 : Int32) < (v16 + v22) then
        some ((-4), h23)
      else
        rcv h23 p0 11 <|
        cl (FX12_change p0 h23) fun v26 h27 =>
        gR h27 p0 11 4 fun v32 =>
        gR h27 p0 11 2 fun v36 =>
        aI h27 v36 .int p1 fun v40 =>
        sI h27 v32 ((8 * p1) + v40) p2 fun h46 =>
        gR h46 p0 11 2 fun v53 =>
        aI h46 v53 .int p1 fun v57 =>
        sI h46 v53 p1 (v57 + 1) fun h63 =>
        gR h63 p0 11 3 fun v70 =>
        aI h63 v70 .int p1 fun v74 =>
        cl (FX12_wordsOf p2 h63) fun v80 h81 =>
        sI h81 v70 p1 (v74 + v80) fun h83 =>
        gR h83 p0 11 3 fun v90 =>
        aI h83 v90 .int p1 fun v94 =>
        some (v94, h83)
set_option maxRecDepth 100000 in
set_option maxHeartbeats 4000000 in
theorem FX12_argument_ok {G : xG} {l : Launch} {p0 : Option Nat} {p1 : Int32} {p2 : Int32} {h0 h1 : Hp} {r : Int32} (hF : FX12_argument p0 p1 p2 h0 = some (r, h1)) : xc G l mX12_argument 3 0 0 [va_rf p0, .int p1, .int p2] h0 (xP mkI r h1) := by
  refine xo_I [.inr (.inr _), .inl _, .inl _] (by decide) (Nat.le_of_ble_eq_true rfl) rfl ?_
  show xv _ _ _ _ _ _ _ [(0, false, va_rf p0), (1, false, .int p1), (2, false, .int p2)] _ _ _
  unfold FX12_argument at hF
  refine xe_aload_n dX12_argument_0 rfl rfl ?_
  refine xe_iload_n dX12_argument_1 rfl rfl ?_
  obtain ⟨a6, e4, t5, hF⟩ := rcv_inv hF
  obtain ⟨v1, h2, o3, hF⟩ := cl_inv hF
  refine xz (xq_callV (As := [.int _]) (rest := []) dX12_argument_2 mk_X12_isMethod ⟨tw_1185, tw_1187, ts_38⟩ (ci := 11) rfl e4 t5 (FX12_isMethod_ok o3) xPZ_q (by decide) (by decide) rfl rfl ?_)
  refine xe_if_eq (tgt := 20) dX12_argument_5 (by decide) (fun c7 => ?_) (fun c7 => ?_)
  · replace hF := if_p c7 hF
    refine xe_bipush (v := (-2)) dX12_argument_20 (by decide) ?_
    exact xe_ireturn dX12_argument_22 (xP_ret (mk := mkI) hF)
  · replace hF := if_n c7 hF
    refine xe_iload_n dX12_argument_8 rfl rfl ?_
    refine xe_i2l dX12_argument_9 ?_
    refine xe_lconst (v := 0) dX12_argument_10 (by decide) ?_
    refine xe_ldc2 (v := 4) dX12_argument_11 tw_1189 ?_
    obtain ⟨v8, h9, o10, hF⟩ := cl_inv hF
    refine xz (xq_callS (As := [.long _, .long _, .long _]) (rest := []) dX12_argument_14 mk_X12_in ⟨tw_1174, tw_1175⟩ (FX12_in_ok o10) xPZ_q (by decide) (by decide) rfl rfl ?_)
    refine xe_if_ne (tgt := 23) dX12_argument_17 (by decide) (fun c11 => ?_) (fun c11 => ?_)
    · replace hF := if_p c11 hF
      refine xe_bipush (v := (-2)) dX12_argument_20 (by decide) ?_
      exact xe_ireturn dX12_argument_22 (xP_ret (mk := mkI) hF)
    · replace hF := if_n c11 hF
      refine xe_aload_n dX12_argument_23 rfl rfl ?_
      obtain ⟨a13, e14, t15, hF⟩ := gR_inv hF
      refine xq_getR dX12_argument_24 fl_SeldomOpsModel_16 xk_11 e14 t15 rfl ?_
      refine xe_iload_n dX12_argument_27 rfl rfl ?_
      obtain ⟨a17, n18, e19, t20, b21, hF⟩ := aI_inv hF
      refine xq_iald dX12_argument_28 e19 t20 b21 ?_
      refine xe_iload_n dX12_argument_29 rfl rfl ?_
      obtain ⟨v22, h23, o24, hF⟩ := cl_inv hF
      refine xz (xq_callS (As := [.int _]) (rest := [.int _]) dX12_argument_30 mk_X12_wordsOf ⟨tw_1190, tw_1191⟩ (FX12_wordsOf_ok o24) xP_q (by decide) (Nat.le_trans (cs_i cs_0) (by decide)) rfl rfl ?_)
      refine xe_iadd dX12_argument_33 ?_
      refine xe_bipush (v := 8) dX12_argument_34 (by decide) ?_
      refine xe_icmp_le (tgt := 42) dX12_argument_36 (by decide) (fun c25 => ?_) (fun c25 => ?_)
      · replace hF := if_p c25 hF
        refine xe_bipush (v := (-4)) dX12_argument_39 (by decide) ?_
        exact xe_ireturn dX12_argument_41 (xP_ret (mk := mkI) hF)
      · replace hF := if_n c25 hF
        refine xe_aload_n dX12_argument_42 rfl rfl ?_
        obtain ⟨a31, e29, t30, hF⟩ := rcv_inv hF
        obtain ⟨v26, h27, o28, hF⟩ := cl_inv hF
        refine xz (xq_callV (As := []) (rest := []) dX12_argument_43 mk_X12_change ⟨tw_1177, tw_1179, ts_37⟩ (ci := 11) rfl e29 t30 (FX12_change_ok o28) xP_q (by decide) (by decide) rfl rfl ?_)
        refine xe_aload_n dX12_argument_46 rfl rfl ?_
        obtain ⟨a33, e34, t35, hF⟩ := gR_inv hF
        refine xq_getR dX12_argument_47 fl_SeldomOpsModel_19 xk_11 e34 t35 rfl ?_
        refine xe_bipush (v := 8) dX12_argument_50 (by decide) ?_
        refine xe_iload_n dX12_argument_52 rfl rfl ?_
        refine xe_imul dX12_argument_53 ?_
        refine xe_aload_n dX12_argument_54 rfl rfl ?_
        obtain ⟨a37, e38, t39, hF⟩ := gR_inv hF
        refine xq_getR dX12_argument_55 fl_SeldomOpsModel_13 xk_11 e38 t39 rfl ?_
        refine xe_iload_n dX12_argument_58 rfl rfl ?_
        obtain ⟨a41, n42, e43, t44, b45, hF⟩ := aI_inv hF
        refine xq_iald dX12_argument_59 e43 t44 b45 ?_
        refine xe_iadd dX12_argument_60 ?_
        refine xe_iload_n dX12_argument_61 rfl rfl ?_
        obtain ⟨a47, n48, e49, t50, b51, hF⟩ := sI_inv hF
        refine xq_iast dX12_argument_62 e49 t50 b51 ?_
        refine xe_aload_n dX12_argument_63 rfl rfl ?_
        obtain ⟨a54, e55, t56, hF⟩ := gR_inv hF
        refine xq_getR dX12_argument_64 fl_SeldomOpsModel_13 xk_11 e55 t56 rfl ?_
        refine xe_iload_n dX12_argument_67 rfl rfl ?_
        refine xe_dup2 dX12_argument_68 rfl (va_rf_cat _) ?_
        obtain ⟨a58, n59, e60, t61, b62, hF⟩ := aI_inv hF
        refine xq_iald dX12_argument_69 e60 t61 b62 ?_
        refine xe_iconst (v := 1) dX12_argument_70 (by decide) ?_
        refine xe_iadd dX12_argument_71 ?_
        obtain ⟨a64, n65, e66, t67, b68, hF⟩ := sI_inv hF
        refine xq_iast dX12_argument_72 e66 t67 b68 ?_
        refine xe_aload_n dX12_argument_73 rfl rfl ?_
        obtain ⟨a71, e72, t73, hF⟩ := gR_inv hF
        refine xq_getR dX12_argument_74 fl_SeldomOpsModel_16 xk_11 e72 t73 rfl ?_
        refine xe_iload_n dX12_argument_77 rfl rfl ?_
        refine xe_dup2 dX12_argument_78 rfl (va_rf_cat _) ?_
        obtain ⟨a75, n76, e77, t78, b79, hF⟩ := aI_inv hF
        refine xq_iald dX12_argument_79 e77 t78 b79 ?_
        refine xe_iload_n dX12_argument_80 rfl rfl ?_
        obtain ⟨v80, h81, o82, hF⟩ := cl_inv hF
        refine xz (xq_callS (As := [.int _]) (rest := [.int _, .int _, va_rf _]) dX12_argument_81 mk_X12_wordsOf ⟨tw_1190, tw_1191⟩ (FX12_wordsOf_ok o82) xP_q (by decide) (Nat.le_trans (cs_i (cs_i (cs_r cs_0))) (by decide)) rfl rfl ?_)
        refine xe_iadd dX12_argument_84 ?_
        obtain ⟨a84, n85, e86, t87, b88, hF⟩ := sI_inv hF
        refine xq_iast dX12_argument_85 e86 t87 b88 ?_
        refine xe_aload_n dX12_argument_86 rfl rfl ?_
        obtain ⟨a91, e92, t93, hF⟩ := gR_inv hF
        refine xq_getR dX12_argument_87 fl_SeldomOpsModel_16 xk_11 e92 t93 rfl ?_
        refine xe_iload_n dX12_argument_90 rfl rfl ?_
        obtain ⟨a95, n96, e97, t98, b99, hF⟩ := aI_inv hF
        refine xq_iald dX12_argument_91 e97 t98 b99 ?_
        exact xe_ireturn dX12_argument_92 (xP_ret (mk := mkI) hF)
/-! SeldomOpsModel.moveWords(II)V -/
def BX12_moveWords_171 : Nat → Option Nat → Int32 → Int32 → Int32 → Int32 → Int32 → Int32 → Hp → Option (Unit × Hp)
  | 0, _, _, _, _, _, _, _, _ => none
  | n + 1, x0, x1, x3, x4, x5, x6, x7, h0 =>
    if (x7 : Int32) < x5 then
      gR h0 x0 11 51 fun v2 =>
      gR h0 x0 11 51 fun v6 =>
      aL h0 v6 ((x3 + x4) + x7) fun v10 =>
      sL h0 v2 ((((x3 + x4) - x5) - x6) + x7) v10 fun h16 =>
      BX12_moveWords_171 n x0 x1 x3 x4 x5 x6 (x7 + 1) h16
    else
      gR h0 x0 11 50 fun v23 =>
      aI h0 v23 .int x1 fun v27 =>
      sI h0 v23 x1 (v27 + x5) fun h33 =>
      some ((), h33)
set_option maxRecDepth 100000 in
set_option maxHeartbeats 4000000 in
theorem BX12_moveWords_171_ok {G : xG} {l : Launch} : ∀ (n : Nat) {x0 : Option Nat} {x1 : Int32} {x3 : Int32} {x4 : Int32} {x5 : Int32} {x6 : Int32} {x7 : Int32} {h0 h1 : Hp} {r : Unit} (hF : BX12_moveWords_171 n x0 x1 x3 x4 x5 x6 x7 h0 = some (r, h1)), xv G l mX12_moveWords 1 0 0 171 [(0, false, va_rf x0), (1, false, .int x1), (3, false, .int x3), (4, false, .int x4), (5, false, .int x5), (6, false, .int x6), (7, false, .int x7)] [] h0 (xP mkV r h1) := by
  intro n
  induction n with
  | zero => intro x0 x1 x3 x4 x5 x6 x7 h0 h1 r hF; cases hF
  | succ n ih =>
    intro x0 x1 x3 x4 x5 x6 x7 h0 h1 r hF
    unfold BX12_moveWords_171 at hF
    refine xe_iload dX12_moveWords_171 rfl ?_
    refine xe_iload dX12_moveWords_173 rfl ?_
    refine xe_icmp_ge (tgt := 214) dX12_moveWords_175 (by decide) (fun c1 => ?_) (fun c1 => ?_)
    · replace hF := if_p c1 hF
      refine xe_aload_n dX12_moveWords_178 rfl rfl ?_
      obtain ⟨a3, e4, t5, hF⟩ := gR_inv hF
      refine xq_getR dX12_moveWords_179 fl_SeldomOpsModel_139 xk_11 e4 t5 rfl ?_
      refine xe_iload_n dX12_moveWords_182 rfl rfl ?_
      refine xe_iload dX12_moveWords_183 rfl ?_
      refine xe_iadd dX12_moveWords_185 ?_
      refine xe_iload dX12_moveWords_186 rfl ?_
      refine xe_isub dX12_moveWords_188 ?_
      refine xe_iload dX12_moveWords_189 rfl ?_
      refine xe_isub dX12_moveWords_191 ?_
      refine xe_iload dX12_moveWords_192 rfl ?_
      refine xe_iadd dX12_moveWords_194 ?_
      refine xe_aload_n dX12_moveWords_195 rfl rfl ?_
      obtain ⟨a7, e8, t9, hF⟩ := gR_inv hF
      refine xq_getR dX12_moveWords_196 fl_SeldomOpsModel_139 xk_11 e8 t9 rfl ?_
      refine xe_iload_n dX12_moveWords_199 rfl rfl ?_
      refine xe_iload dX12_moveWords_200 rfl ?_
      refine xe_iadd dX12_moveWords_202 ?_
      refine xe_iload dX12_moveWords_203 rfl ?_
      refine xe_iadd dX12_moveWords_205 ?_
      obtain ⟨a11, n12, e13, t14, b15, hF⟩ := aL_inv hF
      refine xq_lald dX12_moveWords_206 e13 t14 b15 ?_
      obtain ⟨a17, n18, e19, t20, b21, hF⟩ := sL_inv hF
      refine xq_last dX12_moveWords_207 e19 t20 b21 ?_
      refine xe_iinc (v := _ + 1) dX12_moveWords_208 rfl rfl (by decide) ?_
      refine xe_goto (tgt := 171) dX12_moveWords_211 (by decide) ?_
      exact xv.lv (ih hF) (xsub_cons rfl (xsub_cons rfl (xsub_cons rfl (xsub_cons rfl (xsub_cons rfl (xsub_cons rfl (xsub_cons rfl xsub_nil)))))))
    · replace hF := if_n c1 hF
      refine xe_aload_n dX12_moveWords_214 rfl rfl ?_
      obtain ⟨a24, e25, t26, hF⟩ := gR_inv hF
      refine xq_getR dX12_moveWords_215 fl_SeldomOpsModel_136 xk_11 e25 t26 rfl ?_
      refine xe_iload_n dX12_moveWords_218 rfl rfl ?_
      refine xe_dup2 dX12_moveWords_219 rfl (va_rf_cat _) ?_
      obtain ⟨a28, n29, e30, t31, b32, hF⟩ := aI_inv hF
      refine xq_iald dX12_moveWords_220 e30 t31 b32 ?_
      refine xe_iload dX12_moveWords_221 rfl ?_
      refine xe_iadd dX12_moveWords_223 ?_
      obtain ⟨a34, n35, e36, t37, b38, hF⟩ := sI_inv hF
      refine xq_iast dX12_moveWords_224 e36 t37 b38 ?_
      exact xe_return dX12_moveWords_225 (xP_ret (mk := mkV) hF)
def BX12_moveWords_118 : Nat → Option Nat → Int32 → Int32 → Int32 → Int32 → Int32 → Int32 → Hp → Option (Unit × Hp)
  | 0, _, _, _, _, _, _, _, _ => none
  | n + 1, x0, x1, x3, x4, x5, x6, x7, h0 =>
    if (x7 : Int32) < 0 then
      BX12_moveWords_171 100000 x0 x1 x3 x4 x5 x6 0 h0
    else
      gR h0 x0 11 51 fun v2 =>
      gR h0 x0 11 51 fun v6 =>
      aL h0 v6 ((((x3 + x4) - x5) - x6) + x7) fun v10 =>
      sL h0 v2 (((((x3 + x4) - x5) - x6) + x7) + x5) v10 fun h16 =>
      BX12_moveWords_118 n x0 x1 x3 x4 x5 x6 (x7 + (-1)) h16
set_option maxRecDepth 100000 in
set_option maxHeartbeats 4000000 in
theorem BX12_moveWords_118_ok {G : xG} {l : Launch} : ∀ (n : Nat) {x0 : Option Nat} {x1 : Int32} {x3 : Int32} {x4 : Int32} {x5 : Int32} {x6 : Int32} {x7 : Int32} {h0 h1 : Hp} {r : Unit} (hF : BX12_moveWords_118 n x0 x1 x3 x4 x5 x6 x7 h0 = some (r, h1)), xv G l mX12_moveWords 1 0 0 118 [(0, false, va_rf x0), (1, false, .int x1), (3, false, .int x3), (4, false, .int x4), (5, false, .int x5), (6, false, .int x6), (7, false, .int x7)] [] h0 (xP mkV r h1) := by
  intro n
  induction n with
  | zero => intro x0 x1 x3 x4 x5 x6 x7 h0 h1 r hF; cases hF
  | succ n ih =>
    intro x0 x1 x3 x4 x5 x6 x7 h0 h1 r hF
    unfold BX12_moveWords_118 at hF
    refine xe_iload dX12_moveWords_118 rfl ?_
    refine xe_if_lt (tgt := 168) dX12_moveWords_120 (by decide) (fun c1 => ?_) (fun c1 => ?_)
    · replace hF := if_p c1 hF
      refine xe_iconst (v := 0) dX12_moveWords_168 (by decide) ?_
      refine xe_istore dX12_moveWords_169 (by decide) ?_
      exact xv.lv (BX12_moveWords_171_ok _ hF) (xsub_cons rfl (xsub_cons rfl (xsub_cons rfl (xsub_cons rfl (xsub_cons rfl (xsub_cons rfl (xsub_cons rfl xsub_nil)))))))
    · replace hF := if_n c1 hF
      refine xe_aload_n dX12_moveWords_123 rfl rfl ?_
      obtain ⟨a3, e4, t5, hF⟩ := gR_inv hF
      refine xq_getR dX12_moveWords_124 fl_SeldomOpsModel_139 xk_11 e4 t5 rfl ?_
      refine xe_iload_n dX12_moveWords_127 rfl rfl ?_
      refine xe_iload dX12_moveWords_128 rfl ?_
      refine xe_iadd dX12_moveWords_130 ?_
      refine xe_iload dX12_moveWords_131 rfl ?_
      refine xe_isub dX12_moveWords_133 ?_
      refine xe_iload dX12_moveWords_134 rfl ?_
      refine xe_isub dX12_moveWords_136 ?_
      refine xe_iload dX12_moveWords_137 rfl ?_
      refine xe_iadd dX12_moveWords_139 ?_
      refine xe_iload dX12_moveWords_140 rfl ?_
      refine xe_iadd dX12_moveWords_142 ?_
      refine xe_aload_n dX12_moveWords_143 rfl rfl ?_
      obtain ⟨a7, e8, t9, hF⟩ := gR_inv hF
      refine xq_getR dX12_moveWords_144 fl_SeldomOpsModel_139 xk_11 e8 t9 rfl ?_
      refine xe_iload_n dX12_moveWords_147 rfl rfl ?_
      refine xe_iload dX12_moveWords_148 rfl ?_
      refine xe_iadd dX12_moveWords_150 ?_
      refine xe_iload dX12_moveWords_151 rfl ?_
      refine xe_isub dX12_moveWords_153 ?_
      refine xe_iload dX12_moveWords_154 rfl ?_
      refine xe_isub dX12_moveWords_156 ?_
      refine xe_iload dX12_moveWords_157 rfl ?_
      refine xe_iadd dX12_moveWords_159 ?_
      obtain ⟨a11, n12, e13, t14, b15, hF⟩ := aL_inv hF
      refine xq_lald dX12_moveWords_160 e13 t14 b15 ?_
      obtain ⟨a17, n18, e19, t20, b21, hF⟩ := sL_inv hF
      refine xq_last dX12_moveWords_161 e19 t20 b21 ?_
      refine xe_iinc (v := _ + (-1)) dX12_moveWords_162 rfl rfl (by decide) ?_
      refine xe_goto (tgt := 118) dX12_moveWords_165 (by decide) ?_
      exact xv.lv (ih hF) (xsub_cons rfl (xsub_cons rfl (xsub_cons rfl (xsub_cons rfl (xsub_cons rfl (xsub_cons rfl (xsub_cons rfl xsub_nil)))))))
def BX12_moveWords_99 (x0 : Option Nat) (x1 : Int32) (x2 : Int32) (x3 : Int32) (x4 : Int32) (s0 : Int32) (h0 : Hp) : Option (Unit × Hp) :=
  BX12_moveWords_118 100000 x0 x1 x3 x4 s0 ((x2 - 10) - (x2 - 10) / 3 * 3) ((s0 + ((x2 - 10) - (x2 - 10) / 3 * 3)) - 1) h0
set_option maxRecDepth 100000 in
set_option maxHeartbeats 4000000 in
theorem BX12_moveWords_99_ok {G : xG} {l : Launch} {x0 : Option Nat} {x1 : Int32} {x2 : Int32} {x3 : Int32} {x4 : Int32} {s0 : Int32} {h0 h1 : Hp} {r : Unit} (hF : BX12_moveWords_99 x0 x1 x2 x3 x4 s0 h0 = some (r, h1)) : xv G l mX12_moveWords 1 0 0 99 [(0, false, va_rf x0), (1, false, .int x1), (2, false, .int x2), (3, false, .int x3), (4, false, .int x4)] [.int s0] h0 (xP mkV r h1) := by
  unfold BX12_moveWords_99 at hF
  refine xe_istore dX12_moveWords_99 (by decide) ?_
  refine xe_iload_n dX12_moveWords_101 rfl rfl ?_
  refine xe_bipush (v := 10) dX12_moveWords_102 (by decide) ?_
  refine xe_isub dX12_moveWords_104 ?_
  refine xe_iconst (v := 3) dX12_moveWords_105 (by decide) ?_
  refine xe_irem dX12_moveWords_106 (by decide) ?_
  refine xe_istore dX12_moveWords_107 (by decide) ?_
  refine xe_iload dX12_moveWords_109 rfl ?_
  refine xe_iload dX12_moveWords_111 rfl ?_
  refine xe_iadd dX12_moveWords_113 ?_
  refine xe_iconst (v := 1) dX12_moveWords_114 (by decide) ?_
  refine xe_isub dX12_moveWords_115 ?_
  refine xe_istore dX12_moveWords_116 (by decide) ?_
  exact xv.lv (BX12_moveWords_118_ok _ hF) (xsub_cons rfl (xsub_cons rfl (xsub_cons rfl (xsub_cons rfl (xsub_cons rfl (xsub_cons rfl (xsub_cons rfl xsub_nil)))))))
def FX12_moveWords (p0 : Option Nat) (p1 : Int32) (p2 : Int32) (h0 : Hp) : Option (Unit × Hp) :=
  gR h0 p0 11 50 fun v1 =>
  aI h0 v1 .int p1 fun v5 =>
  if (p2 : Int32) < 10 then
    gR h0 p0 11 50 fun v12 =>
    aI h0 v12 .int p1 fun v16 =>
    sI h0 v12 p1 (v16 - (p2 - 7)) fun h22 =>
    some ((), h22)
  else
    if (p2 : Int32) = 16 then
      gR h0 p0 11 51 fun v30 =>
      aL h0 v30 (((32 * p1) + v5) - 1) fun v34 =>
      gR h0 p0 11 51 fun v40 =>
      gR h0 p0 11 51 fun v44 =>
      aL h0 v44 (((32 * p1) + v5) - 2) fun v48 =>
      sL h0 v40 (((32 * p1) + v5) - 1) v48 fun h54 =>
      gR h54 p0 11 51 fun v61 =>
      sL h54 v61 (((32 * p1) + v5) - 2) v34 fun h65 =>
      some ((), h65)
    else
      if (p2 : Int32) < 13 then
        BX12_moveWords_99 p0 p1 p2 (32 * p1) v5 1 h0
      else
        BX12_moveWords_99 p0 p1 p2 (32 * p1) v5 2 h0
set_option maxRecDepth 100000 in
set_option maxHeartbeats 4000000 in
theorem FX12_moveWords_ok {G : xG} {l : Launch} {p0 : Option Nat} {p1 : Int32} {p2 : Int32} {h0 h1 : Hp} {r : Unit} (hF : FX12_moveWords p0 p1 p2 h0 = some (r, h1)) : xc G l mX12_moveWords 1 0 0 [va_rf p0, .int p1, .int p2] h0 (xP mkV r h1) := by
  refine xo_V [.inr (.inr _), .inl _, .inl _] (by decide) (Nat.le_of_ble_eq_true rfl) rfl ?_
  show xv _ _ _ _ _ _ _ [(0, false, va_rf p0), (1, false, .int p1), (2, false, .int p2)] _ _ _
  unfold FX12_moveWords at hF
  refine xe_bipush (v := 32) dX12_moveWords_0 (by decide) ?_
  refine xe_iload_n dX12_moveWords_2 rfl rfl ?_
  refine xe_imul dX12_moveWords_3 ?_
  refine xe_istore_n dX12_moveWords_4 rfl (by decide) ?_
  refine xe_aload_n dX12_moveWords_5 rfl rfl ?_
  obtain ⟨a2, e3, t4, hF⟩ := gR_inv hF
  refine xq_getR dX12_moveWords_6 fl_SeldomOpsModel_136 xk_11 e3 t4 rfl ?_
  refine xe_iload_n dX12_moveWords_9 rfl rfl ?_
  obtain ⟨a6, n7, e8, t9, b10, hF⟩ := aI_inv hF
  refine xq_iald dX12_moveWords_10 e8 t9 b10 ?_
  refine xe_istore dX12_moveWords_11 (by decide) ?_
  refine xe_iload_n dX12_moveWords_13 rfl rfl ?_
  refine xe_bipush (v := 10) dX12_moveWords_14 (by decide) ?_
  refine xe_icmp_ge (tgt := 33) dX12_moveWords_16 (by decide) (fun c11 => ?_) (fun c11 => ?_)
  · replace hF := if_p c11 hF
    refine xe_aload_n dX12_moveWords_19 rfl rfl ?_
    obtain ⟨a13, e14, t15, hF⟩ := gR_inv hF
    refine xq_getR dX12_moveWords_20 fl_SeldomOpsModel_136 xk_11 e14 t15 rfl ?_
    refine xe_iload_n dX12_moveWords_23 rfl rfl ?_
    refine xe_dup2 dX12_moveWords_24 rfl (va_rf_cat _) ?_
    obtain ⟨a17, n18, e19, t20, b21, hF⟩ := aI_inv hF
    refine xq_iald dX12_moveWords_25 e19 t20 b21 ?_
    refine xe_iload_n dX12_moveWords_26 rfl rfl ?_
    refine xe_bipush (v := 7) dX12_moveWords_27 (by decide) ?_
    refine xe_isub dX12_moveWords_29 ?_
    refine xe_isub dX12_moveWords_30 ?_
    obtain ⟨a23, n24, e25, t26, b27, hF⟩ := sI_inv hF
    refine xq_iast dX12_moveWords_31 e25 t26 b27 ?_
    exact xe_return dX12_moveWords_32 (xP_ret (mk := mkV) hF)
  · replace hF := if_n c11 hF
    refine xe_iload_n dX12_moveWords_33 rfl rfl ?_
    refine xe_bipush (v := 16) dX12_moveWords_34 (by decide) ?_
    refine xe_icmp_ne (tgt := 88) dX12_moveWords_36 (by decide) (fun c29 => ?_) (fun c29 => ?_)
    · replace hF := if_p c29 hF
      refine xe_aload_n dX12_moveWords_39 rfl rfl ?_
      obtain ⟨a31, e32, t33, hF⟩ := gR_inv hF
      refine xq_getR dX12_moveWords_40 fl_SeldomOpsModel_139 xk_11 e32 t33 rfl ?_
      refine xe_iload_n dX12_moveWords_43 rfl rfl ?_
      refine xe_iload dX12_moveWords_44 rfl ?_
      refine xe_iadd dX12_moveWords_46 ?_
      refine xe_iconst (v := 1) dX12_moveWords_47 (by decide) ?_
      refine xe_isub dX12_moveWords_48 ?_
      obtain ⟨a35, n36, e37, t38, b39, hF⟩ := aL_inv hF
      refine xq_lald dX12_moveWords_49 e37 t38 b39 ?_
      refine xe_lstore dX12_moveWords_50 (by decide) ?_
      refine xe_aload_n dX12_moveWords_52 rfl rfl ?_
      obtain ⟨a41, e42, t43, hF⟩ := gR_inv hF
      refine xq_getR dX12_moveWords_53 fl_SeldomOpsModel_139 xk_11 e42 t43 rfl ?_
      refine xe_iload_n dX12_moveWords_56 rfl rfl ?_
      refine xe_iload dX12_moveWords_57 rfl ?_
      refine xe_iadd dX12_moveWords_59 ?_
      refine xe_iconst (v := 1) dX12_moveWords_60 (by decide) ?_
      refine xe_isub dX12_moveWords_61 ?_
      refine xe_aload_n dX12_moveWords_62 rfl rfl ?_
      obtain ⟨a45, e46, t47, hF⟩ := gR_inv hF
      refine xq_getR dX12_moveWords_63 fl_SeldomOpsModel_139 xk_11 e46 t47 rfl ?_
      refine xe_iload_n dX12_moveWords_66 rfl rfl ?_
      refine xe_iload dX12_moveWords_67 rfl ?_
      refine xe_iadd dX12_moveWords_69 ?_
      refine xe_iconst (v := 2) dX12_moveWords_70 (by decide) ?_
      refine xe_isub dX12_moveWords_71 ?_
      obtain ⟨a49, n50, e51, t52, b53, hF⟩ := aL_inv hF
      refine xq_lald dX12_moveWords_72 e51 t52 b53 ?_
      obtain ⟨a55, n56, e57, t58, b59, hF⟩ := sL_inv hF
      refine xq_last dX12_moveWords_73 e57 t58 b59 ?_
      refine xe_aload_n dX12_moveWords_74 rfl rfl ?_
      obtain ⟨a62, e63, t64, hF⟩ := gR_inv hF
      refine xq_getR dX12_moveWords_75 fl_SeldomOpsModel_139 xk_11 e63 t64 rfl ?_
      refine xe_iload_n dX12_moveWords_78 rfl rfl ?_
      refine xe_iload dX12_moveWords_79 rfl ?_
      refine xe_iadd dX12_moveWords_81 ?_
      refine xe_iconst (v := 2) dX12_moveWords_82 (by decide) ?_
      refine xe_isub dX12_moveWords_83 ?_
      refine xe_lload dX12_moveWords_84 rfl ?_
      obtain ⟨a66, n67, e68, t69, b70, hF⟩ := sL_inv hF
      refine xq_last dX12_moveWords_86 e68 t69 b70 ?_
      exact xe_return dX12_moveWords_87 (xP_ret (mk := mkV) hF)
    · replace hF := if_n c29 hF
      refine xe_iload_n dX12_moveWords_88 rfl rfl ?_
      refine xe_bipush (v := 13) dX12_moveWords_89 (by decide) ?_
      refine xe_icmp_ge (tgt := 98) dX12_moveWords_91 (by decide) (fun c72 => ?_) (fun c72 => ?_)
      · replace hF := if_p c72 hF
        refine xe_iconst (v := 1) dX12_moveWords_94 (by decide) ?_
        refine xe_goto (tgt := 99) dX12_moveWords_95 (by decide) ?_
        exact xv.lv (BX12_moveWords_99_ok hF) (xsub_cons rfl (xsub_cons rfl (xsub_cons rfl (xsub_cons rfl (xsub_cons rfl xsub_nil)))))
      · replace hF := if_n c72 hF
        refine xe_iconst (v := 2) dX12_moveWords_98 (by decide) ?_
        exact xv.lv (BX12_moveWords_99_ok hF) (xsub_cons rfl (xsub_cons rfl (xsub_cons rfl (xsub_cons rfl (xsub_cons rfl xsub_nil)))))
/-! SeldomOpsModel.take(II)J -/
def FX12_take (p0 : Option Nat) (p1 : Int32) (p2 : Int32) (h0 : Hp) : Option (Int64 × Hp) :=
  gR h0 p0 11 50 fun v1 =>
  aI h0 v1 .int p1 fun v5 =>
  cl (FX12_wordsOf p2 h0) fun v11 h12 =>
  sI h12 v1 p1 (v5 - v11) fun h14 =>
  gR h14 p0 11 51 fun v21 =>
  gR h14 p0 11 50 fun v25 =>
  aI h14 v25 .int p1 fun v29 =>
  aL h14 v21 ((32 * p1) + v29) fun v35 =>
  some (v35, h14)
set_option maxRecDepth 100000 in
set_option maxHeartbeats 4000000 in
theorem FX12_take_ok {G : xG} {l : Launch} {p0 : Option Nat} {p1 : Int32} {p2 : Int32} {h0 h1 : Hp} {r : Int64} (hF : FX12_take p0 p1 p2 h0 = some (r, h1)) : xc G l mX12_take 2 0 0 [va_rf p0, .int p1, .int p2] h0 (xP mkL r h1) := by
  refine xo_L [.inr (.inr _), .inl _, .inl _] (by decide) (Nat.le_of_ble_eq_true rfl) rfl ?_
  show xv _ _ _ _ _ _ _ [(0, false, va_rf p0), (1, false, .int p1), (2, false, .int p2)] _ _ _
  unfold FX12_take at hF
  refine xe_aload_n dX12_take_0 rfl rfl ?_
  obtain ⟨a2, e3, t4, hF⟩ := gR_inv hF
  refine xq_getR dX12_take_1 fl_SeldomOpsModel_136 xk_11 e3 t4 rfl ?_
  refine xe_iload_n dX12_take_4 rfl rfl ?_
  refine xe_dup2 dX12_take_5 rfl (va_rf_cat _) ?_
  obtain ⟨a6, n7, e8, t9, b10, hF⟩ := aI_inv hF
  refine xq_iald dX12_take_6 e8 t9 b10 ?_
  refine xe_iload_n dX12_take_7 rfl rfl ?_
  obtain ⟨v11, h12, o13, hF⟩ := cl_inv hF
  refine xz (xq_callS (As := [.int _]) (rest := [.int _, .int _, va_rf _]) dX12_take_8 mk_X12_wordsOf ⟨tw_1190, tw_1191⟩ (FX12_wordsOf_ok o13) xP_q (by decide) (Nat.le_trans (cs_i (cs_i (cs_r cs_0))) (by decide)) rfl rfl ?_)
  refine xe_isub dX12_take_11 ?_
  obtain ⟨a15, n16, e17, t18, b19, hF⟩ := sI_inv hF
  refine xq_iast dX12_take_12 e17 t18 b19 ?_
  refine xe_aload_n dX12_take_13 rfl rfl ?_
  obtain ⟨a22, e23, t24, hF⟩ := gR_inv hF
  refine xq_getR dX12_take_14 fl_SeldomOpsModel_139 xk_11 e23 t24 rfl ?_
  refine xe_bipush (v := 32) dX12_take_17 (by decide) ?_
  refine xe_iload_n dX12_take_19 rfl rfl ?_
  refine xe_imul dX12_take_20 ?_
  refine xe_aload_n dX12_take_21 rfl rfl ?_
  obtain ⟨a26, e27, t28, hF⟩ := gR_inv hF
  refine xq_getR dX12_take_22 fl_SeldomOpsModel_136 xk_11 e27 t28 rfl ?_
  refine xe_iload_n dX12_take_25 rfl rfl ?_
  obtain ⟨a30, n31, e32, t33, b34, hF⟩ := aI_inv hF
  refine xq_iald dX12_take_26 e32 t33 b34 ?_
  refine xe_iadd dX12_take_27 ?_
  obtain ⟨a36, n37, e38, t39, b40, hF⟩ := aL_inv hF
  refine xq_lald dX12_take_28 e38 t39 b40 ?_
  exact xe_lreturn dX12_take_29 (xP_ret (mk := mkL) hF)
/-! SeldomOpsModel.put(IIJ)V -/
def FX12_put (p0 : Option Nat) (p1 : Int32) (p2 : Int32) (p3 : Int64) (h0 : Hp) : Option (Unit × Hp) :=
  gR h0 p0 11 51 fun v1 =>
  gR h0 p0 11 50 fun v5 =>
  aI h0 v5 .int p1 fun v9 =>
  sL h0 v1 ((32 * p1) + v9) p3 fun h15 =>
  gR h15 p0 11 50 fun v22 =>
  aI h15 v22 .int p1 fun v26 =>
  cl (FX12_wordsOf p2 h15) fun v32 h33 =>
  sI h33 v22 p1 (v26 + v32) fun h35 =>
  some ((), h35)
set_option maxRecDepth 100000 in
set_option maxHeartbeats 4000000 in
theorem FX12_put_ok {G : xG} {l : Launch} {p0 : Option Nat} {p1 : Int32} {p2 : Int32} {p3 : Int64} {h0 h1 : Hp} {r : Unit} (hF : FX12_put p0 p1 p2 p3 h0 = some (r, h1)) : xc G l mX12_put 2 0 0 [va_rf p0, .int p1, .int p2, .long p3] h0 (xP mkV r h1) := by
  refine xo_V [.inr (.inr _), .inl _, .inl _, .inr (.inl _)] (by decide) (Nat.le_of_ble_eq_true rfl) rfl ?_
  show xv _ _ _ _ _ _ _ [(0, false, va_rf p0), (1, false, .int p1), (2, false, .int p2), (3, true, .long p3)] _ _ _
  unfold FX12_put at hF
  refine xe_aload_n dX12_put_0 rfl rfl ?_
  obtain ⟨a2, e3, t4, hF⟩ := gR_inv hF
  refine xq_getR dX12_put_1 fl_SeldomOpsModel_139 xk_11 e3 t4 rfl ?_
  refine xe_bipush (v := 32) dX12_put_4 (by decide) ?_
  refine xe_iload_n dX12_put_6 rfl rfl ?_
  refine xe_imul dX12_put_7 ?_
  refine xe_aload_n dX12_put_8 rfl rfl ?_
  obtain ⟨a6, e7, t8, hF⟩ := gR_inv hF
  refine xq_getR dX12_put_9 fl_SeldomOpsModel_136 xk_11 e7 t8 rfl ?_
  refine xe_iload_n dX12_put_12 rfl rfl ?_
  obtain ⟨a10, n11, e12, t13, b14, hF⟩ := aI_inv hF
  refine xq_iald dX12_put_13 e12 t13 b14 ?_
  refine xe_iadd dX12_put_14 ?_
  refine xe_lload_n dX12_put_15 rfl rfl ?_
  obtain ⟨a16, n17, e18, t19, b20, hF⟩ := sL_inv hF
  refine xq_last dX12_put_16 e18 t19 b20 ?_
  refine xe_aload_n dX12_put_17 rfl rfl ?_
  obtain ⟨a23, e24, t25, hF⟩ := gR_inv hF
  refine xq_getR dX12_put_18 fl_SeldomOpsModel_136 xk_11 e24 t25 rfl ?_
  refine xe_iload_n dX12_put_21 rfl rfl ?_
  refine xe_dup2 dX12_put_22 rfl (va_rf_cat _) ?_
  obtain ⟨a27, n28, e29, t30, b31, hF⟩ := aI_inv hF
  refine xq_iald dX12_put_23 e29 t30 b31 ?_
  refine xe_iload_n dX12_put_24 rfl rfl ?_
  obtain ⟨v32, h33, o34, hF⟩ := cl_inv hF
  refine xz (xq_callS (As := [.int _]) (rest := [.int _, .int _, va_rf _]) dX12_put_25 mk_X12_wordsOf ⟨tw_1190, tw_1191⟩ (FX12_wordsOf_ok o34) xP_q (by decide) (Nat.le_trans (cs_i (cs_i (cs_r cs_0))) (by decide)) rfl rfl ?_)
  refine xe_iadd dX12_put_28 ?_
  obtain ⟨a36, n37, e38, t39, b40, hF⟩ := sI_inv hF
  refine xq_iast dX12_put_29 e38 t39 b40 ?_
  exact xe_return dX12_put_30 (xP_ret (mk := mkV) hF)
