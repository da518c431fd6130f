/-! SeldomOpsModel.judge(I)I -/
def BX12_judge_154 : Nat → Option Nat → Int32 → Int32 → Hp → Option (Int32 × Hp)
  | 0, _, _, _, _ => none
  | n + 1, x0, x1, x3, h0 =>
    gR h0 x0 11 5 fun v1 =>
    aI h0 v1 .int x1 fun v5 =>
    if (x3 : Int32) < v5 then
      gR h0 x0 11 25 fun v12 =>
      aI h0 v12 .boolean x3 fun v16 =>
      if (v16 : Int32) = 0 then
        BX12_judge_154 n x0 x1 (x3 + 1) h0
      else
        gR h0 x0 11 25 fun v23 =>
        sZ h0 v23 x3 0 fun h27 =>
        rcv h27 x0 11 <|
        cl (FX12_done x0 x1 x3 h27) fun v34 h35 =>
        if (v34 : Int32) = 0 then
          BX12_judge_154 n x0 x1 0 h35
        else
          some (v34, h35)
    else
      gR h0 x0 11 14 fun v41 =>
      sZ h0 v41 x1 1 fun h45 =>
      some (0, h45)
set_option maxRecDepth 100000 in
set_option maxHeartbeats 4000000 in
theorem BX12_judge_154_ok {G : xG} {l : Launch} : ∀ (n : Nat) {x0 : Option Nat} {x1 : Int32} {x3 : Int32} {h0 h1 : Hp} {r : Int32} (hF : BX12_judge_154 n x0 x1 x3 h0 = some (r, h1)), xv G l mX12_judge 5 0 0 154 [(0, false, va_rf x0), (1, false, .int x1), (3, false, .int x3)] [] h0 (xP mkI r h1) := by
  intro n
  induction n with
  | zero => intro x0 x1 x3 h0 h1 r hF; cases hF
  | succ n ih =>
    intro x0 x1 x3 h0 h1 r hF
    unfold BX12_judge_154 at hF
    refine xe_iload_n dX12_judge_154 rfl rfl ?_
    refine xe_aload_n dX12_judge_155 rfl rfl ?_
    obtain ⟨a2, e3, t4, hF⟩ := gR_inv hF
    refine xq_getR dX12_judge_156 fl_SeldomOpsModel_22 xk_11 e3 t4 rfl ?_
    refine xe_iload_n dX12_judge_159 rfl rfl ?_
    obtain ⟨a6, n7, e8, t9, b10, hF⟩ := aI_inv hF
    refine xq_iald dX12_judge_160 e8 t9 b10 ?_
    refine xe_icmp_ge (tgt := 207) dX12_judge_161 (by decide) (fun c11 => ?_) (fun c11 => ?_)
    · replace hF := if_p c11 hF
      refine xe_aload_n dX12_judge_164 rfl rfl ?_
      obtain ⟨a13, e14, t15, hF⟩ := gR_inv hF
      refine xq_getR dX12_judge_165 fl_SeldomOpsModel_78 xk_11 e14 t15 rfl ?_
      refine xe_iload_n dX12_judge_168 rfl rfl ?_
      obtain ⟨a17, n18, e19, t20, b21, hF⟩ := aI_inv hF
      refine xq_zald dX12_judge_169 e19 t20 b21 ?_
      refine xe_if_eq (tgt := 201) dX12_judge_170 (by decide) (fun c22 => ?_) (fun c22 => ?_)
      · replace hF := if_p c22 hF
        refine xe_iinc (v := _ + 1) dX12_judge_201 rfl rfl (by decide) ?_
        refine xe_goto (tgt := 154) dX12_judge_204 (by decide) ?_
        exact xv.lv (ih hF) (xsub_cons rfl (xsub_cons rfl (xsub_cons rfl xsub_nil)))
      · replace hF := if_n c22 hF
        refine xe_aload_n dX12_judge_173 rfl rfl ?_
        obtain ⟨a24, e25, t26, hF⟩ := gR_inv hF
        refine xq_getR dX12_judge_174 fl_SeldomOpsModel_78 xk_11 e25 t26 rfl ?_
        refine xe_iload_n dX12_judge_177 rfl rfl ?_
        refine xe_iconst (v := 0) dX12_judge_178 (by decide) ?_
        obtain ⟨a28, n29, e30, t31, b32, z33, hF⟩ := sZ_inv hF
        refine xq_zast dX12_judge_179 e30 t31 b32 z33 ?_
        refine xe_aload_n dX12_judge_180 rfl rfl ?_
        refine xe_iload_n dX12_judge_181 rfl rfl ?_
        refine xe_iload_n dX12_judge_182 rfl rfl ?_
        obtain ⟨a39, e37, t38, hF⟩ := rcv_inv hF
        obtain ⟨v34, h35, o36, hF⟩ := cl_inv hF
        refine xz (xq_callV (As := [.int _, .int _]) (rest := []) dX12_judge_183 mk_X12_done ⟨tw_1243, tw_1245, ts_42⟩ (ci := 11) rfl e37 t38 (FX12_done_ok o36) xP_q (by decide) (by decide) rfl rfl ?_)
        refine xe_istore dX12_judge_186 (by decide) ?_
        refine xe_iload dX12_judge_188 rfl ?_
        refine xe_if_eq (tgt := 196) dX12_judge_190 (by decide) (fun c40 => ?_) (fun c40 => ?_)
        · replace hF := if_p c40 hF
          refine xe_iconst (v := 0) dX12_judge_196 (by decide) ?_
          refine xe_istore_n dX12_judge_197 rfl (by decide) ?_
          refine xe_goto (tgt := 154) dX12_judge_198 (by decide) ?_
          exact xv.lv (ih hF) (xsub_cons rfl (xsub_cons rfl (xsub_cons rfl xsub_nil)))
        · replace hF := if_n c40 hF
          refine xe_iload dX12_judge_193 rfl ?_
          exact xe_ireturn dX12_judge_195 (xP_ret (mk := mkI) hF)
    · replace hF := if_n c11 hF
      refine xe_aload_n dX12_judge_207 rfl rfl ?_
      obtain ⟨a42, e43, t44, hF⟩ := gR_inv hF
      refine xq_getR dX12_judge_208 fl_SeldomOpsModel_49 xk_11 e43 t44 rfl ?_
      refine xe_iload_n dX12_judge_211 rfl rfl ?_
      refine xe_iconst (v := 1) dX12_judge_212 (by decide) ?_
      obtain ⟨a46, n47, e48, t49, b50, z51, hF⟩ := sZ_inv hF
      refine xq_zast dX12_judge_213 e48 t49 b50 z51 ?_
      refine xe_iconst (v := 0) dX12_judge_214 (by decide) ?_
      exact xe_ireturn dX12_judge_215 (xP_ret (mk := mkI) hF)
def BX12_judge_98 : Nat → Option Nat → Int32 → Int32 → Int32 → Hp → Option (Int32 × Hp)
  | 0, _, _, _, _, _ => none
  | n + 1, x0, x1, x2, x3, h0 =>
    gR h0 x0 11 2 fun v1 =>
    aI h0 v1 .int x1 fun v5 =>
    if (x3 : Int32) < v5 then
      gR h0 x0 11 4 fun v12 =>
      aI h0 v12 .int ((8 * x1) + x3) fun v16 =>
      rcv h0 x0 11 <|
      cl (FX12_store x0 x2 v16 h0) fun v22 h23 =>
      gR h23 x0 11 4 fun v28 =>
      aI h23 v28 .int ((8 * x1) + x3) fun v32 =>
      cl (FX12_wordsOf v32 h23) fun v38 h39 =>
      BX12_judge_98 n x0 x1 (x2 + v38) (x3 + 1) h39
    else
      rcv h0 x0 11 <|
      cl (FX12_come x0 x1 0 h0) fun v41 h42 =>
      BX12_judge_154 100000 x0 x1 v41 h42
set_option maxRecDepth 100000 in
set_option maxHeartbeats 4000000 in
theorem BX12_judge_98_ok {G : xG} {l : Launch} : ∀ (n : Nat) {x0 : Option Nat} {x1 : Int32} {x2 : Int32} {x3 : Int32} {h0 h1 : Hp} {r : Int32} (hF : BX12_judge_98 n x0 x1 x2 x3 h0 = some (r, h1)), xv G l mX12_judge 5 0 0 98 [(0, false, va_rf x0), (1, false, .int x1), (2, false, .int x2), (3, false, .int x3)] [] h0 (xP mkI r h1) := by
  intro n
  induction n with
  | zero => intro x0 x1 x2 x3 h0 h1 r hF; cases hF
  | succ n ih =>
    intro x0 x1 x2 x3 h0 h1 r hF
    unfold BX12_judge_98 at hF
    refine xe_iload_n dX12_judge_98 rfl rfl ?_
    refine xe_aload_n dX12_judge_99 rfl rfl ?_
    obtain ⟨a2, e3, t4, hF⟩ := gR_inv hF
    refine xq_getR dX12_judge_100 fl_SeldomOpsModel_13 xk_11 e3 t4 rfl ?_
    refine xe_iload_n dX12_judge_103 rfl rfl ?_
    obtain ⟨a6, n7, e8, t9, b10, hF⟩ := aI_inv hF
    refine xq_iald dX12_judge_104 e8 t9 b10 ?_
    refine xe_icmp_ge (tgt := 147) dX12_judge_105 (by decide) (fun c11 => ?_) (fun c11 => ?_)
    · replace hF := if_p c11 hF
      refine xe_aload_n dX12_judge_108 rfl rfl ?_
      refine xe_iload_n dX12_judge_109 rfl rfl ?_
      refine xe_aload_n dX12_judge_110 rfl rfl ?_
      obtain ⟨a13, e14, t15, hF⟩ := gR_inv hF
      refine xq_getR dX12_judge_111 fl_SeldomOpsModel_19 xk_11 e14 t15 rfl ?_
      refine xe_bipush (v := 8) dX12_judge_114 (by decide) ?_
      refine xe_iload_n dX12_judge_116 rfl rfl ?_
      refine xe_imul dX12_judge_117 ?_
      refine xe_iload_n dX12_judge_118 rfl rfl ?_
      refine xe_iadd dX12_judge_119 ?_
      obtain ⟨a17, n18, e19, t20, b21, hF⟩ := aI_inv hF
      refine xq_iald dX12_judge_120 e19 t20 b21 ?_
      obtain ⟨a27, e25, t26, hF⟩ := rcv_inv hF
      obtain ⟨v22, h23, o24, hF⟩ := cl_inv hF
      refine xz (xq_callV (As := [.int _, .int _]) (rest := []) dX12_judge_121 mk_X12_store ⟨tw_1235, tw_1237, ts_40⟩ (ci := 11) rfl e25 t26 (FX12_store_ok o24) xP_q (by decide) (by decide) rfl rfl ?_)
      refine xe_iload_n dX12_judge_124 rfl rfl ?_
      refine xe_aload_n dX12_judge_125 rfl rfl ?_
      obtain ⟨a29, e30, t31, hF⟩ := gR_inv hF
      refine xq_getR dX12_judge_126 fl_SeldomOpsModel_19 xk_11 e30 t31 rfl ?_
      refine xe_bipush (v := 8) dX12_judge_129 (by decide) ?_
      refine xe_iload_n dX12_judge_131 rfl rfl ?_
      refine xe_imul dX12_judge_132 ?_
      refine xe_iload_n dX12_judge_133 rfl rfl ?_
      refine xe_iadd dX12_judge_134 ?_
      obtain ⟨a33, n34, e35, t36, b37, hF⟩ := aI_inv hF
      refine xq_iald dX12_judge_135 e35 t36 b37 ?_
      obtain ⟨v38, h39, o40, hF⟩ := cl_inv hF
      refine xz (xq_callS (As := [.int _]) (rest := [.int _]) dX12_judge_136 mk_X12_wordsOf ⟨tw_1190, tw_1191⟩ (FX12_wordsOf_ok o40) xP_q (by decide) (Nat.le_trans (cs_i cs_0) (by decide)) rfl rfl ?_)
      refine xe_iadd dX12_judge_139 ?_
      refine xe_istore_n dX12_judge_140 rfl (by decide) ?_
      refine xe_iinc (v := _ + 1) dX12_judge_141 rfl rfl (by decide) ?_
      refine xe_goto (tgt := 98) dX12_judge_144 (by decide) ?_
      exact xv.lv (ih hF) (xsub_cons rfl (xsub_cons rfl (xsub_cons rfl (xsub_cons rfl xsub_nil))))
    · replace hF := if_n c11 hF
      refine xe_aload_n dX12_judge_147 rfl rfl ?_
      refine xe_iload_n dX12_judge_148 rfl rfl ?_
      refine xe_iconst (v := 0) dX12_judge_149 (by decide) ?_
      obtain ⟨a46, e44, t45, hF⟩ := rcv_inv hF
      obtain ⟨v41, h42, o43, hF⟩ := cl_inv hF
      refine xz (xq_callV (As := [.int _, .int _]) (rest := []) dX12_judge_150 mk_X12_come ⟨tw_1239, tw_1241, ts_41⟩ (ci := 11) rfl e44 t45 (FX12_come_ok o43) xP_q (by decide) (by decide) rfl rfl ?_)
      refine xe_istore_n dX12_judge_153 rfl (by decide) ?_
      exact xv.lv (BX12_judge_154_ok _ hF) (xsub_cons rfl (xsub_cons rfl (xsub_cons rfl xsub_nil)))
def BX12_judge_75 : Nat → Option Nat → Int32 → Int32 → Hp → Option (Int32 × Hp)
  | 0, _, _, _, _ => none
  | n + 1, x0, x1, x2, h0 =>
    if (x2 : Int32) < 16 then
      gR h0 x0 11 31 fun v2 =>
      sI h0 v2 x2 5 fun h6 =>
      BX12_judge_75 n x0 x1 (x2 + 1) h6
    else
      BX12_judge_98 100000 x0 x1 0 0 h0
set_option maxRecDepth 100000 in
set_option maxHeartbeats 4000000 in
theorem BX12_judge_75_ok {G : xG} {l : Launch} : ∀ (n : Nat) {x0 : Option Nat} {x1 : Int32} {x2 : Int32} {h0 h1 : Hp} {r : Int32} (hF : BX12_judge_75 n x0 x1 x2 h0 = some (r, h1)), xv G l mX12_judge 5 0 0 75 [(0, false, va_rf x0), (1, false, .int x1), (2, false, .int x2)] [] h0 (xP mkI r h1) := by
  intro n
  induction n with
  | zero => intro x0 x1 x2 h0 h1 r hF; cases hF
  | succ n ih =>
    intro x0 x1 x2 h0 h1 r hF
    unfold BX12_judge_75 at hF
    refine xe_iload_n dX12_judge_75 rfl rfl ?_
    refine xe_bipush (v := 16) dX12_judge_76 (by decide) ?_
    refine xe_icmp_ge (tgt := 94) dX12_judge_78 (by decide) (fun c1 => ?_) (fun c1 => ?_)
    · replace hF := if_p c1 hF
      refine xe_aload_n dX12_judge_81 rfl rfl ?_
      obtain ⟨a3, e4, t5, hF⟩ := gR_inv hF
      refine xq_getR dX12_judge_82 fl_SeldomOpsModel_93 xk_11 e4 t5 rfl ?_
      refine xe_iload_n dX12_judge_85 rfl rfl ?_
      refine xe_iconst (v := 5) dX12_judge_86 (by decide) ?_
      obtain ⟨a7, n8, e9, t10, b11, hF⟩ := sI_inv hF
      refine xq_iast dX12_judge_87 e9 t10 b11 ?_
      refine xe_iinc (v := _ + 1) dX12_judge_88 rfl rfl (by decide) ?_
      refine xe_goto (tgt := 75) dX12_judge_91 (by decide) ?_
      exact xv.lv (ih hF) (xsub_cons rfl (xsub_cons rfl (xsub_cons rfl xsub_nil)))
    · replace hF := if_n c1 hF
      refine xe_iconst (v := 0) dX12_judge_94 (by decide) ?_
      refine xe_istore_n dX12_judge_95 rfl (by decide) ?_
      refine xe_iconst (v := 0) dX12_judge_96 (by decide) ?_
      refine xe_istore_n dX12_judge_97 rfl (by decide) ?_
      exact xv.lv (BX12_judge_98_ok _ hF) (xsub_cons rfl (xsub_cons rfl (xsub_cons rfl (xsub_cons rfl xsub_nil))))
def BX12_judge_20 : Nat → Option Nat → Int32 → Int32 → Hp → Option (Int32 × Hp)
  | 0, _, _, _, _ => none
  | n + 1, x0, x1, x2, h0 =>
    if (x2 : Int32) < 60 then
      gR h0 x0 11 24 fun v2 =>
      sZ h0 v2 ((60 * x1) + x2) 0 fun h6 =>
      gR h6 x0 11 25 fun v13 =>
      sZ h6 v13 x2 0 fun h17 =>
      BX12_judge_20 n x0 x1 (x2 + 1) h17
    else
      gR h0 x0 11 5 fun v24 =>
      aI h0 v24 .int x1 fun v28 =>
      if (v28 : Int32) = 0 then
        rcv h0 x0 11 <|
        cl (FX12_wrong x0 x1 0 1 h0) fun v35 h36 =>
        some (v35, h36)
      else
        pI h0 x0 11 29 0 fun h44 =>
        BX12_judge_75 100000 x0 x1 0 h44
set_option maxRecDepth 100000 in
set_option maxHeartbeats 4000000 in
theorem BX12_judge_20_ok {G : xG} {l : Launch} : ∀ (n : Nat) {x0 : Option Nat} {x1 : Int32} {x2 : Int32} {h0 h1 : Hp} {r : Int32} (hF : BX12_judge_20 n x0 x1 x2 h0 = some (r, h1)), xv G l mX12_judge 5 0 0 20 [(0, false, va_rf x0), (1, false, .int x1), (2, false, .int x2)] [] h0 (xP mkI r h1) := by
  intro n
  induction n with
  | zero => intro x0 x1 x2 h0 h1 r hF; cases hF
  | succ n ih =>
    intro x0 x1 x2 h0 h1 r hF
    unfold BX12_judge_20 at hF
    refine xe_iload_n dX12_judge_20 rfl rfl ?_
    refine xe_bipush (v := 60) dX12_judge_21 (by decide) ?_
    refine xe_icmp_ge (tgt := 51) dX12_judge_23 (by decide) (fun c1 => ?_) (fun c1 => ?_)
    · replace hF := if_p c1 hF
      refine xe_aload_n dX12_judge_26 rfl rfl ?_
      obtain ⟨a3, e4, t5, hF⟩ := gR_inv hF
      refine xq_getR dX12_judge_27 fl_SeldomOpsModel_75 xk_11 e4 t5 rfl ?_
      refine xe_bipush (v := 60) dX12_judge_30 (by decide) ?_
      refine xe_iload_n dX12_judge_32 rfl rfl ?_
      refine xe_imul dX12_judge_33 ?_
      refine xe_iload_n dX12_judge_34 rfl rfl ?_
      refine xe_iadd dX12_judge_35 ?_
      refine xe_iconst (v := 0) dX12_judge_36 (by decide) ?_
      obtain ⟨a7, n8, e9, t10, b11, z12, hF⟩ := sZ_inv hF
      refine xq_zast dX12_judge_37 e9 t10 b11 z12 ?_
      refine xe_aload_n dX12_judge_38 rfl rfl ?_
      obtain ⟨a14, e15, t16, hF⟩ := gR_inv hF
      refine xq_getR dX12_judge_39 fl_SeldomOpsModel_78 xk_11 e15 t16 rfl ?_
      refine xe_iload_n dX12_judge_42 rfl rfl ?_
      refine xe_iconst (v := 0) dX12_judge_43 (by decide) ?_
      obtain ⟨a18, n19, e20, t21, b22, z23, hF⟩ := sZ_inv hF
      refine xq_zast dX12_judge_44 e20 t21 b22 z23 ?_
      refine xe_iinc (v := _ + 1) dX12_judge_45 rfl rfl (by decide) ?_
      refine xe_goto (tgt := 20) dX12_judge_48 (by decide) ?_
      exact xv.lv (ih hF) (xsub_cons rfl (xsub_cons rfl (xsub_cons rfl xsub_nil)))
    · replace hF := if_n c1 hF
      refine xe_aload_n dX12_judge_51 rfl rfl ?_
      obtain ⟨a25, e26, t27, hF⟩ := gR_inv hF
      refine xq_getR dX12_judge_52 fl_SeldomOpsModel_22 xk_11 e26 t27 rfl ?_
      refine xe_iload_n dX12_judge_55 rfl rfl ?_
      obtain ⟨a29, n30, e31, t32, b33, hF⟩ := aI_inv hF
      refine xq_iald dX12_judge_56 e31 t32 b33 ?_
      refine xe_if_ne (tgt := 68) dX12_judge_57 (by decide) (fun c34 => ?_) (fun c34 => ?_)
      · replace hF := if_p c34 hF
        refine xe_aload_n dX12_judge_60 rfl rfl ?_
        refine xe_iload_n dX12_judge_61 rfl rfl ?_
        refine xe_iconst (v := 0) dX12_judge_62 (by decide) ?_
        refine xe_iconst (v := 1) dX12_judge_63 (by decide) ?_
        obtain ⟨a40, e38, t39, hF⟩ := rcv_inv hF
        obtain ⟨v35, h36, o37, hF⟩ := cl_inv hF
        refine xz (xq_callV (As := [.int _, .int _, .int _]) (rest := []) dX12_judge_64 mk_X12_wrong ⟨tw_1231, tw_1233, ts_39⟩ (ci := 11) rfl e38 t39 (FX12_wrong_ok o37) xP_q (by decide) (by decide) rfl rfl ?_)
        exact xe_ireturn dX12_judge_67 (xP_ret (mk := mkI) hF)
      · replace hF := if_n c34 hF
        refine xe_aload_n dX12_judge_68 rfl rfl ?_
        refine xe_iconst (v := 0) dX12_judge_69 (by decide) ?_
        obtain ⟨a41, e42, t43, hF⟩ := pI_inv hF
        refine xq_putI dX12_judge_70 fl_SeldomOpsModel_212 xk_11 (by decide) (fun z => by cases z) e42 t43 (Or.inl rfl) ?_
        refine xe_iconst (v := 0) dX12_judge_73 (by decide) ?_
        refine xe_istore_n dX12_judge_74 rfl (by decide) ?_
        exact xv.lv (BX12_judge_75_ok _ hF) (xsub_cons rfl (xsub_cons rfl (xsub_cons rfl xsub_nil)))
def FX12_judge (p0 : Option Nat) (p1 : Int32) (h0 : Hp) : Option (Int32 × Hp) :=
  rcv h0 p0 11 <|
  cl (FX12_isMethod p0 p1 h0) fun v1 h2 =>
  if (v1 : Int32) = 0 then
    some ((-2), h2)
  else
    gR h2 p0 11 14 fun v8 =>
    sZ h2 v8 p1 0 fun h12 =>
    BX12_judge_20 100000 p0 p1 0 h12
set_option maxRecDepth 100000 in
set_option maxHeartbeats 4000000 in
theorem FX12_judge_ok {G : xG} {l : Launch} {p0 : Option Nat} {p1 : Int32} {h0 h1 : Hp} {r : Int32} (hF : FX12_judge p0 p1 h0 = some (r, h1)) : xc G l mX12_judge 5 0 0 [va_rf p0, .int p1] h0 (xP mkI r h1) := by
  refine xo_I [.inr (.inr _), .inl _] (by decide) (Nat.le_of_ble_eq_true rfl) rfl ?_
  show xv _ _ _ _ _ _ _ [(0, false, va_rf p0), (1, false, .int p1)] _ _ _
  unfold FX12_judge at hF
  refine xe_aload_n dX12_judge_0 rfl rfl ?_
  refine xe_iload_n dX12_judge_1 rfl rfl ?_
  obtain ⟨a6, e4, t5, hF⟩ := rcv_inv hF
  obtain ⟨v1, h2, o3, hF⟩ := cl_inv hF
  refine xz (xq_callV (As := [.int _]) (rest := []) dX12_judge_2 mk_X12_isMethod ⟨tw_1185, tw_1187, ts_38⟩ (ci := 11) rfl e4 t5 (FX12_isMethod_ok o3) xPZ_q (by decide) (by decide) rfl rfl ?_)
  refine xe_if_ne (tgt := 11) dX12_judge_5 (by decide) (fun c7 => ?_) (fun c7 => ?_)
  · replace hF := if_p c7 hF
    refine xe_bipush (v := (-2)) dX12_judge_8 (by decide) ?_
    exact xe_ireturn dX12_judge_10 (xP_ret (mk := mkI) hF)
  · replace hF := if_n c7 hF
    refine xe_aload_n dX12_judge_11 rfl rfl ?_
    obtain ⟨a9, e10, t11, hF⟩ := gR_inv hF
    refine xq_getR dX12_judge_12 fl_SeldomOpsModel_49 xk_11 e10 t11 rfl ?_
    refine xe_iload_n dX12_judge_15 rfl rfl ?_
    refine xe_iconst (v := 0) dX12_judge_16 (by decide) ?_
    obtain ⟨a13, n14, e15, t16, b17, z18, hF⟩ := sZ_inv hF
    refine xq_zast dX12_judge_17 e15 t16 b17 z18 ?_
    refine xe_iconst (v := 0) dX12_judge_18 (by decide) ?_
    refine xe_istore_n dX12_judge_19 rfl (by decide) ?_
    exact xv.lv (BX12_judge_20_ok _ hF) (xsub_cons rfl (xsub_cons rfl (xsub_cons rfl xsub_nil)))
/-! SeldomOpsModel.method(I)I -/
def FX12_method (p0 : Option Nat) (p1 : Int32) (h0 : Hp) : Option (Int32 × Hp) :=
  cl (FX12_in (Int32.toInt64 p1) 0 5 h0) fun v1 h2 =>
  if (v1 : Int32) = 0 then
    some ((-2), h2)
  else
    gI h2 p0 11 0 fun v5 =>
    if (v5 : Int32) = 8 then
      some ((-4), h2)
    else
      rcv h2 p0 11 <|
      cl (FX12_change p0 h2) fun v10 h11 =>
      gR h11 p0 11 1 fun v16 =>
      gI h11 p0 11 0 fun v20 =>
      sI h11 v16 v20 p1 fun h24 =>
      gI h24 p0 11 0 fun v31 =>
      pI h24 p0 11 0 (v31 + 1) fun h38 =>
      gI h38 p0 11 0 fun v40 =>
      some ((v40 - 1), h38)
set_option maxRecDepth 100000 in
set_option maxHeartbeats 4000000 in
theorem FX12_method_ok {G : xG} {l : Launch} {p0 : Option Nat} {p1 : Int32} {h0 h1 : Hp} {r : Int32} (hF : FX12_method p0 p1 h0 = some (r, h1)) : xc G l mX12_method 2 0 0 [va_rf p0, .int p1] h0 (xP mkI r h1) := by
  refine xo_I [.inr (.inr _), .inl _] (by decide) (Nat.le_of_ble_eq_true rfl) rfl ?_
  show xv _ _ _ _ _ _ _ [(0, false, va_rf p0), (1, false, .int p1)] _ _ _
  unfold FX12_method at hF
  refine xe_iload_n dX12_method_0 rfl rfl ?_
  refine xe_i2l dX12_method_1 ?_
  refine xe_lconst (v := 0) dX12_method_2 (by decide) ?_
  refine xe_ldc2 (v := 5) dX12_method_3 tw_1173 ?_
  obtain ⟨v1, h2, o3, hF⟩ := cl_inv hF
  refine xz (xq_callS (As := [.long _, .long _, .long _]) (rest := []) dX12_method_6 mk_X12_in ⟨tw_1174, tw_1175⟩ (FX12_in_ok o3) xPZ_q (by decide) (by decide) rfl rfl ?_)
  refine xe_if_ne (tgt := 15) dX12_method_9 (by decide) (fun c4 => ?_) (fun c4 => ?_)
  · replace hF := if_p c4 hF
    refine xe_bipush (v := (-2)) dX12_method_12 (by decide) ?_
    exact xe_ireturn dX12_method_14 (xP_ret (mk := mkI) hF)
  · replace hF := if_n c4 hF
    refine xe_aload_n dX12_method_15 rfl rfl ?_
    obtain ⟨a6, e7, t8, hF⟩ := gI_inv hF
    refine xq_getI dX12_method_16 fl_SeldomOpsModel_148 xk_11 e7 t8 rfl ?_
    refine xe_bipush (v := 8) dX12_method_19 (by decide) ?_
    refine xe_icmp_ne (tgt := 27) dX12_method_21 (by decide) (fun c9 => ?_) (fun c9 => ?_)
    · replace hF := if_p c9 hF
      refine xe_bipush (v := (-4)) dX12_method_24 (by decide) ?_
      exact xe_ireturn dX12_method_26 (xP_ret (mk := mkI) hF)
    · replace hF := if_n c9 hF
      refine xe_aload_n dX12_method_27 rfl rfl ?_
      obtain ⟨a15, e13, t14, hF⟩ := rcv_inv hF
      obtain ⟨v10, h11, o12, hF⟩ := cl_inv hF
      refine xz (xq_callV (As := []) (rest := []) dX12_method_28 mk_X12_change ⟨tw_1177, tw_1179, ts_37⟩ (ci := 11) rfl e13 t14 (FX12_change_ok o12) xP_q (by decide) (by decide) rfl rfl ?_)
      refine xe_aload_n dX12_method_31 rfl rfl ?_
      obtain ⟨a17, e18, t19, hF⟩ := gR_inv hF
      refine xq_getR dX12_method_32 fl_SeldomOpsModel_7 xk_11 e18 t19 rfl ?_
      refine xe_aload_n dX12_method_35 rfl rfl ?_
      obtain ⟨a21, e22, t23, hF⟩ := gI_inv hF
      refine xq_getI dX12_method_36 fl_SeldomOpsModel_148 xk_11 e22 t23 rfl ?_
      refine xe_iload_n dX12_method_39 rfl rfl ?_
      obtain ⟨a25, n26, e27, t28, b29, hF⟩ := sI_inv hF
      refine xq_iast dX12_method_40 e27 t28 b29 ?_
      refine xe_aload_n dX12_method_41 rfl rfl ?_
      refine xe_dup dX12_method_42 (va_rf_cat _) ?_
      obtain ⟨a32, e33, t34, hF⟩ := gI_inv hF
      refine xq_getI dX12_method_43 fl_SeldomOpsModel_148 xk_11 e33 t34 rfl ?_
      refine xe_iconst (v := 1) dX12_method_46 (by decide) ?_
      refine xe_iadd dX12_method_47 ?_
      obtain ⟨a35, e36, t37, hF⟩ := pI_inv hF
      refine xq_putI dX12_method_48 fl_SeldomOpsModel_148 xk_11 (by decide) (fun z => by cases z) e36 t37 (Or.inl rfl) ?_
      refine xe_aload_n dX12_method_51 rfl rfl ?_
      obtain ⟨a41, e42, t43, hF⟩ := gI_inv hF
      refine xq_getI dX12_method_52 fl_SeldomOpsModel_148 xk_11 e42 t43 rfl ?_
      refine xe_iconst (v := 1) dX12_method_55 (by decide) ?_
      refine xe_isub dX12_method_56 ?_
      exact xe_ireturn dX12_method_57 (xP_ret (mk := mkI) hF)
/-! SeldomOpsModel.op(IIII)I -/
def FX12_op (p0 : Option Nat) (p1 : Int32) (p2 : Int32) (p3 : Int32) (p4 : Int32) (h0 : Hp) : Option (Int32 × Hp) :=
  rcv h0 p0 11 <|
  cl (FX12_isMethod p0 p1 h0) fun v1 h2 =>
  if (v1 : Int32) = 0 then
    some ((-2), h2)
  else
    cl (FX12_in (Int32.toInt64 p2) 0 35 h2) fun v8 h9 =>
    if (v8 : Int32) = 0 then
      some ((-2), h9)
    else
      gR h9 p0 11 5 fun v12 =>
      aI h9 v12 .int p1 fun v16 =>
      if (v16 : Int32) = 60 then
        some ((-4), h9)
      else
        gR h9 p0 11 5 fun v23 =>
        aI h9 v23 .int p1 fun v27 =>
        sI h9 v23 p1 (v27 + 1) fun h33 =>
        gR h33 p0 11 5 fun v40 =>
        aI h33 v40 .int p1 fun v44 =>
        rcv h33 p0 11 <|
        cl (FX12_alter p0 p1 (v44 - 1) p2 p3 p4 h33) fun v50 h51 =>
        some (v50, h51)
set_option maxRecDepth 100000 in
set_option maxHeartbeats 4000000 in
theorem FX12_op_ok {G : xG} {l : Launch} {p0 : Option Nat} {p1 : Int32} {p2 : Int32} {p3 : Int32} {p4 : Int32} {h0 h1 : Hp} {r : Int32} (hF : FX12_op p0 p1 p2 p3 p4 h0 = some (r, h1)) : xc G l mX12_op 4 0 0 [va_rf p0, .int p1, .int p2, .int p3, .int p4] h0 (xP mkI r h1) := by
  refine xo_I [.inr (.inr _), .inl _, .inl _, .inl _, .inl _] (by decide) (Nat.le_of_ble_eq_true rfl) rfl ?_
  show xv _ _ _ _ _ _ _ [(0, false, va_rf p0), (1, false, .int p1), (2, false, .int p2), (3, false, .int p3), (4, false, .int p4)] _ _ _
  unfold FX12_op at hF
  refine xe_aload_n dX12_op_0 rfl rfl ?_
  refine xe_iload_n dX12_op_1 rfl rfl ?_
  obtain ⟨a6, e4, t5, hF⟩ := rcv_inv hF
  obtain ⟨v1, h2, o3, hF⟩ := cl_inv hF
  refine xz (xq_callV (As := [.int _]) (rest := []) dX12_op_2 mk_X12_isMethod ⟨tw_1185, tw_1187, ts_38⟩ (ci := 11) rfl e4 t5 (FX12_isMethod_ok o3) xPZ_q (by decide) (by decide) rfl rfl ?_)
  refine xe_if_eq (tgt := 20) dX12_op_5 (by decide) (fun c7 => ?_) (fun c7 => ?_)
  · replace hF := if_p c7 hF
    refine xe_bipush (v := (-2)) dX12_op_20 (by decide) ?_
    exact xe_ireturn dX12_op_22 (xP_ret (mk := mkI) hF)
  · replace hF := if_n c7 hF
    refine xe_iload_n dX12_op_8 rfl rfl ?_
    refine xe_i2l dX12_op_9 ?_
    refine xe_lconst (v := 0) dX12_op_10 (by decide) ?_
    refine xe_ldc2 (v := 35) dX12_op_11 tw_1197 ?_
    obtain ⟨v8, h9, o10, hF⟩ := cl_inv hF
    refine xz (xq_callS (As := [.long _, .long _, .long _]) (rest := []) dX12_op_14 mk_X12_in ⟨tw_1174, tw_1175⟩ (FX12_in_ok o10) xPZ_q (by decide) (by decide) rfl rfl ?_)
    refine xe_if_ne (tgt := 23) dX12_op_17 (by decide) (fun c11 => ?_) (fun c11 => ?_)
    · replace hF := if_p c11 hF
      refine xe_bipush (v := (-2)) dX12_op_20 (by decide) ?_
      exact xe_ireturn dX12_op_22 (xP_ret (mk := mkI) hF)
    · replace hF := if_n c11 hF
      refine xe_aload_n dX12_op_23 rfl rfl ?_
      obtain ⟨a13, e14, t15, hF⟩ := gR_inv hF
      refine xq_getR dX12_op_24 fl_SeldomOpsModel_22 xk_11 e14 t15 rfl ?_
      refine xe_iload_n dX12_op_27 rfl rfl ?_
      obtain ⟨a17, n18, e19, t20, b21, hF⟩ := aI_inv hF
      refine xq_iald dX12_op_28 e19 t20 b21 ?_
      refine xe_bipush (v := 60) dX12_op_29 (by decide) ?_
      refine xe_icmp_ne (tgt := 37) dX12_op_31 (by decide) (fun c22 => ?_) (fun c22 => ?_)
      · replace hF := if_p c22 hF
        refine xe_bipush (v := (-4)) dX12_op_34 (by decide) ?_
        exact xe_ireturn dX12_op_36 (xP_ret (mk := mkI) hF)
      · replace hF := if_n c22 hF
        refine xe_aload_n dX12_op_37 rfl rfl ?_
        obtain ⟨a24, e25, t26, hF⟩ := gR_inv hF
        refine xq_getR dX12_op_38 fl_SeldomOpsModel_22 xk_11 e25 t26 rfl ?_
        refine xe_iload_n dX12_op_41 rfl rfl ?_
        refine xe_dup2 dX12_op_42 rfl (va_rf_cat _) ?_
        obtain ⟨a28, n29, e30, t31, b32, hF⟩ := aI_inv hF
        refine xq_iald dX12_op_43 e30 t31 b32 ?_
        refine xe_iconst (v := 1) dX12_op_44 (by decide) ?_
        refine xe_iadd dX12_op_45 ?_
        obtain ⟨a34, n35, e36, t37, b38, hF⟩ := sI_inv hF
        refine xq_iast dX12_op_46 e36 t37 b38 ?_
        refine xe_aload_n dX12_op_47 rfl rfl ?_
        refine xe_iload_n dX12_op_48 rfl rfl ?_
        refine xe_aload_n dX12_op_49 rfl rfl ?_
        obtain ⟨a41, e42, t43, hF⟩ := gR_inv hF
        refine xq_getR dX12_op_50 fl_SeldomOpsModel_22 xk_11 e42 t43 rfl ?_
        refine xe_iload_n dX12_op_53 rfl rfl ?_
        obtain ⟨a45, n46, e47, t48, b49, hF⟩ := aI_inv hF
        refine xq_iald dX12_op_54 e47 t48 b49 ?_
        refine xe_iconst (v := 1) dX12_op_55 (by decide) ?_
        refine xe_isub dX12_op_56 ?_
        refine xe_iload_n dX12_op_57 rfl rfl ?_
        refine xe_iload_n dX12_op_58 rfl rfl ?_
        refine xe_iload dX12_op_59 rfl ?_
        obtain ⟨a55, e53, t54, hF⟩ := rcv_inv hF
        obtain ⟨v50, h51, o52, hF⟩ := cl_inv hF
        refine xz (xq_callV (As := [.int _, .int _, .int _, .int _, .int _]) (rest := []) dX12_op_61 mk_X12_alter ⟨tw_1198, tw_1199, tw_1200⟩ (ci := 11) rfl e53 t54 (FX12_alter_ok o52) xP_q (by decide) (by decide) rfl rfl ?_)
        exact xe_ireturn dX12_op_64 (xP_ret (mk := mkI) hF)
/-! SeldomOpsModel.shape(III)I -/
def FX12_shape (p0 : Option Nat) (p1 : Int32) (p2 : Int32) (p3 : Int32) (h0 : Hp) : Option (Int32 × Hp) :=
  rcv h0 p0 11 <|
  cl (FX12_isMethod p0 p1 h0) fun v1 h2 =>
  if (v1 : Int32) = 0 then
    some ((-2), h2)
  else
    gR h2 p0 11 5 fun v8 =>
    aI h2 v8 .int p1 fun v12 =>
    cl (FX12_in (Int32.toInt64 p2) 0 (Int32.toInt64 (v12 - 1)) h2) fun v18 h19 =>
    if (v18 : Int32) = 0 then
      some ((-2), h19)
    else
      cl (FX12_in (Int32.toInt64 p3) (-17) 11 h19) fun v22 h23 =>
      if (v22 : Int32) = 0 then
        some ((-2), h23)
      else
        gR h23 p0 11 24 fun v26 =>
        aI h23 v26 .boolean ((60 * p1) + p2) fun v30 =>
        if (v30 : Int32) = 0 then
          some ((-1), h23)
        else
          if (p3 : Int32) < (-1) then
            gR h23 p0 11 28 fun v38 =>
            aI h23 v38 .int (((16 * ((60 * p1) + p2)) - 2) - p3) fun v42 =>
            some (v42, h23)
          else
            if (p3 : Int32) = (-1) then
              gR h23 p0 11 26 fun v49 =>
              aI h23 v49 .int ((60 * p1) + p2) fun v53 =>
              some (v53, h23)
            else
              gR h23 p0 11 26 fun v59 =>
              aI h23 v59 .int ((60 * p1) + p2) fun v63 =>
              if (p3 : Int32) < v63 then
                gR h23 p0 11 27 fun v70 =>
                aI h23 v70 .int ((12 * ((60 * p1) + p2)) + p3) fun v74 =>
                some (v74, h23)
              else
                some ((-1), h23)
set_option maxRecDepth 100000 in
set_option maxHeartbeats 4000000 in
theorem FX12_shape_ok {G : xG} {l : Launch} {p0 : Option Nat} {p1 : Int32} {p2 : Int32} {p3 : Int32} {h0 h1 : Hp} {r : Int32} (hF : FX12_shape p0 p1 p2 p3 h0 = some (r, h1)) : xc G l mX12_shape 3 0 0 [va_rf p0, .int p1, .int p2, .int p3] h0 (xP mkI r h1) := by
  refine xo_I [.inr (.inr _), .inl _, .inl _, .inl _] (by decide) (Nat.le_of_ble_eq_true rfl) rfl ?_
  show xv _ _ _ _ _ _ _ [(0, false, va_rf p0), (1, false, .int p1), (2, false, .int p2), (3, false, .int p3)] _ _ _
  unfold FX12_shape at hF
  refine xe_aload_n dX12_shape_0 rfl rfl ?_
  refine xe_iload_n dX12_shape_1 rfl rfl ?_
  obtain ⟨a6, e4, t5, hF⟩ := rcv_inv hF
  obtain ⟨v1, h2, o3, hF⟩ := cl_inv hF
  refine xz (xq_callV (As := [.int _]) (rest := []) dX12_shape_2 mk_X12_isMethod ⟨tw_1185, tw_1187, ts_38⟩ (ci := 11) rfl e4 t5 (FX12_isMethod_ok o3) xPZ_q (by decide) (by decide) rfl rfl ?_)
  refine xe_if_eq (tgt := 40) dX12_shape_5 (by decide) (fun c7 => ?_) (fun c7 => ?_)
  · replace hF := if_p c7 hF
    refine xe_bipush (v := (-2)) dX12_shape_40 (by decide) ?_
    exact xe_ireturn dX12_shape_42 (xP_ret (mk := mkI) hF)
  · replace hF := if_n c7 hF
    refine xe_iload_n dX12_shape_8 rfl rfl ?_
    refine xe_i2l dX12_shape_9 ?_
    refine xe_lconst (v := 0) dX12_shape_10 (by decide) ?_
    refine xe_aload_n dX12_shape_11 rfl rfl ?_
    obtain ⟨a9, e10, t11, hF⟩ := gR_inv hF
    refine xq_getR dX12_shape_12 fl_SeldomOpsModel_22 xk_11 e10 t11 rfl ?_
    refine xe_iload_n dX12_shape_15 rfl rfl ?_
    obtain ⟨a13, n14, e15, t16, b17, hF⟩ := aI_inv hF
    refine xq_iald dX12_shape_16 e15 t16 b17 ?_
    refine xe_iconst (v := 1) dX12_shape_17 (by decide) ?_
    refine xe_isub dX12_shape_18 ?_
    refine xe_i2l dX12_shape_19 ?_
    obtain ⟨v18, h19, o20, hF⟩ := cl_inv hF
    refine xz (xq_callS (As := [.long _, .long _, .long _]) (rest := []) dX12_shape_20 mk_X12_in ⟨tw_1174, tw_1175⟩ (FX12_in_ok o20) xPZ_q (by decide) (by decide) rfl rfl ?_)
    refine xe_if_eq (tgt := 40) dX12_shape_23 (by decide) (fun c21 => ?_) (fun c21 => ?_)
    · replace hF := if_p c21 hF
      refine xe_bipush (v := (-2)) dX12_shape_40 (by decide) ?_
      exact xe_ireturn dX12_shape_42 (xP_ret (mk := mkI) hF)
    · replace hF := if_n c21 hF
      refine xe_iload_n dX12_shape_26 rfl rfl ?_
      refine xe_i2l dX12_shape_27 ?_
      refine xe_ldc2 (v := (-17)) dX12_shape_28 tw_1325 ?_
      refine xe_ldc2 (v := 11) dX12_shape_31 tw_1255 ?_
      obtain ⟨v22, h23, o24, hF⟩ := cl_inv hF
      refine xz (xq_callS (As := [.long _, .long _, .long _]) (rest := []) dX12_shape_34 mk_X12_in ⟨tw_1174, tw_1175⟩ (FX12_in_ok o24) xPZ_q (by decide) (by decide) rfl rfl ?_)
      refine xe_if_ne (tgt := 43) dX12_shape_37 (by decide) (fun c25 => ?_) (fun c25 => ?_)
      · replace hF := if_p c25 hF
        refine xe_bipush (v := (-2)) dX12_shape_40 (by decide) ?_
        exact xe_ireturn dX12_shape_42 (xP_ret (mk := mkI) hF)
      · replace hF := if_n c25 hF
        refine xe_bipush (v := 60) dX12_shape_43 (by decide) ?_
        refine xe_iload_n dX12_shape_45 rfl rfl ?_
        refine xe_imul dX12_shape_46 ?_
        refine xe_iload_n dX12_shape_47 rfl rfl ?_
        refine xe_iadd dX12_shape_48 ?_
        refine xe_istore dX12_shape_49 (by decide) ?_
        refine xe_aload_n dX12_shape_51 rfl rfl ?_
        obtain ⟨a27, e28, t29, hF⟩ := gR_inv hF
        refine xq_getR dX12_shape_52 fl_SeldomOpsModel_75 xk_11 e28 t29 rfl ?_
        refine xe_iload dX12_shape_55 rfl ?_
        obtain ⟨a31, n32, e33, t34, b35, hF⟩ := aI_inv hF
        refine xq_zald dX12_shape_57 e33 t34 b35 ?_
        refine xe_if_ne (tgt := 63) dX12_shape_58 (by decide) (fun c36 => ?_) (fun c36 => ?_)
        · replace hF := if_p c36 hF
          refine xe_iconst (v := (-1)) dX12_shape_61 (by decide) ?_
          exact xe_ireturn dX12_shape_62 (xP_ret (mk := mkI) hF)
        · replace hF := if_n c36 hF
          refine xe_iload_n dX12_shape_63 rfl rfl ?_
          refine xe_iconst (v := (-1)) dX12_shape_64 (by decide) ?_
          refine xe_icmp_ge (tgt := 83) dX12_shape_65 (by decide) (fun c37 => ?_) (fun c37 => ?_)
          · replace hF := if_p c37 hF
            refine xe_aload_n dX12_shape_68 rfl rfl ?_
            obtain ⟨a39, e40, t41, hF⟩ := gR_inv hF
            refine xq_getR dX12_shape_69 fl_SeldomOpsModel_87 xk_11 e40 t41 rfl ?_
            refine xe_bipush (v := 16) dX12_shape_72 (by decide) ?_
            refine xe_iload dX12_shape_74 rfl ?_
            refine xe_imul dX12_shape_76 ?_
            refine xe_iconst (v := 2) dX12_shape_77 (by decide) ?_
            refine xe_isub dX12_shape_78 ?_
            refine xe_iload_n dX12_shape_79 rfl rfl ?_
            refine xe_isub dX12_shape_80 ?_
            obtain ⟨a43, n44, e45, t46, b47, hF⟩ := aI_inv hF
            refine xq_iald dX12_shape_81 e45 t46 b47 ?_
            exact xe_ireturn dX12_shape_82 (xP_ret (mk := mkI) hF)
          · replace hF := if_n c37 hF
            refine xe_iload_n dX12_shape_83 rfl rfl ?_
            refine xe_iconst (v := (-1)) dX12_shape_84 (by decide) ?_
            refine xe_icmp_ne (tgt := 98) dX12_shape_85 (by decide) (fun c48 => ?_) (fun c48 => ?_)
            · replace hF := if_p c48 hF
              refine xe_aload_n dX12_shape_88 rfl rfl ?_
              obtain ⟨a50, e51, t52, hF⟩ := gR_inv hF
              refine xq_getR dX12_shape_89 fl_SeldomOpsModel_81 xk_11 e51 t52 rfl ?_
              refine xe_iload dX12_shape_92 rfl ?_
              obtain ⟨a54, n55, e56, t57, b58, hF⟩ := aI_inv hF
              refine xq_iald dX12_shape_94 e56 t57 b58 ?_
              refine xe_goto (tgt := 125) dX12_shape_95 (by decide) ?_
              exact xe_ireturn dX12_shape_125 (xP_ret (mk := mkI) hF)
            · replace hF := if_n c48 hF
              refine xe_iload_n dX12_shape_98 rfl rfl ?_
              refine xe_aload_n dX12_shape_99 rfl rfl ?_
              obtain ⟨a60, e61, t62, hF⟩ := gR_inv hF
              refine xq_getR dX12_shape_100 fl_SeldomOpsModel_81 xk_11 e61 t62 rfl ?_
              refine xe_iload dX12_shape_103 rfl ?_
              obtain ⟨a64, n65, e66, t67, b68, hF⟩ := aI_inv hF
              refine xq_iald dX12_shape_105 e66 t67 b68 ?_
              refine xe_icmp_ge (tgt := 124) dX12_shape_106 (by decide) (fun c69 => ?_) (fun c69 => ?_)
              · replace hF := if_p c69 hF
                refine xe_aload_n dX12_shape_109 rfl rfl ?_
                obtain ⟨a71, e72, t73, hF⟩ := gR_inv hF
                refine xq_getR dX12_shape_110 fl_SeldomOpsModel_84 xk_11 e72 t73 rfl ?_
                refine xe_bipush (v := 12) dX12_shape_113 (by decide) ?_
                refine xe_iload dX12_shape_115 rfl ?_
                refine xe_imul dX12_shape_117 ?_
                refine xe_iload_n dX12_shape_118 rfl rfl ?_
                refine xe_iadd dX12_shape_119 ?_
                obtain ⟨a75, n76, e77, t78, b79, hF⟩ := aI_inv hF
                refine xq_iald dX12_shape_120 e77 t78 b79 ?_
                refine xe_goto (tgt := 125) dX12_shape_121 (by decide) ?_
                exact xe_ireturn dX12_shape_125 (xP_ret (mk := mkI) hF)
              · replace hF := if_n c69 hF
                refine xe_iconst (v := (-1)) dX12_shape_124 (by decide) ?_
                exact xe_ireturn dX12_shape_125 (xP_ret (mk := mkI) hF)
/-! SeldomOpsModel.table(ZII)I -/
def FX12_table (p0 : Option Nat) (p1 : Int32) (p2 : Int32) (p3 : Int32) (h0 : Hp) : Option (Int32 × Hp) :=
  cl (FX12_in (Int32.toInt64 p3) 0 59 h0) fun v1 h2 =>
  if (v1 : Int32) = 0 then
    some ((-2), h2)
  else
    gI h2 p0 11 17 fun v5 =>
    if (v5 : Int32) = 8 then
      some ((-4), h2)
    else
      rcv h2 p0 11 <|
      cl (FX12_change p0 h2) fun v10 h11 =>
      gR h11 p0 11 18 fun v16 =>
      gI h11 p0 11 17 fun v20 =>
      sZ h11 v16 v20 p1 fun h24 =>
      gR h24 p0 11 19 fun v31 =>
      gI h24 p0 11 17 fun v35 =>
      sI h24 v31 v35 p2 fun h39 =>
      gR h39 p0 11 20 fun v46 =>
      gI h39 p0 11 17 fun v50 =>
      sI h39 v46 v50 p3 fun h54 =>
      gI h54 p0 11 17 fun v61 =>
      pI h54 p0 11 17 (v61 + 1) fun h68 =>
      gI h68 p0 11 17 fun v70 =>
      some ((v70 - 1), h68)
set_option maxRecDepth 100000 in
set_option maxHeartbeats 4000000 in
theorem FX12_table_ok {G : xG} {l : Launch} {p0 : Option Nat} {p1 : Int32} {p2 : Int32} {p3 : Int32} {h0 h1 : Hp} {r : Int32} (hF : FX12_table p0 p1 p2 p3 h0 = some (r, h1)) : xc G l mX12_table 2 0 0 [va_rf p0, .int p1, .int p2, .int p3] h0 (xP mkI r h1) := by
  refine xo_I [.inr (.inr _), .inl _, .inl _, .inl _] (by decide) (Nat.le_of_ble_eq_true rfl) rfl ?_
  show xv _ _ _ _ _ _ _ [(0, false, va_rf p0), (1, false, .int p1), (2, false, .int p2), (3, false, .int p3)] _ _ _
  unfold FX12_table at hF
  refine xe_iload_n dX12_table_0 rfl rfl ?_
  refine xe_i2l dX12_table_1 ?_
  refine xe_lconst (v := 0) dX12_table_2 (by decide) ?_
  refine xe_ldc2 (v := 59) dX12_table_3 tw_1208 ?_
  obtain ⟨v1, h2, o3, hF⟩ := cl_inv hF
  refine xz (xq_callS (As := [.long _, .long _, .long _]) (rest := []) dX12_table_6 mk_X12_in ⟨tw_1174, tw_1175⟩ (FX12_in_ok o3) xPZ_q (by decide) (by decide) rfl rfl ?_)
  refine xe_if_ne (tgt := 15) dX12_table_9 (by decide) (fun c4 => ?_) (fun c4 => ?_)
  · replace hF := if_p c4 hF
    refine xe_bipush (v := (-2)) dX12_table_12 (by decide) ?_
    exact xe_ireturn dX12_table_14 (xP_ret (mk := mkI) hF)
  · replace hF := if_n c4 hF
    refine xe_aload_n dX12_table_15 rfl rfl ?_
    obtain ⟨a6, e7, t8, hF⟩ := gI_inv hF
    refine xq_getI dX12_table_16 fl_SeldomOpsModel_187 xk_11 e7 t8 rfl ?_
    refine xe_bipush (v := 8) dX12_table_19 (by decide) ?_
    refine xe_icmp_ne (tgt := 27) dX12_table_21 (by decide) (fun c9 => ?_) (fun c9 => ?_)
    · replace hF := if_p c9 hF
      refine xe_bipush (v := (-4)) dX12_table_24 (by decide) ?_
      exact xe_ireturn dX12_table_26 (xP_ret (mk := mkI) hF)
    · replace hF := if_n c9 hF
      refine xe_aload_n dX12_table_27 rfl rfl ?_
      obtain ⟨a15, e13, t14, hF⟩ := rcv_inv hF
      obtain ⟨v10, h11, o12, hF⟩ := cl_inv hF
      refine xz (xq_callV (As := []) (rest := []) dX12_table_28 mk_X12_change ⟨tw_1177, tw_1179, ts_37⟩ (ci := 11) rfl e13 t14 (FX12_change_ok o12) xP_q (by decide) (by decide) rfl rfl ?_)
      refine xe_aload_n dX12_table_31 rfl rfl ?_
      obtain ⟨a17, e18, t19, hF⟩ := gR_inv hF
      refine xq_getR dX12_table_32 fl_SeldomOpsModel_57 xk_11 e18 t19 rfl ?_
      refine xe_aload_n dX12_table_35 rfl rfl ?_
      obtain ⟨a21, e22, t23, hF⟩ := gI_inv hF
      refine xq_getI dX12_table_36 fl_SeldomOpsModel_187 xk_11 e22 t23 rfl ?_
      refine xe_iload_n dX12_table_39 rfl rfl ?_
      obtain ⟨a25, n26, e27, t28, b29, z30, hF⟩ := sZ_inv hF
      refine xq_zast dX12_table_40 e27 t28 b29 z30 ?_
      refine xe_aload_n dX12_table_41 rfl rfl ?_
      obtain ⟨a32, e33, t34, hF⟩ := gR_inv hF
      refine xq_getR dX12_table_42 fl_SeldomOpsModel_60 xk_11 e33 t34 rfl ?_
      refine xe_aload_n dX12_table_45 rfl rfl ?_
      obtain ⟨a36, e37, t38, hF⟩ := gI_inv hF
      refine xq_getI dX12_table_46 fl_SeldomOpsModel_187 xk_11 e37 t38 rfl ?_
      refine xe_iload_n dX12_table_49 rfl rfl ?_
      obtain ⟨a40, n41, e42, t43, b44, hF⟩ := sI_inv hF
      refine xq_iast dX12_table_50 e42 t43 b44 ?_
      refine xe_aload_n dX12_table_51 rfl rfl ?_
      obtain ⟨a47, e48, t49, hF⟩ := gR_inv hF
      refine xq_getR dX12_table_52 fl_SeldomOpsModel_63 xk_11 e48 t49 rfl ?_
      refine xe_aload_n dX12_table_55 rfl rfl ?_
      obtain ⟨a51, e52, t53, hF⟩ := gI_inv hF
      refine xq_getI dX12_table_56 fl_SeldomOpsModel_187 xk_11 e52 t53 rfl ?_
      refine xe_iload_n dX12_table_59 rfl rfl ?_
      obtain ⟨a55, n56, e57, t58, b59, hF⟩ := sI_inv hF
      refine xq_iast dX12_table_60 e57 t58 b59 ?_
      refine xe_aload_n dX12_table_61 rfl rfl ?_
      refine xe_dup dX12_table_62 (va_rf_cat _) ?_
      obtain ⟨a62, e63, t64, hF⟩ := gI_inv hF
      refine xq_getI dX12_table_63 fl_SeldomOpsModel_187 xk_11 e63 t64 rfl ?_
      refine xe_iconst (v := 1) dX12_table_66 (by decide) ?_
      refine xe_iadd dX12_table_67 ?_
      obtain ⟨a65, e66, t67, hF⟩ := pI_inv hF
      refine xq_putI dX12_table_68 fl_SeldomOpsModel_187 xk_11 (by decide) (fun z => by cases z) e66 t67 (Or.inl rfl) ?_
      refine xe_aload_n dX12_table_71 rfl rfl ?_
      obtain ⟨a71, e72, t73, hF⟩ := gI_inv hF
      refine xq_getI dX12_table_72 fl_SeldomOpsModel_187 xk_11 e72 t73 rfl ?_
      refine xe_iconst (v := 1) dX12_table_75 (by decide) ?_
      refine xe_isub dX12_table_76 ?_
      exact xe_ireturn dX12_table_77 (xP_ret (mk := mkI) hF)
/-! SeldomOpsModel.thing(II)I -/
def FX12_thing (p0 : Option Nat) (p1 : Int32) (p2 : Int32) (h0 : Hp) : Option (Int32 × Hp) :=
  gI h0 p0 11 40 fun v1 =>
  cl (FX12_in (Int32.toInt64 p1) 0 (Int32.toInt64 (v1 - 1)) h0) fun v5 h6 =>
  if (v5 : Int32) = 0 then
    some ((-2), h6)
  else
    cl (FX12_in (Int32.toInt64 p2) 0 2 h6) fun v9 h10 =>
    if (v9 : Int32) = 0 then
      some ((-2), h10)
    else
      if (p2 : Int32) = 0 then
        gR h10 p0 11 41 fun v14 =>
        aI h10 v14 .int p1 fun v18 =>
        some (v18, h10)
      else
        if (p2 : Int32) = 1 then
          gR h10 p0 11 42 fun v25 =>
          aI h10 v25 .int p1 fun v29 =>
          some (v29, h10)
        else
          gR h10 p0 11 43 fun v35 =>
          aI h10 v35 .int p1 fun v39 =>
          some (v39, h10)
set_option maxRecDepth 100000 in
set_option maxHeartbeats 4000000 in
theorem FX12_thing_ok {G : xG} {l : Launch} {p0 : Option Nat} {p1 : Int32} {p2 : Int32} {h0 h1 : Hp} {r : Int32} (hF : FX12_thing p0 p1 p2 h0 = some (r, h1)) : xc G l mX12_thing 2 0 0 [va_rf p0, .int p1, .int p2] h0 (xP mkI r h1) := by
  refine xo_I [.inr (.inr _), .inl _, .inl _] (by decide) (Nat.le_of_ble_eq_true rfl) rfl ?_
  show xv _ _ _ _ _ _ _ [(0, false, va_rf p0), (1, false, .int p1), (2, false, .int p2)] _ _ _
  unfold FX12_thing at hF
  refine xe_iload_n dX12_thing_0 rfl rfl ?_
  refine xe_i2l dX12_thing_1 ?_
  refine xe_lconst (v := 0) dX12_thing_2 (by decide) ?_
  refine xe_aload_n dX12_thing_3 rfl rfl ?_
  obtain ⟨a2, e3, t4, hF⟩ := gI_inv hF
  refine xq_getI dX12_thing_4 fl_SeldomOpsModel_296 xk_11 e3 t4 rfl ?_
  refine xe_iconst (v := 1) dX12_thing_7 (by decide) ?_
  refine xe_isub dX12_thing_8 ?_
  refine xe_i2l dX12_thing_9 ?_
  obtain ⟨v5, h6, o7, hF⟩ := cl_inv hF
  refine xz (xq_callS (As := [.long _, .long _, .long _]) (rest := []) dX12_thing_10 mk_X12_in ⟨tw_1174, tw_1175⟩ (FX12_in_ok o7) xPZ_q (by decide) (by decide) rfl rfl ?_)
  refine xe_if_eq (tgt := 28) dX12_thing_13 (by decide) (fun c8 => ?_) (fun c8 => ?_)
  · replace hF := if_p c8 hF
    refine xe_bipush (v := (-2)) dX12_thing_28 (by decide) ?_
    exact xe_ireturn dX12_thing_30 (xP_ret (mk := mkI) hF)
  · replace hF := if_n c8 hF
    refine xe_iload_n dX12_thing_16 rfl rfl ?_
    refine xe_i2l dX12_thing_17 ?_
    refine xe_lconst (v := 0) dX12_thing_18 (by decide) ?_
    refine xe_ldc2 (v := 2) dX12_thing_19 tw_1438 ?_
    obtain ⟨v9, h10, o11, hF⟩ := cl_inv hF
    refine xz (xq_callS (As := [.long _, .long _, .long _]) (rest := []) dX12_thing_22 mk_X12_in ⟨tw_1174, tw_1175⟩ (FX12_in_ok o11) xPZ_q (by decide) (by decide) rfl rfl ?_)
    refine xe_if_ne (tgt := 31) dX12_thing_25 (by decide) (fun c12 => ?_) (fun c12 => ?_)
    · replace hF := if_p c12 hF
      refine xe_bipush (v := (-2)) dX12_thing_28 (by decide) ?_
      exact xe_ireturn dX12_thing_30 (xP_ret (mk := mkI) hF)
    · replace hF := if_n c12 hF
      refine xe_iload_n dX12_thing_31 rfl rfl ?_
      refine xe_if_ne (tgt := 44) dX12_thing_32 (by decide) (fun c13 => ?_) (fun c13 => ?_)
      · replace hF := if_p c13 hF
        refine xe_aload_n dX12_thing_35 rfl rfl ?_
        obtain ⟨a15, e16, t17, hF⟩ := gR_inv hF
        refine xq_getR dX12_thing_36 fl_SeldomOpsModel_115 xk_11 e16 t17 rfl ?_
        refine xe_iload_n dX12_thing_39 rfl rfl ?_
        obtain ⟨a19, n20, e21, t22, b23, hF⟩ := aI_inv hF
        refine xq_iald dX12_thing_40 e21 t22 b23 ?_
        refine xe_goto (tgt := 64) dX12_thing_41 (by decide) ?_
        exact xe_ireturn dX12_thing_64 (xP_ret (mk := mkI) hF)
      · replace hF := if_n c13 hF
        refine xe_iload_n dX12_thing_44 rfl rfl ?_
        refine xe_iconst (v := 1) dX12_thing_45 (by decide) ?_
        refine xe_icmp_ne (tgt := 58) dX12_thing_46 (by decide) (fun c24 => ?_) (fun c24 => ?_)
        · replace hF := if_p c24 hF
          refine xe_aload_n dX12_thing_49 rfl rfl ?_
          obtain ⟨a26, e27, t28, hF⟩ := gR_inv hF
          refine xq_getR dX12_thing_50 fl_SeldomOpsModel_118 xk_11 e27 t28 rfl ?_
          refine xe_iload_n dX12_thing_53 rfl rfl ?_
          obtain ⟨a30, n31, e32, t33, b34, hF⟩ := aI_inv hF
          refine xq_iald dX12_thing_54 e32 t33 b34 ?_
          refine xe_goto (tgt := 64) dX12_thing_55 (by decide) ?_
          exact xe_ireturn dX12_thing_64 (xP_ret (mk := mkI) hF)
        · replace hF := if_n c24 hF
          refine xe_aload_n dX12_thing_58 rfl rfl ?_
          obtain ⟨a36, e37, t38, hF⟩ := gR_inv hF
          refine xq_getR dX12_thing_59 fl_SeldomOpsModel_121 xk_11 e37 t38 rfl ?_
          refine xe_iload_n dX12_thing_62 rfl rfl ?_
          obtain ⟨a40, n41, e42, t43, b44, hF⟩ := aI_inv hF
          refine xq_iald dX12_thing_63 e42 t43 b44 ?_
          exact xe_ireturn dX12_thing_64 (xP_ret (mk := mkI) hF)
/-! SeldomOpsModel.told(I)I -/
def FX12_told (p0 : Option Nat) (p1 : Int32) (h0 : Hp) : Option (Int32 × Hp) :=
  cl (FX12_in (Int32.toInt64 p1) 0 8 h0) fun v1 h2 =>
  if (v1 : Int32) = 0 then
    some ((-2), h2)
  else
    gI h2 p0 11 54 fun v5 =>
    if (v5 : Int32) = 0 then
      some ((-3), h2)
    else
      if (p1 : Int32) = 0 then
        gI h2 p0 11 56 fun v11 =>
        some (v11, h2)
      else
      if (p1 : Int32) = 1 then
        gI h2 p0 11 57 fun v16 =>
        some (v16, h2)
      else
      if (p1 : Int32) = 2 then
        gI h2 p0 11 58 fun v21 =>
        some (v21, h2)
      else
      if (p1 : Int32) = 3 then
        gI h2 p0 11 59 fun v26 =>
        some (v26, h2)
      else
      if (p1 : Int32) = 4 then
        gI h2 p0 11 60 fun v31 =>
        some (v31, h2)
      else
      if (p1 : Int32) = 5 then
        gI h2 p0 11 40 fun v36 =>
        some (v36, h2)
      else
      if (p1 : Int32) = 6 then
        gI h2 p0 11 61 fun v41 =>
        some (v41, h2)
      else
      if (p1 : Int32) = 7 then
        gI h2 p0 11 62 fun v46 =>
        some (v46, h2)
      else
      gI h2 p0 11 63 fun v50 =>
      some (v50, h2)
set_option maxRecDepth 100000 in
set_option maxHeartbeats 4000000 in
theorem FX12_told_ok {G : xG} {l : Launch} {p0 : Option Nat} {p1 : Int32} {h0 h1 : Hp} {r : Int32} (hF : FX12_told p0 p1 h0 = some (r, h1)) : xc G l mX12_told 2 0 0 [va_rf p0, .int p1] h0 (xP mkI r h1) := by
  refine xo_I [.inr (.inr _), .inl _] (by decide) (Nat.le_of_ble_eq_true rfl) rfl ?_
  show xv _ _ _ _ _ _ _ [(0, false, va_rf p0), (1, false, .int p1)] _ _ _
  unfold FX12_told at hF
  refine xe_iload_n dX12_told_0 rfl rfl ?_
  refine xe_i2l dX12_told_1 ?_
  refine xe_lconst (v := 0) dX12_told_2 (by decide) ?_
  refine xe_ldc2 (v := 8) dX12_told_3 tw_1259 ?_
  obtain ⟨v1, h2, o3, hF⟩ := cl_inv hF
  refine xz (xq_callS (As := [.long _, .long _, .long _]) (rest := []) dX12_told_6 mk_X12_in ⟨tw_1174, tw_1175⟩ (FX12_in_ok o3) xPZ_q (by decide) (by decide) rfl rfl ?_)
  refine xe_if_ne (tgt := 15) dX12_told_9 (by decide) (fun c4 => ?_) (fun c4 => ?_)
  · replace hF := if_p c4 hF
    refine xe_bipush (v := (-2)) dX12_told_12 (by decide) ?_
    exact xe_ireturn dX12_told_14 (xP_ret (mk := mkI) hF)
  · replace hF := if_n c4 hF
    refine xe_aload_n dX12_told_15 rfl rfl ?_
    obtain ⟨a6, e7, t8, hF⟩ := gI_inv hF
    refine xq_getI dX12_told_16 fl_SeldomOpsModel_292 xk_11 e7 t8 rfl ?_
    refine xe_if_ne (tgt := 25) dX12_told_19 (by decide) (fun c9 => ?_) (fun c9 => ?_)
    · replace hF := if_p c9 hF
      refine xe_bipush (v := (-3)) dX12_told_22 (by decide) ?_
      exact xe_ireturn dX12_told_24 (xP_ret (mk := mkI) hF)
    · replace hF := if_n c9 hF
      refine xe_iload_n dX12_told_25 rfl rfl ?_
      refine xs_case (j := 0) (tgt := 72) dX12_told_26 (by decide) (by decide) rfl (by decide) (fun c10 => ?_) (fun c10 => ?_)
      · replace hF := if_p c10 hF
        refine xe_aload_n dX12_told_72 rfl rfl ?_
        obtain ⟨a12, e13, t14, hF⟩ := gI_inv hF
        refine xq_getI dX12_told_73 fl_SeldomOpsModel_302 xk_11 e13 t14 rfl ?_
        exact xe_ireturn dX12_told_76 (xP_ret (mk := mkI) hF)
      replace hF := if_n c10 hF
      refine xs_case (j := 1) (tgt := 77) dX12_told_26 (by decide) (by decide) rfl (by decide) (fun c15 => ?_) (fun c15 => ?_)
      · replace hF := if_p c15 hF
        refine xe_aload_n dX12_told_77 rfl rfl ?_
        obtain ⟨a17, e18, t19, hF⟩ := gI_inv hF
        refine xq_getI dX12_told_78 fl_SeldomOpsModel_305 xk_11 e18 t19 rfl ?_
        exact xe_ireturn dX12_told_81 (xP_ret (mk := mkI) hF)
      replace hF := if_n c15 hF
      refine xs_case (j := 2) (tgt := 82) dX12_told_26 (by decide) (by decide) rfl (by decide) (fun c20 => ?_) (fun c20 => ?_)
      · replace hF := if_p c20 hF
        refine xe_aload_n dX12_told_82 rfl rfl ?_
        obtain ⟨a22, e23, t24, hF⟩ := gI_inv hF
        refine xq_getI dX12_told_83 fl_SeldomOpsModel_308 xk_11 e23 t24 rfl ?_
        exact xe_ireturn dX12_told_86 (xP_ret (mk := mkI) hF)
      replace hF := if_n c20 hF
      refine xs_case (j := 3) (tgt := 87) dX12_told_26 (by decide) (by decide) rfl (by decide) (fun c25 => ?_) (fun c25 => ?_)
      · replace hF := if_p c25 hF
        refine xe_aload_n dX12_told_87 rfl rfl ?_
        obtain ⟨a27, e28, t29, hF⟩ := gI_inv hF
        refine xq_getI dX12_told_88 fl_SeldomOpsModel_311 xk_11 e28 t29 rfl ?_
        exact xe_ireturn dX12_told_91 (xP_ret (mk := mkI) hF)
      replace hF := if_n c25 hF
      refine xs_case (j := 4) (tgt := 92) dX12_told_26 (by decide) (by decide) rfl (by decide) (fun c30 => ?_) (fun c30 => ?_)
      · replace hF := if_p c30 hF
        refine xe_aload_n dX12_told_92 rfl rfl ?_
        obtain ⟨a32, e33, t34, hF⟩ := gI_inv hF
        refine xq_getI dX12_told_93 fl_SeldomOpsModel_287 xk_11 e33 t34 rfl ?_
        exact xe_ireturn dX12_told_96 (xP_ret (mk := mkI) hF)
      replace hF := if_n c30 hF
      refine xs_case (j := 5) (tgt := 97) dX12_told_26 (by decide) (by decide) rfl (by decide) (fun c35 => ?_) (fun c35 => ?_)
      · replace hF := if_p c35 hF
        refine xe_aload_n dX12_told_97 rfl rfl ?_
        obtain ⟨a37, e38, t39, hF⟩ := gI_inv hF
        refine xq_getI dX12_told_98 fl_SeldomOpsModel_296 xk_11 e38 t39 rfl ?_
        exact xe_ireturn dX12_told_101 (xP_ret (mk := mkI) hF)
      replace hF := if_n c35 hF
      refine xs_case (j := 6) (tgt := 102) dX12_told_26 (by decide) (by decide) rfl (by decide) (fun c40 => ?_) (fun c40 => ?_)
      · replace hF := if_p c40 hF
        refine xe_aload_n dX12_told_102 rfl rfl ?_
        obtain ⟨a42, e43, t44, hF⟩ := gI_inv hF
        refine xq_getI dX12_told_103 fl_SeldomOpsModel_314 xk_11 e43 t44 rfl ?_
        exact xe_ireturn dX12_told_106 (xP_ret (mk := mkI) hF)
      replace hF := if_n c40 hF
      refine xs_case (j := 7) (tgt := 107) dX12_told_26 (by decide) (by decide) rfl (by decide) (fun c45 => ?_) (fun c45 => ?_)
      · replace hF := if_p c45 hF
        refine xe_aload_n dX12_told_107 rfl rfl ?_
        obtain ⟨a47, e48, t49, hF⟩ := gI_inv hF
        refine xq_getI dX12_told_108 fl_SeldomOpsModel_317 xk_11 e48 t49 rfl ?_
        exact xe_ireturn dX12_told_111 (xP_ret (mk := mkI) hF)
      replace hF := if_n c45 hF
      refine xs_rest (tgt := 112) [0, 1, 2, 3, 4, 5, 6, 7] dX12_told_26 (by decide) (List.forall_mem_cons.mpr ⟨c10, List.forall_mem_cons.mpr ⟨c15, List.forall_mem_cons.mpr ⟨c20, List.forall_mem_cons.mpr ⟨c25, List.forall_mem_cons.mpr ⟨c30, List.forall_mem_cons.mpr ⟨c35, List.forall_mem_cons.mpr ⟨c40, List.forall_mem_cons.mpr ⟨c45, fun _ h => by cases h⟩⟩⟩⟩⟩⟩⟩⟩) (by decide) ?_
      refine xe_aload_n dX12_told_112 rfl rfl ?_
      obtain ⟨a51, e52, t53, hF⟩ := gI_inv hF
      refine xq_getI dX12_told_113 fl_SeldomOpsModel_320 xk_11 e52 t53 rfl ?_
      exact xe_ireturn dX12_told_116 (xP_ret (mk := mkI) hF)
/-! SeldomOpsModel.value()J -/
def FX12_value (p0 : Option Nat) (h0 : Hp) : Option (Int64 × Hp) :=
  gL h0 p0 11 55 fun v1 =>
  some (v1, h0)
set_option maxRecDepth 100000 in
set_option maxHeartbeats 4000000 in
theorem FX12_value_ok {G : xG} {l : Launch} {p0 : Option Nat} {h0 h1 : Hp} {r : Int64} (hF : FX12_value p0 h0 = some (r, h1)) : xc G l mX12_value 1 0 0 [va_rf p0] h0 (xP mkL r h1) := by
  refine xo_L [.inr (.inr _)] (by decide) (Nat.le_of_ble_eq_true rfl) rfl ?_
  show xv _ _ _ _ _ _ _ [(0, false, va_rf p0)] _ _ _
  unfold FX12_value at hF
  refine xe_aload_n dX12_value_0 rfl rfl ?_
  obtain ⟨a2, e3, t4, hF⟩ := gL_inv hF
  refine xq_getL dX12_value_1 fl_SeldomOpsModel_323 xk_11 e3 t4 rfl ?_
  exact xe_lreturn dX12_value_4 (xP_ret (mk := mkL) hF)
/-! SeldomOpsModel.walk(II)I -/
def BX12_walk_362 (k250 : Option Nat → Int32 → Hp → Option (Int32 × Hp)) (x0 : Option Nat) (x2 : Int32) (s0 : Option Nat) (s1 : Int32) (h0 : Hp) : Option (Int32 × Hp) :=
  pI h0 s0 11 61 s1 fun h4 =>
  k250 x0 x2 h4
set_option maxRecDepth 100000 in
set_option maxHeartbeats 4000000 in
theorem BX12_walk_362_ok {G : xG} {l : Launch} {k250 : Option Nat → Int32 → Hp → Option (Int32 × Hp)} (hk250 : ∀ {x0 : Option Nat} {x2 : Int32} {h0 h1 : Hp} {r : Int32}, k250 x0 x2 h0 = some (r, h1) → xv G l mX12_walk 7 0 0 250 [(0, false, va_rf x0), (2, false, .int x2)] [] h0 (xP mkI r h1)) {x0 : Option Nat} {x2 : Int32} {s0 : Option Nat} {s1 : Int32} {h0 h1 : Hp} {r : Int32} (hF : BX12_walk_362 k250 x0 x2 s0 s1 h0 = some (r, h1)) : xv G l mX12_walk 7 0 0 362 [(0, false, va_rf x0), (2, false, .int x2)] [.int s1, va_rf s0] h0 (xP mkI r h1) := by
  unfold BX12_walk_362 at hF
  obtain ⟨a1, e2, t3, hF⟩ := pI_inv hF
  refine xq_putI dX12_walk_362 fl_SeldomOpsModel_314 xk_11 (by decide) (fun z => by cases z) e2 t3 (Or.inl rfl) ?_
  refine xe_goto (tgt := 250) dX12_walk_365 (by decide) ?_
  exact xv.lv (hk250 hF) (xsub_cons rfl (xsub_cons rfl xsub_nil))
def BX12_walk_323 (k250 : Option Nat → Int32 → Hp → Option (Int32 × Hp)) (x0 : Option Nat) (x2 : Int32) (h0 : Hp) : Option (Int32 × Hp) :=
  gI h0 x0 11 47 fun v1 =>
  if (0 : Int32) < v1 then
    gR h0 x0 11 50 fun v6 =>
    gI h0 x0 11 47 fun v10 =>
    aI h0 v6 .int (v10 - 1) fun v14 =>
    gI h0 x0 11 61 fun v20 =>
    if (v20 : Int32) < v14 then
      BX12_walk_362 k250 x0 x2 x0 v14 h0
    else
      gI h0 x0 11 61 fun v25 =>
      BX12_walk_362 k250 x0 x2 x0 v25 h0
  else
    k250 x0 x2 h0
set_option maxRecDepth 100000 in
set_option maxHeartbeats 4000000 in
theorem BX12_walk_323_ok {G : xG} {l : Launch} {k250 : Option Nat → Int32 → Hp → Option (Int32 × Hp)} (hk250 : ∀ {x0 : Option Nat} {x2 : Int32} {h0 h1 : Hp} {r : Int32}, k250 x0 x2 h0 = some (r, h1) → xv G l mX12_walk 7 0 0 250 [(0, false, va_rf x0), (2, false, .int x2)] [] h0 (xP mkI r h1)) {x0 : Option Nat} {x2 : Int32} {h0 h1 : Hp} {r : Int32} (hF : BX12_walk_323 k250 x0 x2 h0 = some (r, h1)) : xv G l mX12_walk 7 0 0 323 [(0, false, va_rf x0), (2, false, .int x2)] [] h0 (xP mkI r h1) := by
  unfold BX12_walk_323 at hF
  refine xe_aload_n dX12_walk_323 rfl rfl ?_
  obtain ⟨a2, e3, t4, hF⟩ := gI_inv hF
  refine xq_getI dX12_walk_324 fl_SeldomOpsModel_284 xk_11 e3 t4 rfl ?_
  refine xe_if_le (tgt := 250) dX12_walk_327 (by decide) (fun c5 => ?_) (fun c5 => ?_)
  · replace hF := if_p c5 hF
    refine xe_aload_n dX12_walk_330 rfl rfl ?_
    obtain ⟨a7, e8, t9, hF⟩ := gR_inv hF
    refine xq_getR dX12_walk_331 fl_SeldomOpsModel_136 xk_11 e8 t9 rfl ?_
    refine xe_aload_n dX12_walk_334 rfl rfl ?_
    obtain ⟨a11, e12, t13, hF⟩ := gI_inv hF
    refine xq_getI dX12_walk_335 fl_SeldomOpsModel_284 xk_11 e12 t13 rfl ?_
    refine xe_iconst (v := 1) dX12_walk_338 (by decide) ?_
    refine xe_isub dX12_walk_339 ?_
    obtain ⟨a15, n16, e17, t18, b19, hF⟩ := aI_inv hF
    refine xq_iald dX12_walk_340 e17 t18 b19 ?_
    refine xe_istore dX12_walk_341 (by decide) ?_
    refine xe_aload_n dX12_walk_343 rfl rfl ?_
    refine xe_iload dX12_walk_344 rfl ?_
    refine xe_aload_n dX12_walk_346 rfl rfl ?_
    obtain ⟨a21, e22, t23, hF⟩ := gI_inv hF
    refine xq_getI dX12_walk_347 fl_SeldomOpsModel_314 xk_11 e22 t23 rfl ?_
    refine xe_icmp_le (tgt := 358) dX12_walk_350 (by decide) (fun c24 => ?_) (fun c24 => ?_)
    · replace hF := if_p c24 hF
      refine xe_iload dX12_walk_353 rfl ?_
      refine xe_goto (tgt := 362) dX12_walk_355 (by decide) ?_
      exact xv.lv (BX12_walk_362_ok hk250 hF) (xsub_cons rfl (xsub_cons rfl xsub_nil))
    · replace hF := if_n c24 hF
      refine xe_aload_n dX12_walk_358 rfl rfl ?_
      obtain ⟨a26, e27, t28, hF⟩ := gI_inv hF
      refine xq_getI dX12_walk_359 fl_SeldomOpsModel_314 xk_11 e27 t28 rfl ?_
      exact xv.lv (BX12_walk_362_ok hk250 hF) (xsub_cons rfl (xsub_cons rfl xsub_nil))
  · replace hF := if_n c5 hF
    exact xv.lv (hk250 hF) (xsub_cons rfl (xsub_cons rfl xsub_nil))
def BX12_walk_250 : Nat → Option Nat → Int32 → Hp → Option (Int32 × Hp)
  | 0, _, _, _ => none
  | n + 1, x0, x2, h0 =>
    gI h0 x0 11 47 fun v1 =>
    if (0 : Int32) < v1 then
      gI h0 x0 11 59 fun v6 =>
      if (v6 : Int32) = x2 then
        gI h0 x0 11 47 fun v11 =>
        pI h0 x0 11 63 v11 fun h18 =>
        some (2, h18)
      else
        gI h0 x0 11 59 fun v20 =>
        pI h0 x0 11 59 (v20 + 1) fun h27 =>
        pI h27 x0 11 64 (-1) fun h32 =>
        pI h32 x0 11 65 (-2) fun h37 =>
        gI h37 x0 11 47 fun v39 =>
        rcv h37 x0 11 <|
        cl (FX12_begin x0 (v39 - 1) h37) fun v43 h44 =>
        gI h44 x0 11 64 fun v49 =>
        if (v49 : Int32) = (-1) then
          BX12_walk_323 (BX12_walk_250 n) x0 x2 h44
        else
          rcv h44 x0 11 <|
          cl (FX12_isCaught x0 h44) fun v54 h55 =>
          if (v54 : Int32) = 0 then
            some (1, h55)
          else
            BX12_walk_323 (BX12_walk_250 n) x0 x2 h55
    else
      some (0, h0)
set_option maxRecDepth 100000 in
set_option maxHeartbeats 4000000 in
theorem BX12_walk_250_ok {G : xG} {l : Launch} : ∀ (n : Nat) {x0 : Option Nat} {x2 : Int32} {h0 h1 : Hp} {r : Int32} (hF : BX12_walk_250 n x0 x2 h0 = some (r, h1)), xv G l mX12_walk 7 0 0 250 [(0, false, va_rf x0), (2, false, .int x2)] [] h0 (xP mkI r h1) := by
  intro n
  induction n with
  | zero => intro x0 x2 h0 h1 r hF; cases hF
  | succ n ih =>
    intro x0 x2 h0 h1 r hF
    unfold BX12_walk_250 at hF
    refine xe_aload_n dX12_walk_250 rfl rfl ?_
    obtain ⟨a2, e3, t4, hF⟩ := gI_inv hF
    refine xq_getI dX12_walk_251 fl_SeldomOpsModel_284 xk_11 e3 t4 rfl ?_
    refine xe_if_le (tgt := 368) dX12_walk_254 (by decide) (fun c5 => ?_) (fun c5 => ?_)
    · replace hF := if_p c5 hF
      refine xe_aload_n dX12_walk_257 rfl rfl ?_
      obtain ⟨a7, e8, t9, hF⟩ := gI_inv hF
      refine xq_getI dX12_walk_258 fl_SeldomOpsModel_311 xk_11 e8 t9 rfl ?_
      refine xe_iload_n dX12_walk_261 rfl rfl ?_
      refine xe_icmp_ne (tgt := 275) dX12_walk_262 (by decide) (fun c10 => ?_) (fun c10 => ?_)
      · replace hF := if_p c10 hF
        refine xe_aload_n dX12_walk_265 rfl rfl ?_
        refine xe_aload_n dX12_walk_266 rfl rfl ?_
        obtain ⟨a12, e13, t14, hF⟩ := gI_inv hF
        refine xq_getI dX12_walk_267 fl_SeldomOpsModel_284 xk_11 e13 t14 rfl ?_
        obtain ⟨a15, e16, t17, hF⟩ := pI_inv hF
        refine xq_putI dX12_walk_270 fl_SeldomOpsModel_320 xk_11 (by decide) (fun z => by cases z) e16 t17 (Or.inl rfl) ?_
        refine xe_iconst (v := 2) dX12_walk_273 (by decide) ?_
        exact xe_ireturn dX12_walk_274 (xP_ret (mk := mkI) hF)
      · replace hF := if_n c10 hF
        refine xe_aload_n dX12_walk_275 rfl rfl ?_
        refine xe_dup dX12_walk_276 (va_rf_cat _) ?_
        obtain ⟨a21, e22, t23, hF⟩ := gI_inv hF
        refine xq_getI dX12_walk_277 fl_SeldomOpsModel_311 xk_11 e22 t23 rfl ?_
        refine xe_iconst (v := 1) dX12_walk_280 (by decide) ?_
        refine xe_iadd dX12_walk_281 ?_
        obtain ⟨a24, e25, t26, hF⟩ := pI_inv hF
        refine xq_putI dX12_walk_282 fl_SeldomOpsModel_311 xk_11 (by decide) (fun z => by cases z) e25 t26 (Or.inl rfl) ?_
        refine xe_aload_n dX12_walk_285 rfl rfl ?_
        refine xe_iconst (v := (-1)) dX12_walk_286 (by decide) ?_
        obtain ⟨a29, e30, t31, hF⟩ := pI_inv hF
        refine xq_putI dX12_walk_287 fl_SeldomOpsModel_330 xk_11 (by decide) (fun z => by cases z) e30 t31 (Or.inl rfl) ?_
        refine xe_aload_n dX12_walk_290 rfl rfl ?_
        refine xe_bipush (v := (-2)) dX12_walk_291 (by decide) ?_
        obtain ⟨a34, e35, t36, hF⟩ := pI_inv hF
        refine xq_putI dX12_walk_293 fl_SeldomOpsModel_333 xk_11 (by decide) (fun z => by cases z) e35 t36 (Or.inl rfl) ?_
        refine xe_aload_n dX12_walk_296 rfl rfl ?_
        refine xe_aload_n dX12_walk_297 rfl rfl ?_
        obtain ⟨a40, e41, t42, hF⟩ := gI_inv hF
        refine xq_getI dX12_walk_298 fl_SeldomOpsModel_284 xk_11 e41 t42 rfl ?_
        refine xe_iconst (v := 1) dX12_walk_301 (by decide) ?_
        refine xe_isub dX12_walk_302 ?_
        obtain ⟨a48, e46, t47, hF⟩ := rcv_inv hF
        obtain ⟨v43, h44, o45, hF⟩ := cl_inv hF
        refine xz (xq_callV (As := [.int _]) (rest := []) dX12_walk_303 mk_X12_begin ⟨tw_1339, tw_1341, ts_58⟩ (ci := 11) rfl e46 t47 (FX12_begin_ok o45) xP_q (by decide) (by decide) rfl rfl ?_)
        refine xe_aload_n dX12_walk_306 rfl rfl ?_
        obtain ⟨a50, e51, t52, hF⟩ := gI_inv hF
        refine xq_getI dX12_walk_307 fl_SeldomOpsModel_330 xk_11 e51 t52 rfl ?_
        refine xe_iconst (v := (-1)) dX12_walk_310 (by decide) ?_
        refine xe_icmp_eq (tgt := 323) dX12_walk_311 (by decide) (fun c53 => ?_) (fun c53 => ?_)
        · replace hF := if_p c53 hF
          exact xv.lv (BX12_walk_323_ok ih hF) (xsub_cons rfl (xsub_cons rfl xsub_nil))
        · replace hF := if_n c53 hF
          refine xe_aload_n dX12_walk_314 rfl rfl ?_
          obtain ⟨a59, e57, t58, hF⟩ := rcv_inv hF
          obtain ⟨v54, h55, o56, hF⟩ := cl_inv hF
          refine xz (xq_callV (As := []) (rest := []) dX12_walk_315 mk_X12_isCaught ⟨tw_1422, tw_1424, ts_73⟩ (ci := 11) rfl e57 t58 (FX12_isCaught_ok o56) xPZ_q (by decide) (by decide) rfl rfl ?_)
          refine xe_if_ne (tgt := 323) dX12_walk_318 (by decide) (fun c60 => ?_) (fun c60 => ?_)
          · replace hF := if_p c60 hF
            refine xe_iconst (v := 1) dX12_walk_321 (by decide) ?_
            exact xe_ireturn dX12_walk_322 (xP_ret (mk := mkI) hF)
          · replace hF := if_n c60 hF
            exact xv.lv (BX12_walk_323_ok ih hF) (xsub_cons rfl (xsub_cons rfl xsub_nil))
    · replace hF := if_n c5 hF
      refine xe_iconst (v := 0) dX12_walk_368 (by decide) ?_
      exact xe_ireturn dX12_walk_369 (xP_ret (mk := mkI) hF)
def BX12_walk_228 (k159 : Option Nat → Int32 → Int32 → Int32 → Int32 → Hp → Option (Int32 × Hp)) (x0 : Option Nat) (x1 : Int32) (x2 : Int32) (x4 : Int32) (x5 : Int32) (x6 : Int32) (s0 : Option Nat) (s1 : Int32) (s2 : Int64) (h0 : Hp) : Option (Int32 × Hp) :=
  sL h0 s0 s1 s2 fun h1 =>
  cl (FX12_wordsOf x6 h1) fun v8 h9 =>
  k159 x0 x1 x2 (x4 + v8) (x5 + 1) h9
set_option maxRecDepth 100000 in
set_option maxHeartbeats 4000000 in
theorem BX12_walk_228_ok {G : xG} {l : Launch} {k159 : Option Nat → Int32 → Int32 → Int32 → Int32 → Hp → Option (Int32 × Hp)} (hk159 : ∀ {x0 : Option Nat} {x1 : Int32} {x2 : Int32} {x4 : Int32} {x5 : Int32} {h0 h1 : Hp} {r : Int32}, k159 x0 x1 x2 x4 x5 h0 = some (r, h1) → xv G l mX12_walk 7 0 0 159 [(0, false, va_rf x0), (1, false, .int x1), (2, false, .int x2), (4, false, .int x4), (5, false, .int x5)] [] h0 (xP mkI r h1)) {x0 : Option Nat} {x1 : Int32} {x2 : Int32} {x4 : Int32} {x5 : Int32} {x6 : Int32} {s0 : Option Nat} {s1 : Int32} {s2 : Int64} {h0 h1 : Hp} {r : Int32} (hF : BX12_walk_228 k159 x0 x1 x2 x4 x5 x6 s0 s1 s2 h0 = some (r, h1)) : xv G l mX12_walk 7 0 0 228 [(0, false, va_rf x0), (1, false, .int x1), (2, false, .int x2), (4, false, .int x4), (5, false, .int x5), (6, false, .int x6)] [.long s2, .int s1, va_rf s0] h0 (xP mkI r h1) := by
  unfold BX12_walk_228 at hF
  obtain ⟨a2, n3, e4, t5, b6, hF⟩ := sL_inv hF
  refine xq_last dX12_walk_228 e4 t5 b6 ?_
  refine xe_iload dX12_walk_229 rfl ?_
  refine xe_iload dX12_walk_231 rfl ?_
  obtain ⟨v8, h9, o10, hF⟩ := cl_inv hF
  refine xz (xq_callS (As := [.int _]) (rest := [.int _]) dX12_walk_233 mk_X12_wordsOf ⟨tw_1190, tw_1191⟩ (FX12_wordsOf_ok o10) xP_q (by decide) (Nat.le_trans (cs_i cs_0) (by decide)) rfl rfl ?_)
  refine xe_iadd dX12_walk_236 ?_
  refine xe_istore dX12_walk_237 (by decide) ?_
  refine xe_iinc (v := _ + 1) dX12_walk_239 rfl rfl (by decide) ?_
  refine xe_goto (tgt := 159) dX12_walk_242 (by decide) ?_
  exact xv.lv (hk159 hF) (xsub_cons rfl (xsub_cons rfl (xsub_cons rfl (xsub_cons rfl (xsub_cons rfl xsub_nil)))))
def BX12_walk_159 : Nat → Option Nat → Int32 → Int32 → Int32 → Int32 → Hp → Option (Int32 × Hp)
  | 0, _, _, _, _, _, _ => none
  | n + 1, x0, x1, x2, x4, x5, h0 =>
    gI h0 x0 11 34 fun v1 =>
    if (x5 : Int32) < v1 then
      gR h0 x0 11 4 fun v6 =>
      aI h0 v6 .int ((8 * x1) + x5) fun v10 =>
      gR h0 x0 11 52 fun v16 =>
      if (v10 : Int32) = 4 then
        BX12_walk_228 (BX12_walk_159 n) x0 x1 x2 x4 x5 v10 v16 x4 (-1) h0
      else
        cl (FX12_wordsOf v10 h0) fun v21 h22 =>
        if (v21 : Int32) = 2 then
          gR h22 x0 11 35 fun v25 =>
          aL h22 v25 x5 fun v29 =>
          BX12_walk_228 (BX12_walk_159 n) x0 x1 x2 x4 x5 v10 v16 x4 v29 h22
        else
          gR h22 x0 11 35 fun v35 =>
          aL h22 v35 x5 fun v39 =>
          BX12_walk_228 (BX12_walk_159 n) x0 x1 x2 x4 x5 v10 v16 x4 (Int32.toInt64 (Int64.toInt32 v39)) h22
    else
      pI h0 x0 11 34 0 fun h48 =>
      BX12_walk_250 100000 x0 x2 h48
set_option maxRecDepth 100000 in
set_option maxHeartbeats 4000000 in
theorem BX12_walk_159_ok {G : xG} {l : Launch} : ∀ (n : Nat) {x0 : Option Nat} {x1 : Int32} {x2 : Int32} {x4 : Int32} {x5 : Int32} {h0 h1 : Hp} {r : Int32} (hF : BX12_walk_159 n x0 x1 x2 x4 x5 h0 = some (r, h1)), xv G l mX12_walk 7 0 0 159 [(0, false, va_rf x0), (1, false, .int x1), (2, false, .int x2), (4, false, .int x4), (5, false, .int x5)] [] h0 (xP mkI r h1) := by
  intro n
  induction n with
  | zero => intro x0 x1 x2 x4 x5 h0 h1 r hF; cases hF
  | succ n ih =>
    intro x0 x1 x2 x4 x5 h0 h1 r hF
    unfold BX12_walk_159 at hF
    refine xe_iload dX12_walk_159 rfl ?_
    refine xe_aload_n dX12_walk_161 rfl rfl ?_
    obtain ⟨a2, e3, t4, hF⟩ := gI_inv hF
    refine xq_getI dX12_walk_162 fl_SeldomOpsModel_190 xk_11 e3 t4 rfl ?_
    refine xe_icmp_ge (tgt := 245) dX12_walk_165 (by decide) (fun c5 => ?_) (fun c5 => ?_)
    · replace hF := if_p c5 hF
      refine xe_aload_n dX12_walk_168 rfl rfl ?_
      obtain ⟨a7, e8, t9, hF⟩ := gR_inv hF
      refine xq_getR dX12_walk_169 fl_SeldomOpsModel_19 xk_11 e8 t9 rfl ?_
      refine xe_bipush (v := 8) dX12_walk_172 (by decide) ?_
      refine xe_iload_n dX12_walk_174 rfl rfl ?_
      refine xe_imul dX12_walk_175 ?_
      refine xe_iload dX12_walk_176 rfl ?_
      refine xe_iadd dX12_walk_178 ?_
      obtain ⟨a11, n12, e13, t14, b15, hF⟩ := aI_inv hF
      refine xq_iald dX12_walk_179 e13 t14 b15 ?_
      refine xe_istore dX12_walk_180 (by decide) ?_
      refine xe_aload_n dX12_walk_182 rfl rfl ?_
      obtain ⟨a17, e18, t19, hF⟩ := gR_inv hF
      refine xq_getR dX12_walk_183 fl_SeldomOpsModel_142 xk_11 e18 t19 rfl ?_
      refine xe_iload dX12_walk_186 rfl ?_
      refine xe_iload dX12_walk_188 rfl ?_
      refine xe_iconst (v := 4) dX12_walk_190 (by decide) ?_
      refine xe_icmp_ne (tgt := 200) dX12_walk_191 (by decide) (fun c20 => ?_) (fun c20 => ?_)
      · replace hF := if_p c20 hF
        refine xe_ldc2 (v := (-1)) dX12_walk_194 tw_1209 ?_
        refine xe_goto (tgt := 228) dX12_walk_197 (by decide) ?_
        exact xv.lv (BX12_walk_228_ok ih hF) (xsub_cons rfl (xsub_cons rfl (xsub_cons rfl (xsub_cons rfl (xsub_cons rfl (xsub_cons rfl xsub_nil))))))
      · replace hF := if_n c20 hF
        refine xe_iload dX12_walk_200 rfl ?_
        obtain ⟨v21, h22, o23, hF⟩ := cl_inv hF
        refine xz (xq_callS (As := [.int _]) (rest := [.int _, va_rf _]) dX12_walk_202 mk_X12_wordsOf ⟨tw_1190, tw_1191⟩ (FX12_wordsOf_ok o23) xP_q (by decide) (Nat.le_trans (cs_i (cs_r cs_0)) (by decide)) rfl rfl ?_)
        refine xe_iconst (v := 2) dX12_walk_205 (by decide) ?_
        refine xe_icmp_ne (tgt := 219) dX12_walk_206 (by decide) (fun c24 => ?_) (fun c24 => ?_)
        · replace hF := if_p c24 hF
          refine xe_aload_n dX12_walk_209 rfl rfl ?_
          obtain ⟨a26, e27, t28, hF⟩ := gR_inv hF
          refine xq_getR dX12_walk_210 fl_SeldomOpsModel_103 xk_11 e27 t28 rfl ?_
          refine xe_iload dX12_walk_213 rfl ?_
          obtain ⟨a30, n31, e32, t33, b34, hF⟩ := aL_inv hF
          refine xq_lald dX12_walk_215 e32 t33 b34 ?_
          refine xe_goto (tgt := 228) dX12_walk_216 (by decide) ?_
          exact xv.lv (BX12_walk_228_ok ih hF) (xsub_cons rfl (xsub_cons rfl (xsub_cons rfl (xsub_cons rfl (xsub_cons rfl (xsub_cons rfl xsub_nil))))))
        · replace hF := if_n c24 hF
          refine xe_aload_n dX12_walk_219 rfl rfl ?_
          obtain ⟨a36, e37, t38, hF⟩ := gR_inv hF
          refine xq_getR dX12_walk_220 fl_SeldomOpsModel_103 xk_11 e37 t38 rfl ?_
          refine xe_iload dX12_walk_223 rfl ?_
          obtain ⟨a40, n41, e42, t43, b44, hF⟩ := aL_inv hF
          refine xq_lald dX12_walk_225 e42 t43 b44 ?_
          refine xe_l2i dX12_walk_226 ?_
          refine xe_i2l dX12_walk_227 ?_
          exact xv.lv (BX12_walk_228_ok ih hF) (xsub_cons rfl (xsub_cons rfl (xsub_cons rfl (xsub_cons rfl (xsub_cons rfl (xsub_cons rfl xsub_nil))))))
    · replace hF := if_n c5 hF
      refine xe_aload_n dX12_walk_245 rfl rfl ?_
      refine xe_iconst (v := 0) dX12_walk_246 (by decide) ?_
      obtain ⟨a45, e46, t47, hF⟩ := pI_inv hF
      refine xq_putI dX12_walk_247 fl_SeldomOpsModel_190 xk_11 (by decide) (fun z => by cases z) e46 t47 (Or.inl rfl) ?_
      exact xv.lv (BX12_walk_250_ok _ hF) (xsub_cons rfl (xsub_cons rfl xsub_nil))
def BX12_walk_56 (k28 : Option Nat → Int32 → Int32 → Int32 → Int32 → Hp → Option (Int32 × Hp)) (x0 : Option Nat) (x1 : Int32) (x2 : Int32) (x4 : Int32) (s0 : Int32) (h0 : Hp) : Option (Int32 × Hp) :=
  k28 x0 x1 x2 s0 (x4 + 1) h0
set_option maxRecDepth 100000 in
set_option maxHeartbeats 4000000 in
theorem BX12_walk_56_ok {G : xG} {l : Launch} {k28 : Option Nat → Int32 → Int32 → Int32 → Int32 → Hp → Option (Int32 × Hp)} (hk28 : ∀ {x0 : Option Nat} {x1 : Int32} {x2 : Int32} {x3 : Int32} {x4 : Int32} {h0 h1 : Hp} {r : Int32}, k28 x0 x1 x2 x3 x4 h0 = some (r, h1) → xv G l mX12_walk 7 0 0 28 [(0, false, va_rf x0), (1, false, .int x1), (2, false, .int x2), (3, false, .int x3), (4, false, .int x4)] [] h0 (xP mkI r h1)) {x0 : Option Nat} {x1 : Int32} {x2 : Int32} {x4 : Int32} {s0 : Int32} {h0 h1 : Hp} {r : Int32} (hF : BX12_walk_56 k28 x0 x1 x2 x4 s0 h0 = some (r, h1)) : xv G l mX12_walk 7 0 0 56 [(0, false, va_rf x0), (1, false, .int x1), (2, false, .int x2), (4, false, .int x4)] [.int s0] h0 (xP mkI r h1) := by
  unfold BX12_walk_56 at hF
  refine xe_istore_n dX12_walk_56 rfl (by decide) ?_
  refine xe_iinc (v := _ + 1) dX12_walk_57 rfl rfl (by decide) ?_
  refine xe_goto (tgt := 28) dX12_walk_60 (by decide) ?_
  exact xv.lv (hk28 hF) (xsub_cons rfl (xsub_cons rfl (xsub_cons rfl (xsub_cons rfl (xsub_cons rfl xsub_nil)))))
def BX12_walk_55 (k28 : Option Nat → Int32 → Int32 → Int32 → Int32 → Hp → Option (Int32 × Hp)) (x0 : Option Nat) (x1 : Int32) (x2 : Int32) (x4 : Int32) (h0 : Hp) : Option (Int32 × Hp) :=
  BX12_walk_56 k28 x0 x1 x2 x4 0 h0
set_option maxRecDepth 100000 in
set_option maxHeartbeats 4000000 in
theorem BX12_walk_55_ok {G : xG} {l : Launch} {k28 : Option Nat → Int32 → Int32 → Int32 → Int32 → Hp → Option (Int32 × Hp)} (hk28 : ∀ {x0 : Option Nat} {x1 : Int32} {x2 : Int32} {x3 : Int32} {x4 : Int32} {h0 h1 : Hp} {r : Int32}, k28 x0 x1 x2 x3 x4 h0 = some (r, h1) → xv G l mX12_walk 7 0 0 28 [(0, false, va_rf x0), (1, false, .int x1), (2, false, .int x2), (3, false, .int x3), (4, false, .int x4)] [] h0 (xP mkI r h1)) {x0 : Option Nat} {x1 : Int32} {x2 : Int32} {x4 : Int32} {h0 h1 : Hp} {r : Int32} (hF : BX12_walk_55 k28 x0 x1 x2 x4 h0 = some (r, h1)) : xv G l mX12_walk 7 0 0 55 [(0, false, va_rf x0), (1, false, .int x1), (2, false, .int x2), (4, false, .int x4)] [] h0 (xP mkI r h1) := by
  unfold BX12_walk_55 at hF
  refine xe_iconst (v := 0) dX12_walk_55 (by decide) ?_
  exact xv.lv (BX12_walk_56_ok hk28 hF) (xsub_cons rfl (xsub_cons rfl (xsub_cons rfl (xsub_cons rfl xsub_nil))))
def BX12_walk_28 : Nat → Option Nat → Int32 → Int32 → Int32 → Int32 → Hp → Option (Int32 × Hp)
  | 0, _, _, _, _, _, _ => none
  | n + 1, x0, x1, x2, x3, x4, h0 =>
    gI h0 x0 11 0 fun v1 =>
    if (x4 : Int32) < v1 then
      if (x3 : Int32) = 0 then
        BX12_walk_55 (BX12_walk_28 n) x0 x1 x2 x4 h0
      else
        gR h0 x0 11 14 fun v7 =>
        aI h0 v7 .boolean x4 fun v11 =>
        if (v11 : Int32) = 0 then
          BX12_walk_55 (BX12_walk_28 n) x0 x1 x2 x4 h0
        else
          BX12_walk_56 (BX12_walk_28 n) x0 x1 x2 x4 1 h0
    else
      if (x3 : Int32) = 0 then
        some ((-3), h0)
      else
        gI h0 x0 11 34 fun v19 =>
        gR h0 x0 11 2 fun v23 =>
        aI h0 v23 .int x1 fun v27 =>
        if (v19 : Int32) = v27 then
          pZ h0 x0 11 54 1 fun h37 =>
          pI h37 x0 11 40 0 fun h42 =>
          pI h42 x0 11 46 0 fun h47 =>
          pI h47 x0 11 47 0 fun h52 =>
          pI h52 x0 11 60 0 fun h57 =>
          pI h57 x0 11 56 (-1) fun h62 =>
          pI h62 x0 11 57 (-1) fun h67 =>
          pI h67 x0 11 58 (-1) fun h72 =>
          pI h72 x0 11 59 0 fun h77 =>
          pI h77 x0 11 61 0 fun h82 =>
          pI h82 x0 11 62 0 fun h87 =>
          pI h87 x0 11 63 0 fun h92 =>
          pL h92 x0 11 55 0 fun h97 =>
          rcv h97 x0 11 <|
          cl (FX12_beginCall x0 x1 h97) fun v99 h100 =>
          BX12_walk_159 100000 x0 x1 x2 0 0 h100
        else
          some ((-3), h0)
set_option maxRecDepth 100000 in
set_option maxHeartbeats 4000000 in
theorem BX12_walk_28_ok {G : xG} {l : Launch} : ∀ (n : Nat) {x0 : Option Nat} {x1 : Int32} {x2 : Int32} {x3 : Int32} {x4 : Int32} {h0 h1 : Hp} {r : Int32} (hF : BX12_walk_28 n x0 x1 x2 x3 x4 h0 = some (r, h1)), xv G l mX12_walk 7 0 0 28 [(0, false, va_rf x0), (1, false, .int x1), (2, false, .int x2), (3, false, .int x3), (4, false, .int x4)] [] h0 (xP mkI r h1) := by
  intro n
  induction n with
  | zero => intro x0 x1 x2 x3 x4 h0 h1 r hF; cases hF
  | succ n ih =>
    intro x0 x1 x2 x3 x4 h0 h1 r hF
    unfold BX12_walk_28 at hF
    refine xe_iload dX12_walk_28 rfl ?_
    refine xe_aload_n dX12_walk_30 rfl rfl ?_
    obtain ⟨a2, e3, t4, hF⟩ := gI_inv hF
    refine xq_getI dX12_walk_31 fl_SeldomOpsModel_148 xk_11 e3 t4 rfl ?_
    refine xe_icmp_ge (tgt := 63) dX12_walk_34 (by decide) (fun c5 => ?_) (fun c5 => ?_)
    · replace hF := if_p c5 hF
      refine xe_iload_n dX12_walk_37 rfl rfl ?_
      refine xe_if_eq (tgt := 55) dX12_walk_38 (by decide) (fun c6 => ?_) (fun c6 => ?_)
      · replace hF := if_p c6 hF
        exact xv.lv (BX12_walk_55_ok ih hF) (xsub_cons rfl (xsub_cons rfl (xsub_cons rfl (xsub_cons rfl xsub_nil))))
      · replace hF := if_n c6 hF
        refine xe_aload_n dX12_walk_41 rfl rfl ?_
        obtain ⟨a8, e9, t10, hF⟩ := gR_inv hF
        refine xq_getR dX12_walk_42 fl_SeldomOpsModel_49 xk_11 e9 t10 rfl ?_
        refine xe_iload dX12_walk_45 rfl ?_
        obtain ⟨a12, n13, e14, t15, b16, hF⟩ := aI_inv hF
        refine xq_zald dX12_walk_47 e14 t15 b16 ?_
        refine xe_if_eq (tgt := 55) dX12_walk_48 (by decide) (fun c17 => ?_) (fun c17 => ?_)
        · replace hF := if_p c17 hF
          exact xv.lv (BX12_walk_55_ok ih hF) (xsub_cons rfl (xsub_cons rfl (xsub_cons rfl (xsub_cons rfl xsub_nil))))
        · replace hF := if_n c17 hF
          refine xe_iconst (v := 1) dX12_walk_51 (by decide) ?_
          refine xe_goto (tgt := 56) dX12_walk_52 (by decide) ?_
          exact xv.lv (BX12_walk_56_ok ih hF) (xsub_cons rfl (xsub_cons rfl (xsub_cons rfl (xsub_cons rfl xsub_nil))))
    · replace hF := if_n c5 hF
      refine xe_iload_n dX12_walk_63 rfl rfl ?_
      refine xe_if_eq (tgt := 80) dX12_walk_64 (by decide) (fun c18 => ?_) (fun c18 => ?_)
      · replace hF := if_p c18 hF
        refine xe_bipush (v := (-3)) dX12_walk_80 (by decide) ?_
        exact xe_ireturn dX12_walk_82 (xP_ret (mk := mkI) hF)
      · replace hF := if_n c18 hF
        refine xe_aload_n dX12_walk_67 rfl rfl ?_
        obtain ⟨a20, e21, t22, hF⟩ := gI_inv hF
        refine xq_getI dX12_walk_68 fl_SeldomOpsModel_190 xk_11 e21 t22 rfl ?_
        refine xe_aload_n dX12_walk_71 rfl rfl ?_
        obtain ⟨a24, e25, t26, hF⟩ := gR_inv hF
        refine xq_getR dX12_walk_72 fl_SeldomOpsModel_13 xk_11 e25 t26 rfl ?_
        refine xe_iload_n dX12_walk_75 rfl rfl ?_
        obtain ⟨a28, n29, e30, t31, b32, hF⟩ := aI_inv hF
        refine xq_iald dX12_walk_76 e30 t31 b32 ?_
        refine xe_icmp_eq (tgt := 83) dX12_walk_77 (by decide) (fun c33 => ?_) (fun c33 => ?_)
        · replace hF := if_p c33 hF
          refine xe_aload_n dX12_walk_83 rfl rfl ?_
          refine xe_iconst (v := 1) dX12_walk_84 (by decide) ?_
          obtain ⟨a34, e35, t36, z38, hF⟩ := pZ_inv hF
          refine xq_putI dX12_walk_85 fl_SeldomOpsModel_292 xk_11 (by decide) (fun z => by cases z) e35 t36 (Or.inr ⟨rfl, z38⟩) ?_
          refine xe_aload_n dX12_walk_88 rfl rfl ?_
          refine xe_iconst (v := 0) dX12_walk_89 (by decide) ?_
          obtain ⟨a39, e40, t41, hF⟩ := pI_inv hF
          refine xq_putI dX12_walk_90 fl_SeldomOpsModel_296 xk_11 (by decide) (fun z => by cases z) e40 t41 (Or.inl rfl) ?_
          refine xe_aload_n dX12_walk_93 rfl rfl ?_
          refine xe_iconst (v := 0) dX12_walk_94 (by decide) ?_
          obtain ⟨a44, e45, t46, hF⟩ := pI_inv hF
          refine xq_putI dX12_walk_95 fl_SeldomOpsModel_299 xk_11 (by decide) (fun z => by cases z) e45 t46 (Or.inl rfl) ?_
          refine xe_aload_n dX12_walk_98 rfl rfl ?_
          refine xe_iconst (v := 0) dX12_walk_99 (by decide) ?_
          obtain ⟨a49, e50, t51, hF⟩ := pI_inv hF
          refine xq_putI dX12_walk_100 fl_SeldomOpsModel_284 xk_11 (by decide) (fun z => by cases z) e50 t51 (Or.inl rfl) ?_
          refine xe_aload_n dX12_walk_103 rfl rfl ?_
          refine xe_iconst (v := 0) dX12_walk_104 (by decide) ?_
          obtain ⟨a54, e55, t56, hF⟩ := pI_inv hF
          refine xq_putI dX12_walk_105 fl_SeldomOpsModel_287 xk_11 (by decide) (fun z => by cases z) e55 t56 (Or.inl rfl) ?_
          refine xe_aload_n dX12_walk_108 rfl rfl ?_
          refine xe_iconst (v := (-1)) dX12_walk_109 (by decide) ?_
          obtain ⟨a59, e60, t61, hF⟩ := pI_inv hF
          refine xq_putI dX12_walk_110 fl_SeldomOpsModel_302 xk_11 (by decide) (fun z => by cases z) e60 t61 (Or.inl rfl) ?_
          refine xe_aload_n dX12_walk_113 rfl rfl ?_
          refine xe_iconst (v := (-1)) dX12_walk_114 (by decide) ?_
          obtain ⟨a64, e65, t66, hF⟩ := pI_inv hF
          refine xq_putI dX12_walk_115 fl_SeldomOpsModel_305 xk_11 (by decide) (fun z => by cases z) e65 t66 (Or.inl rfl) ?_
          refine xe_aload_n dX12_walk_118 rfl rfl ?_
          refine xe_iconst (v := (-1)) dX12_walk_119 (by decide) ?_
          obtain ⟨a69, e70, t71, hF⟩ := pI_inv hF
          refine xq_putI dX12_walk_120 fl_SeldomOpsModel_308 xk_11 (by decide) (fun z => by cases z) e70 t71 (Or.inl rfl) ?_
          refine xe_aload_n dX12_walk_123 rfl rfl ?_
          refine xe_iconst (v := 0) dX12_walk_124 (by decide) ?_
          obtain ⟨a74, e75, t76, hF⟩ := pI_inv hF
          refine xq_putI dX12_walk_125 fl_SeldomOpsModel_311 xk_11 (by decide) (fun z => by cases z) e75 t76 (Or.inl rfl) ?_
          refine xe_aload_n dX12_walk_128 rfl rfl ?_
          refine xe_iconst (v := 0) dX12_walk_129 (by decide) ?_
          obtain ⟨a79, e80, t81, hF⟩ := pI_inv hF
          refine xq_putI dX12_walk_130 fl_SeldomOpsModel_314 xk_11 (by decide) (fun z => by cases z) e80 t81 (Or.inl rfl) ?_
          refine xe_aload_n dX12_walk_133 rfl rfl ?_
          refine xe_iconst (v := 0) dX12_walk_134 (by decide) ?_
          obtain ⟨a84, e85, t86, hF⟩ := pI_inv hF
          refine xq_putI dX12_walk_135 fl_SeldomOpsModel_317 xk_11 (by decide) (fun z => by cases z) e85 t86 (Or.inl rfl) ?_
          refine xe_aload_n dX12_walk_138 rfl rfl ?_
          refine xe_iconst (v := 0) dX12_walk_139 (by decide) ?_
          obtain ⟨a89, e90, t91, hF⟩ := pI_inv hF
          refine xq_putI dX12_walk_140 fl_SeldomOpsModel_320 xk_11 (by decide) (fun z => by cases z) e90 t91 (Or.inl rfl) ?_
          refine xe_aload_n dX12_walk_143 rfl rfl ?_
          refine xe_lconst (v := 0) dX12_walk_144 (by decide) ?_
          obtain ⟨a94, e95, t96, hF⟩ := pL_inv hF
          refine xq_putL dX12_walk_145 fl_SeldomOpsModel_323 xk_11 (by decide) (fun z => by cases z) e95 t96 rfl ?_
          refine xe_aload_n dX12_walk_148 rfl rfl ?_
          refine xe_iload_n dX12_walk_149 rfl rfl ?_
          obtain ⟨a104, e102, t103, hF⟩ := rcv_inv hF
          obtain ⟨v99, h100, o101, hF⟩ := cl_inv hF
          refine xz (xq_callV (As := [.int _]) (rest := []) dX12_walk_150 mk_X12_beginCall ⟨tw_1335, tw_1337, ts_57⟩ (ci := 11) rfl e102 t103 (FX12_beginCall_ok o101) xP_q (by decide) (by decide) rfl rfl ?_)
          refine xe_iconst (v := 0) dX12_walk_153 (by decide) ?_
          refine xe_istore dX12_walk_154 (by decide) ?_
          refine xe_iconst (v := 0) dX12_walk_156 (by decide) ?_
          refine xe_istore dX12_walk_157 (by decide) ?_
          exact xv.lv (BX12_walk_159_ok _ hF) (xsub_cons rfl (xsub_cons rfl (xsub_cons rfl (xsub_cons rfl (xsub_cons rfl xsub_nil)))))
        · replace hF := if_n c33 hF
          refine xe_bipush (v := (-3)) dX12_walk_80 (by decide) ?_
          exact xe_ireturn dX12_walk_82 (xP_ret (mk := mkI) hF)
def FX12_walk (p0 : Option Nat) (p1 : Int32) (p2 : Int32) (h0 : Hp) : Option (Int32 × Hp) :=
  rcv h0 p0 11 <|
  cl (FX12_isMethod p0 p1 h0) fun v1 h2 =>
  if (v1 : Int32) = 0 then
    some ((-2), h2)
  else
    cl (FX12_in (Int32.toInt64 p2) 0 3000 h2) fun v8 h9 =>
    if (v8 : Int32) = 0 then
      some ((-2), h9)
    else
      BX12_walk_28 100000 p0 p1 p2 1 0 h9
set_option maxRecDepth 100000 in
set_option maxHeartbeats 4000000 in
theorem FX12_walk_ok {G : xG} {l : Launch} {p0 : Option Nat} {p1 : Int32} {p2 : Int32} {h0 h1 : Hp} {r : Int32} (hF : FX12_walk p0 p1 p2 h0 = some (r, h1)) : xc G l mX12_walk 7 0 0 [va_rf p0, .int p1, .int p2] h0 (xP mkI r h1) := by
  refine xo_I [.inr (.inr _), .inl _, .inl _] (by decide) (Nat.le_of_ble_eq_true rfl) rfl ?_
  show xv _ _ _ _ _ _ _ [(0, false, va_rf p0), (1, false, .int p1), (2, false, .int p2)] _ _ _
  unfold FX12_walk at hF
  refine xe_aload_n dX12_walk_0 rfl rfl ?_
  refine xe_iload_n dX12_walk_1 rfl rfl ?_
  obtain ⟨a6, e4, t5, hF⟩ := rcv_inv hF
  obtain ⟨v1, h2, o3, hF⟩ := cl_inv hF
  refine xz (xq_callV (As := [.int _]) (rest := []) dX12_walk_2 mk_X12_isMethod ⟨tw_1185, tw_1187, ts_38⟩ (ci := 11) rfl e4 t5 (FX12_isMethod_ok o3) xPZ_q (by decide) (by decide) rfl rfl ?_)
  refine xe_if_eq (tgt := 20) dX12_walk_5 (by decide) (fun c7 => ?_) (fun c7 => ?_)
  · replace hF := if_p c7 hF
    refine xe_bipush (v := (-2)) dX12_walk_20 (by decide) ?_
    exact xe_ireturn dX12_walk_22 (xP_ret (mk := mkI) hF)
  · replace hF := if_n c7 hF
    refine xe_iload_n dX12_walk_8 rfl rfl ?_
    refine xe_i2l dX12_walk_9 ?_
    refine xe_lconst (v := 0) dX12_walk_10 (by decide) ?_
    refine xe_ldc2 (v := 3000) dX12_walk_11 tw_1334 ?_
    obtain ⟨v8, h9, o10, hF⟩ := cl_inv hF
    refine xz (xq_callS (As := [.long _, .long _, .long _]) (rest := []) dX12_walk_14 mk_X12_in ⟨tw_1174, tw_1175⟩ (FX12_in_ok o10) xPZ_q (by decide) (by decide) rfl rfl ?_)
    refine xe_if_ne (tgt := 23) dX12_walk_17 (by decide) (fun c11 => ?_) (fun c11 => ?_)
    · replace hF := if_p c11 hF
      refine xe_bipush (v := (-2)) dX12_walk_20 (by decide) ?_
      exact xe_ireturn dX12_walk_22 (xP_ret (mk := mkI) hF)
    · replace hF := if_n c11 hF
      refine xe_iconst (v := 1) dX12_walk_23 (by decide) ?_
      refine xe_istore_n dX12_walk_24 rfl (by decide) ?_
      refine xe_iconst (v := 0) dX12_walk_25 (by decide) ?_
      refine xe_istore dX12_walk_26 (by decide) ?_
      exact xv.lv (BX12_walk_28_ok _ hF) (xsub_cons rfl (xsub_cons rfl (xsub_cons rfl (xsub_cons rfl (xsub_cons rfl xsub_nil)))))
