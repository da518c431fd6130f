/-! SeldomOpsModel.callOrEnd(III)V -/
def BX12_callOrEnd_122 (x0 : Option Nat) (x1 : Int32) (h0 : Hp) : Option (Unit × Hp) :=
  gR h0 x0 11 49 fun v1 =>
  aI h0 v1 .int (x1 - 1) fun v5 =>
  sI h0 v1 (x1 - 1) (v5 + 1) fun h11 =>
  some ((), h11)
set_option maxRecDepth 100000 in
set_option maxHeartbeats 4000000 in
theorem BX12_callOrEnd_122_ok {G : xG} {l : Launch} {x0 : Option Nat} {x1 : Int32} {h0 h1 : Hp} {r : Unit} (hF : BX12_callOrEnd_122 x0 x1 h0 = some (r, h1)) : xv G l mX12_callOrEnd 3 0 0 122 [(0, false, va_rf x0), (1, false, .int x1)] [] h0 (xP mkV r h1) := by
  unfold BX12_callOrEnd_122 at hF
  refine xe_aload_n dX12_callOrEnd_122 rfl rfl ?_
  obtain ⟨a2, e3, t4, hF⟩ := gR_inv hF
  refine xq_getR dX12_callOrEnd_123 fl_SeldomOpsModel_133 xk_11 e3 t4 rfl ?_
  refine xe_iload_n dX12_callOrEnd_126 rfl rfl ?_
  refine xe_iconst (v := 1) dX12_callOrEnd_127 (by decide) ?_
  refine xe_isub dX12_callOrEnd_128 ?_
  refine xe_dup2 dX12_callOrEnd_129 rfl (va_rf_cat _) ?_
  obtain ⟨a6, n7, e8, t9, b10, hF⟩ := aI_inv hF
  refine xq_iald dX12_callOrEnd_130 e8 t9 b10 ?_
  refine xe_iconst (v := 1) dX12_callOrEnd_131 (by decide) ?_
  refine xe_iadd dX12_callOrEnd_132 ?_
  obtain ⟨a12, n13, e14, t15, b16, hF⟩ := sI_inv hF
  refine xq_iast dX12_callOrEnd_133 e14 t15 b16 ?_
  exact xe_return dX12_callOrEnd_134 (xP_ret (mk := mkV) hF)
def BX12_callOrEnd_81 (x0 : Option Nat) (x1 : Int32) (x3 : Int32) (s0 : Int64) (h0 : Hp) : Option (Unit × Hp) :=
  gI h0 x0 11 47 fun v1 =>
  pI h0 x0 11 47 (v1 - 1) fun h8 =>
  gI h8 x0 11 47 fun v10 =>
  if (v10 : Int32) = 0 then
    pL h8 x0 11 55 s0 fun h18 =>
    some ((), h18)
  else
    if (x3 : Int32) < 5 then
      rcv h8 x0 11 <|
      cl (FX12_put x0 (x1 - 1) x3 s0 h8) fun v21 h22 =>
      BX12_callOrEnd_122 x0 x1 h22
    else
      BX12_callOrEnd_122 x0 x1 h8
set_option maxRecDepth 100000 in
set_option maxHeartbeats 4000000 in
theorem BX12_callOrEnd_81_ok {G : xG} {l : Launch} {x0 : Option Nat} {x1 : Int32} {x3 : Int32} {s0 : Int64} {h0 h1 : Hp} {r : Unit} (hF : BX12_callOrEnd_81 x0 x1 x3 s0 h0 = some (r, h1)) : xv G l mX12_callOrEnd 3 0 0 81 [(0, false, va_rf x0), (1, false, .int x1), (3, false, .int x3)] [.long s0] h0 (xP mkV r h1) := by
  unfold BX12_callOrEnd_81 at hF
  refine xe_lstore dX12_callOrEnd_81 (by decide) ?_
  refine xe_aload_n dX12_callOrEnd_83 rfl rfl ?_
  refine xe_dup dX12_callOrEnd_84 (va_rf_cat _) ?_
  obtain ⟨a2, e3, t4, hF⟩ := gI_inv hF
  refine xq_getI dX12_callOrEnd_85 fl_SeldomOpsModel_284 xk_11 e3 t4 rfl ?_
  refine xe_iconst (v := 1) dX12_callOrEnd_88 (by decide) ?_
  refine xe_isub dX12_callOrEnd_89 ?_
  obtain ⟨a5, e6, t7, hF⟩ := pI_inv hF
  refine xq_putI dX12_callOrEnd_90 fl_SeldomOpsModel_284 xk_11 (by decide) (fun z => by cases z) e6 t7 (Or.inl rfl) ?_
  refine xe_aload_n dX12_callOrEnd_93 rfl rfl ?_
  obtain ⟨a11, e12, t13, hF⟩ := gI_inv hF
  refine xq_getI dX12_callOrEnd_94 fl_SeldomOpsModel_284 xk_11 e12 t13 rfl ?_
  refine xe_if_ne (tgt := 107) dX12_callOrEnd_97 (by decide) (fun c14 => ?_) (fun c14 => ?_)
  · replace hF := if_p c14 hF
    refine xe_aload_n dX12_callOrEnd_100 rfl rfl ?_
    refine xe_lload dX12_callOrEnd_101 rfl ?_
    obtain ⟨a15, e16, t17, hF⟩ := pL_inv hF
    refine xq_putL dX12_callOrEnd_103 fl_SeldomOpsModel_323 xk_11 (by decide) (fun z => by cases z) e16 t17 rfl ?_
    exact xe_return dX12_callOrEnd_106 (xP_ret (mk := mkV) hF)
  · replace hF := if_n c14 hF
    refine xe_iload_n dX12_callOrEnd_107 rfl rfl ?_
    refine xe_iconst (v := 5) dX12_callOrEnd_108 (by decide) ?_
    refine xe_icmp_ge (tgt := 122) dX12_callOrEnd_109 (by decide) (fun c20 => ?_) (fun c20 => ?_)
    · replace hF := if_p c20 hF
      refine xe_aload_n dX12_callOrEnd_112 rfl rfl ?_
      refine xe_iload_n dX12_callOrEnd_113 rfl rfl ?_
      refine xe_iconst (v := 1) dX12_callOrEnd_114 (by decide) ?_
      refine xe_isub dX12_callOrEnd_115 ?_
      refine xe_iload_n dX12_callOrEnd_116 rfl rfl ?_
      refine xe_lload dX12_callOrEnd_117 rfl ?_
      obtain ⟨a26, e24, t25, hF⟩ := rcv_inv hF
      obtain ⟨v21, h22, o23, hF⟩ := cl_inv hF
      refine xz (xq_callV (As := [.int _, .int _, .long _]) (rest := []) dX12_callOrEnd_119 mk_X12_put ⟨tw_1351, tw_1353, ts_61⟩ (ci := 11) rfl e24 t25 (FX12_put_ok o23) xP_q (by decide) (by decide) rfl rfl ?_)
      exact xv.lv (BX12_callOrEnd_122_ok hF) (xsub_cons rfl (xsub_cons rfl xsub_nil))
    · replace hF := if_n c20 hF
      exact xv.lv (BX12_callOrEnd_122_ok hF) (xsub_cons rfl (xsub_cons rfl xsub_nil))
def BX12_callOrEnd_46 (k12 : Option Nat → Int32 → Int32 → Int32 → Int32 → Hp → Option (Unit × Hp)) (x0 : Option Nat) (x1 : Int32) (x3 : Int32) (x5 : Int32) (s0 : Int32) (h0 : Hp) : Option (Unit × Hp) :=
  k12 x0 x1 x3 s0 (x5 + 1) h0
set_option maxRecDepth 100000 in
set_option maxHeartbeats 4000000 in
theorem BX12_callOrEnd_46_ok {G : xG} {l : Launch} {k12 : Option Nat → Int32 → Int32 → Int32 → Int32 → Hp → Option (Unit × Hp)} (hk12 : ∀ {x0 : Option Nat} {x1 : Int32} {x3 : Int32} {x4 : Int32} {x5 : Int32} {h0 h1 : Hp} {r : Unit}, k12 x0 x1 x3 x4 x5 h0 = some (r, h1) → xv G l mX12_callOrEnd 3 0 0 12 [(0, false, va_rf x0), (1, false, .int x1), (3, false, .int x3), (4, false, .int x4), (5, false, .int x5)] [] h0 (xP mkV r h1)) {x0 : Option Nat} {x1 : Int32} {x3 : Int32} {x5 : Int32} {s0 : Int32} {h0 h1 : Hp} {r : Unit} (hF : BX12_callOrEnd_46 k12 x0 x1 x3 x5 s0 h0 = some (r, h1)) : xv G l mX12_callOrEnd 3 0 0 46 [(0, false, va_rf x0), (1, false, .int x1), (3, false, .int x3), (5, false, .int x5)] [.int s0] h0 (xP mkV r h1) := by
  unfold BX12_callOrEnd_46 at hF
  refine xe_istore dX12_callOrEnd_46 (by decide) ?_
  refine xe_iinc (v := _ + 1) dX12_callOrEnd_48 rfl rfl (by decide) ?_
  refine xe_goto (tgt := 12) dX12_callOrEnd_51 (by decide) ?_
  exact xv.lv (hk12 hF) (xsub_cons rfl (xsub_cons rfl (xsub_cons rfl (xsub_cons rfl (xsub_cons rfl xsub_nil)))))
def BX12_callOrEnd_41 (k12 : Option Nat → Int32 → Int32 → Int32 → Int32 → Hp → Option (Unit × Hp)) (x0 : Option Nat) (x1 : Int32) (x3 : Int32) (x5 : Int32) (h0 : Hp) : Option (Unit × Hp) :=
  BX12_callOrEnd_46 k12 x0 x1 x3 x5 1 h0
set_option maxRecDepth 100000 in
set_option maxHeartbeats 4000000 in
theorem BX12_callOrEnd_41_ok {G : xG} {l : Launch} {k12 : Option Nat → Int32 → Int32 → Int32 → Int32 → Hp → Option (Unit × Hp)} (hk12 : ∀ {x0 : Option Nat} {x1 : Int32} {x3 : Int32} {x4 : Int32} {x5 : Int32} {h0 h1 : Hp} {r : Unit}, k12 x0 x1 x3 x4 x5 h0 = some (r, h1) → xv G l mX12_callOrEnd 3 0 0 12 [(0, false, va_rf x0), (1, false, .int x1), (3, false, .int x3), (4, false, .int x4), (5, false, .int x5)] [] h0 (xP mkV r h1)) {x0 : Option Nat} {x1 : Int32} {x3 : Int32} {x5 : Int32} {h0 h1 : Hp} {r : Unit} (hF : BX12_callOrEnd_41 k12 x0 x1 x3 x5 h0 = some (r, h1)) : xv G l mX12_callOrEnd 3 0 0 41 [(0, false, va_rf x0), (1, false, .int x1), (3, false, .int x3), (5, false, .int x5)] [] h0 (xP mkV r h1) := by
  unfold BX12_callOrEnd_41 at hF
  refine xe_iconst (v := 1) dX12_callOrEnd_41 (by decide) ?_
  refine xe_goto (tgt := 46) dX12_callOrEnd_42 (by decide) ?_
  exact xv.lv (BX12_callOrEnd_46_ok hk12 hF) (xsub_cons rfl (xsub_cons rfl (xsub_cons rfl (xsub_cons rfl xsub_nil))))
def BX12_callOrEnd_12 : Nat → Option Nat → Int32 → Int32 → Int32 → Int32 → Hp → Option (Unit × Hp)
  | 0, _, _, _, _, _, _ => none
  | n + 1, x0, x1, x3, x4, x5, h0 =>
    gI h0 x0 11 40 fun v1 =>
    if (x5 : Int32) < v1 then
      if (x4 : Int32) = 0 then
        gR h0 x0 11 53 fun v7 =>
        aI h0 v7 .int ((60 * x1) + x5) fun v11 =>
        if (0 : Int32) < v11 then
          BX12_callOrEnd_41 (BX12_callOrEnd_12 n) x0 x1 x3 x5 h0
        else
          BX12_callOrEnd_46 (BX12_callOrEnd_12 n) x0 x1 x3 x5 0 h0
      else
        BX12_callOrEnd_41 (BX12_callOrEnd_12 n) x0 x1 x3 x5 h0
    else
      if (x4 : Int32) = 0 then
        if (x3 : Int32) < 5 then
          rcv h0 x0 11 <|
          cl (FX12_take x0 x1 x3 h0) fun v20 h21 =>
          BX12_callOrEnd_81 x0 x1 x3 v20 h21
        else
          BX12_callOrEnd_81 x0 x1 x3 0 h0
      else
        rcv h0 x0 11 <|
        cl (FX12_fail x0 6 h0) fun v26 h27 =>
        some ((), h27)
set_option maxRecDepth 100000 in
set_option maxHeartbeats 4000000 in
theorem BX12_callOrEnd_12_ok {G : xG} {l : Launch} : ∀ (n : Nat) {x0 : Option Nat} {x1 : Int32} {x3 : Int32} {x4 : Int32} {x5 : Int32} {h0 h1 : Hp} {r : Unit} (hF : BX12_callOrEnd_12 n x0 x1 x3 x4 x5 h0 = some (r, h1)), xv G l mX12_callOrEnd 3 0 0 12 [(0, false, va_rf x0), (1, false, .int x1), (3, false, .int x3), (4, false, .int x4), (5, false, .int x5)] [] h0 (xP mkV r h1) := by
  intro n
  induction n with
  | zero => intro x0 x1 x3 x4 x5 h0 h1 r hF; cases hF
  | succ n ih =>
    intro x0 x1 x3 x4 x5 h0 h1 r hF
    unfold BX12_callOrEnd_12 at hF
    refine xe_iload dX12_callOrEnd_12 rfl ?_
    refine xe_aload_n dX12_callOrEnd_14 rfl rfl ?_
    obtain ⟨a2, e3, t4, hF⟩ := gI_inv hF
    refine xq_getI dX12_callOrEnd_15 fl_SeldomOpsModel_296 xk_11 e3 t4 rfl ?_
    refine xe_icmp_ge (tgt := 54) dX12_callOrEnd_18 (by decide) (fun c5 => ?_) (fun c5 => ?_)
    · replace hF := if_p c5 hF
      refine xe_iload dX12_callOrEnd_21 rfl ?_
      refine xe_if_ne (tgt := 41) dX12_callOrEnd_23 (by decide) (fun c6 => ?_) (fun c6 => ?_)
      · replace hF := if_p c6 hF
        refine xe_aload_n dX12_callOrEnd_26 rfl rfl ?_
        obtain ⟨a8, e9, t10, hF⟩ := gR_inv hF
        refine xq_getR dX12_callOrEnd_27 fl_SeldomOpsModel_145 xk_11 e9 t10 rfl ?_
        refine xe_bipush (v := 60) dX12_callOrEnd_30 (by decide) ?_
        refine xe_iload_n dX12_callOrEnd_32 rfl rfl ?_
        refine xe_imul dX12_callOrEnd_33 ?_
        refine xe_iload dX12_callOrEnd_34 rfl ?_
        refine xe_iadd dX12_callOrEnd_36 ?_
        obtain ⟨a12, n13, e14, t15, b16, hF⟩ := aI_inv hF
        refine xq_iald dX12_callOrEnd_37 e14 t15 b16 ?_
        refine xe_if_le (tgt := 45) dX12_callOrEnd_38 (by decide) (fun c17 => ?_) (fun c17 => ?_)
        · replace hF := if_p c17 hF
          exact xv.lv (BX12_callOrEnd_41_ok ih hF) (xsub_cons rfl (xsub_cons rfl (xsub_cons rfl (xsub_cons rfl xsub_nil))))
        · replace hF := if_n c17 hF
          refine xe_iconst (v := 0) dX12_callOrEnd_45 (by decide) ?_
          exact xv.lv (BX12_callOrEnd_46_ok ih hF) (xsub_cons rfl (xsub_cons rfl (xsub_cons rfl (xsub_cons rfl xsub_nil))))
      · replace hF := if_n c6 hF
        exact xv.lv (BX12_callOrEnd_41_ok ih hF) (xsub_cons rfl (xsub_cons rfl (xsub_cons rfl (xsub_cons rfl xsub_nil))))
    · replace hF := if_n c5 hF
      refine xe_iload dX12_callOrEnd_54 rfl ?_
      refine xe_if_eq (tgt := 66) dX12_callOrEnd_56 (by decide) (fun c18 => ?_) (fun c18 => ?_)
      · replace hF := if_p c18 hF
        refine xe_iload_n dX12_callOrEnd_66 rfl rfl ?_
        refine xe_iconst (v := 5) dX12_callOrEnd_67 (by decide) ?_
        refine xe_icmp_ge (tgt := 80) dX12_callOrEnd_68 (by decide) (fun c19 => ?_) (fun c19 => ?_)
        · replace hF := if_p c19 hF
          refine xe_aload_n dX12_callOrEnd_71 rfl rfl ?_
          refine xe_iload_n dX12_callOrEnd_72 rfl rfl ?_
          refine xe_iload_n dX12_callOrEnd_73 rfl rfl ?_
          obtain ⟨a25, e23, t24, hF⟩ := rcv_inv hF
          obtain ⟨v20, h21, o22, hF⟩ := cl_inv hF
          refine xz (xq_callV (As := [.int _, .int _]) (rest := []) dX12_callOrEnd_74 mk_X12_take ⟨tw_1355, tw_1357, ts_62⟩ (ci := 11) rfl e23 t24 (FX12_take_ok o22) xP_q (by decide) (by decide) rfl rfl ?_)
          refine xe_goto (tgt := 81) dX12_callOrEnd_77 (by decide) ?_
          exact xv.lv (BX12_callOrEnd_81_ok hF) (xsub_cons rfl (xsub_cons rfl (xsub_cons rfl xsub_nil)))
        · replace hF := if_n c19 hF
          refine xe_lconst (v := 0) dX12_callOrEnd_80 (by decide) ?_
          exact xv.lv (BX12_callOrEnd_81_ok hF) (xsub_cons rfl (xsub_cons rfl (xsub_cons rfl xsub_nil)))
      · replace hF := if_n c18 hF
        refine xe_aload_n dX12_callOrEnd_59 rfl rfl ?_
        refine xe_bipush (v := 6) dX12_callOrEnd_60 (by decide) ?_
        obtain ⟨a31, e29, t30, hF⟩ := rcv_inv hF
        obtain ⟨v26, h27, o28, hF⟩ := cl_inv hF
        refine xz (xq_callV (As := [.int _]) (rest := []) dX12_callOrEnd_62 mk_X12_fail ⟨tw_1363, tw_1365, ts_64⟩ (ci := 11) rfl e29 t30 (FX12_fail_ok o28) xP_q (by decide) (by decide) rfl rfl ?_)
        exact xe_return dX12_callOrEnd_65 (xP_ret (mk := mkV) hF)
def BX12_callOrEnd_174 : Nat → Option Nat → Int32 → Int32 → Int32 → Int32 → Hp → Option (Unit × Hp)
  | 0, _, _, _, _, _, _ => none
  | n + 1, x0, x1, x3, x4, x5, h0 =>
    if (x5 : Int32) < 0 then
      some ((), h0)
    else
      gR h0 x0 11 4 fun v2 =>
      aI h0 v2 .int ((8 * x3) + x5) fun v6 =>
      cl (FX12_wordsOf v6 h0) fun v12 h13 =>
      gR h13 x0 11 52 fun v15 =>
      rcv h13 x0 11 <|
      cl (FX12_take x0 x1 v6 h13) fun v19 h20 =>
      sL h20 v15 ((18 * (x1 + 1)) + (x4 - v12)) v19 fun h25 =>
      BX12_callOrEnd_174 n x0 x1 x3 (x4 - v12) (x5 + (-1)) h25
set_option maxRecDepth 100000 in
set_option maxHeartbeats 4000000 in
theorem BX12_callOrEnd_174_ok {G : xG} {l : Launch} : ∀ (n : Nat) {x0 : Option Nat} {x1 : Int32} {x3 : Int32} {x4 : Int32} {x5 : Int32} {h0 h1 : Hp} {r : Unit} (hF : BX12_callOrEnd_174 n x0 x1 x3 x4 x5 h0 = some (r, h1)), xv G l mX12_callOrEnd 3 0 0 174 [(0, false, va_rf x0), (1, false, .int x1), (3, false, .int x3), (4, false, .int x4), (5, false, .int x5)] [] h0 (xP mkV r h1) := by
  intro n
  induction n with
  | zero => intro x0 x1 x3 x4 x5 h0 h1 r hF; cases hF
  | succ n ih =>
    intro x0 x1 x3 x4 x5 h0 h1 r hF
    unfold BX12_callOrEnd_174 at hF
    refine xe_iload dX12_callOrEnd_174 rfl ?_
    refine xe_if_lt (tgt := 230) dX12_callOrEnd_176 (by decide) (fun c1 => ?_) (fun c1 => ?_)
    · replace hF := if_p c1 hF
      exact xe_return dX12_callOrEnd_230 (xP_ret (mk := mkV) hF)
    · replace hF := if_n c1 hF
      refine xe_aload_n dX12_callOrEnd_179 rfl rfl ?_
      obtain ⟨a3, e4, t5, hF⟩ := gR_inv hF
      refine xq_getR dX12_callOrEnd_180 fl_SeldomOpsModel_19 xk_11 e4 t5 rfl ?_
      refine xe_bipush (v := 8) dX12_callOrEnd_183 (by decide) ?_
      refine xe_iload_n dX12_callOrEnd_185 rfl rfl ?_
      refine xe_imul dX12_callOrEnd_186 ?_
      refine xe_iload dX12_callOrEnd_187 rfl ?_
      refine xe_iadd dX12_callOrEnd_189 ?_
      obtain ⟨a7, n8, e9, t10, b11, hF⟩ := aI_inv hF
      refine xq_iald dX12_callOrEnd_190 e9 t10 b11 ?_
      refine xe_istore dX12_callOrEnd_191 (by decide) ?_
      refine xe_iload dX12_callOrEnd_193 rfl ?_
      refine xe_iload dX12_callOrEnd_195 rfl ?_
      obtain ⟨v12, h13, o14, hF⟩ := cl_inv hF
      refine xz (xq_callS (As := [.int _]) (rest := [.int _]) dX12_callOrEnd_197 mk_X12_wordsOf ⟨tw_1190, tw_1191⟩ (FX12_wordsOf_ok o14) xP_q (by decide) (Nat.le_trans (cs_i cs_0) (by decide)) rfl rfl ?_)
      refine xe_isub dX12_callOrEnd_200 ?_
      refine xe_istore dX12_callOrEnd_201 (by decide) ?_
      refine xe_aload_n dX12_callOrEnd_203 rfl rfl ?_
      obtain ⟨a16, e17, t18, hF⟩ := gR_inv hF
      refine xq_getR dX12_callOrEnd_204 fl_SeldomOpsModel_142 xk_11 e17 t18 rfl ?_
      refine xe_bipush (v := 18) dX12_callOrEnd_207 (by decide) ?_
      refine xe_iload_n dX12_callOrEnd_209 rfl rfl ?_
      refine xe_iconst (v := 1) dX12_callOrEnd_210 (by decide) ?_
      refine xe_iadd dX12_callOrEnd_211 ?_
      refine xe_imul dX12_callOrEnd_212 ?_
      refine xe_iload dX12_callOrEnd_213 rfl ?_
      refine xe_iadd dX12_callOrEnd_215 ?_
      refine xe_aload_n dX12_callOrEnd_216 rfl rfl ?_
      refine xe_iload_n dX12_callOrEnd_217 rfl rfl ?_
      refine xe_iload dX12_callOrEnd_218 rfl ?_
      obtain ⟨a24, e22, t23, hF⟩ := rcv_inv hF
      obtain ⟨v19, h20, o21, hF⟩ := cl_inv hF
      refine xz (xq_callV (As := [.int _, .int _]) (rest := [.int _, va_rf _]) dX12_callOrEnd_220 mk_X12_take ⟨tw_1355, tw_1357, ts_62⟩ (ci := 11) rfl e22 t23 (FX12_take_ok o21) xP_q (by decide) (Nat.le_trans (cs_i (cs_r cs_0)) (by decide)) rfl rfl ?_)
      obtain ⟨a26, n27, e28, t29, b30, hF⟩ := sL_inv hF
      refine xq_last dX12_callOrEnd_223 e28 t29 b30 ?_
      refine xe_iinc (v := _ + (-1)) dX12_callOrEnd_224 rfl rfl (by decide) ?_
      refine xe_goto (tgt := 174) dX12_callOrEnd_227 (by decide) ?_
      exact xv.lv (ih hF) (xsub_cons rfl (xsub_cons rfl (xsub_cons rfl (xsub_cons rfl (xsub_cons rfl xsub_nil)))))
def FX12_callOrEnd (p0 : Option Nat) (p1 : Int32) (p2 : Int32) (p3 : Int32) (h0 : Hp) : Option (Unit × Hp) :=
  if (p2 : Int32) = 34 then
    BX12_callOrEnd_12 100000 p0 p1 p3 0 0 h0
  else
    gI h0 p0 11 47 fun v2 =>
    if (v2 : Int32) = 6 then
      rcv h0 p0 11 <|
      cl (FX12_fail p0 8 h0) fun v7 h8 =>
      some ((), h8)
    else
      rcv h0 p0 11 <|
      cl (FX12_beginCall p0 p3 h0) fun v13 h14 =>
      gR h14 p0 11 3 fun v19 =>
      aI h14 v19 .int p3 fun v23 =>
      gR h14 p0 11 2 fun v29 =>
      aI h14 v29 .int p3 fun v33 =>
      BX12_callOrEnd_174 100000 p0 p1 p3 v23 (v33 - 1) h14
set_option maxRecDepth 100000 in
set_option maxHeartbeats 4000000 in
theorem FX12_callOrEnd_ok {G : xG} {l : Launch} {p0 : Option Nat} {p1 : Int32} {p2 : Int32} {p3 : Int32} {h0 h1 : Hp} {r : Unit} (hF : FX12_callOrEnd p0 p1 p2 p3 h0 = some (r, h1)) : xc G l mX12_callOrEnd 3 0 0 [va_rf p0, .int p1, .int p2, .int p3] h0 (xP mkV r h1) := by
  refine xo_V [.inr (.inr _), .inl _, .inl _, .inl _] (by decide) (Nat.le_of_ble_eq_true rfl) rfl ?_
  show xv _ _ _ _ _ _ _ [(0, false, va_rf p0), (1, false, .int p1), (2, false, .int p2), (3, false, .int p3)] _ _ _
  unfold FX12_callOrEnd at hF
  refine xe_iload_n dX12_callOrEnd_0 rfl rfl ?_
  refine xe_bipush (v := 34) dX12_callOrEnd_1 (by decide) ?_
  refine xe_icmp_ne (tgt := 135) dX12_callOrEnd_3 (by decide) (fun c1 => ?_) (fun c1 => ?_)
  · replace hF := if_p c1 hF
    refine xe_iconst (v := 0) dX12_callOrEnd_6 (by decide) ?_
    refine xe_istore dX12_callOrEnd_7 (by decide) ?_
    refine xe_iconst (v := 0) dX12_callOrEnd_9 (by decide) ?_
    refine xe_istore dX12_callOrEnd_10 (by decide) ?_
    exact xv.lv (BX12_callOrEnd_12_ok _ hF) (xsub_cons rfl (xsub_cons rfl (xsub_cons rfl (xsub_cons rfl (xsub_cons rfl xsub_nil)))))
  · replace hF := if_n c1 hF
    refine xe_aload_n dX12_callOrEnd_135 rfl rfl ?_
    obtain ⟨a3, e4, t5, hF⟩ := gI_inv hF
    refine xq_getI dX12_callOrEnd_136 fl_SeldomOpsModel_284 xk_11 e4 t5 rfl ?_
    refine xe_bipush (v := 6) dX12_callOrEnd_139 (by decide) ?_
    refine xe_icmp_ne (tgt := 151) dX12_callOrEnd_141 (by decide) (fun c6 => ?_) (fun c6 => ?_)
    · replace hF := if_p c6 hF
      refine xe_aload_n dX12_callOrEnd_144 rfl rfl ?_
      refine xe_bipush (v := 8) dX12_callOrEnd_145 (by decide) ?_
      obtain ⟨a12, e10, t11, hF⟩ := rcv_inv hF
      obtain ⟨v7, h8, o9, hF⟩ := cl_inv hF
      refine xz (xq_callV (As := [.int _]) (rest := []) dX12_callOrEnd_147 mk_X12_fail ⟨tw_1363, tw_1365, ts_64⟩ (ci := 11) rfl e10 t11 (FX12_fail_ok o9) xP_q (by decide) (by decide) rfl rfl ?_)
      exact xe_return dX12_callOrEnd_150 (xP_ret (mk := mkV) hF)
    · replace hF := if_n c6 hF
      refine xe_aload_n dX12_callOrEnd_151 rfl rfl ?_
      refine xe_iload_n dX12_callOrEnd_152 rfl rfl ?_
      obtain ⟨a18, e16, t17, hF⟩ := rcv_inv hF
      obtain ⟨v13, h14, o15, hF⟩ := cl_inv hF
      refine xz (xq_callV (As := [.int _]) (rest := []) dX12_callOrEnd_153 mk_X12_beginCall ⟨tw_1335, tw_1337, ts_57⟩ (ci := 11) rfl e16 t17 (FX12_beginCall_ok o15) xP_q (by decide) (by decide) rfl rfl ?_)
      refine xe_aload_n dX12_callOrEnd_156 rfl rfl ?_
      obtain ⟨a20, e21, t22, hF⟩ := gR_inv hF
      refine xq_getR dX12_callOrEnd_157 fl_SeldomOpsModel_16 xk_11 e21 t22 rfl ?_
      refine xe_iload_n dX12_callOrEnd_160 rfl rfl ?_
      obtain ⟨a24, n25, e26, t27, b28, hF⟩ := aI_inv hF
      refine xq_iald dX12_callOrEnd_161 e26 t27 b28 ?_
      refine xe_istore dX12_callOrEnd_162 (by decide) ?_
      refine xe_aload_n dX12_callOrEnd_164 rfl rfl ?_
      obtain ⟨a30, e31, t32, hF⟩ := gR_inv hF
      refine xq_getR dX12_callOrEnd_165 fl_SeldomOpsModel_13 xk_11 e31 t32 rfl ?_
      refine xe_iload_n dX12_callOrEnd_168 rfl rfl ?_
      obtain ⟨a34, n35, e36, t37, b38, hF⟩ := aI_inv hF
      refine xq_iald dX12_callOrEnd_169 e36 t37 b38 ?_
      refine xe_iconst (v := 1) dX12_callOrEnd_170 (by decide) ?_
      refine xe_isub dX12_callOrEnd_171 ?_
      refine xe_istore dX12_callOrEnd_172 (by decide) ?_
      exact xv.lv (BX12_callOrEnd_174_ok _ hF) (xsub_cons rfl (xsub_cons rfl (xsub_cons rfl (xsub_cons rfl (xsub_cons rfl xsub_nil)))))
/-! SeldomOpsModel.begin(I)V -/
def FX12_begin (p0 : Option Nat) (p1 : Int32) (h0 : Hp) : Option (Unit × Hp) :=
  gR h0 p0 11 48 fun v1 =>
  aI h0 v1 .int p1 fun v5 =>
  gR h0 p0 11 49 fun v11 =>
  aI h0 v11 .int p1 fun v15 =>
  gR h0 p0 11 6 fun v21 =>
  aI h0 v21 .int ((60 * v5) + v15) fun v25 =>
  gR h0 p0 11 7 fun v31 =>
  aI h0 v31 .int ((60 * v5) + v15) fun v35 =>
  gR h0 p0 11 8 fun v41 =>
  aI h0 v41 .int ((60 * v5) + v15) fun v45 =>
  cl (FX12_in (Int32.toInt64 v25) 8 16 h0) fun v51 h52 =>
  if (v51 : Int32) = 0 then
    if (v25 : Int32) < 8 then
      rcv h52 p0 11 <|
      cl (FX12_plain p0 p1 v25 v35 v45 h52) fun v56 h57 =>
      gR h57 p0 11 49 fun v62 =>
      aI h57 v62 .int p1 fun v66 =>
      sI h57 v62 p1 (v66 + 1) fun h72 =>
      some ((), h72)
    else
      if (v25 : Int32) < 20 then
        rcv h52 p0 11 <|
        cl (FX12_number3 p0 p1 v25 v35 v45 h52) fun v80 h81 =>
        gR h81 p0 11 49 fun v86 =>
        aI h81 v86 .int p1 fun v90 =>
        gI h81 p0 11 64 fun v96 =>
        if (v96 : Int32) = (-1) then
          sI h81 v86 p1 (v90 + 1) fun h101 =>
          some ((), h101)
        else
          sI h81 v86 p1 (v90 + 0) fun h108 =>
          some ((), h108)
      else
        if (v25 : Int32) < 24 then
          gR h52 p0 11 49 fun v116 =>
          rcv h52 p0 11 <|
          cl (FX12_leads p0 p1 v25 v35 v45 h52) fun v120 h121 =>
          if (v120 : Int32) = 0 then
            gR h121 p0 11 49 fun v127 =>
            aI h121 v127 .int p1 fun v131 =>
            sI h121 v116 p1 (v131 + 1) fun h137 =>
            some ((), h137)
          else
            gI h121 p0 11 66 fun v144 =>
            sI h121 v116 p1 v144 fun h148 =>
            some ((), h148)
        else
          if (v25 : Int32) < 34 then
            rcv h52 p0 11 <|
            cl (FX12_thing3 p0 p1 v25 v35 v45 h52) fun v156 h157 =>
            gR h157 p0 11 49 fun v162 =>
            aI h157 v162 .int p1 fun v166 =>
            gI h157 p0 11 64 fun v172 =>
            if (v172 : Int32) = (-1) then
              sI h157 v162 p1 (v166 + 1) fun h177 =>
              some ((), h177)
            else
              sI h157 v162 p1 (v166 + 0) fun h184 =>
              some ((), h184)
          else
            rcv h52 p0 11 <|
            cl (FX12_callOrEnd p0 p1 v25 v35 h52) fun v191 h192 =>
            some ((), h192)
  else
    rcv h52 p0 11 <|
    cl (FX12_moveWords p0 p1 v25 h52) fun v197 h198 =>
    gR h198 p0 11 49 fun v203 =>
    aI h198 v203 .int p1 fun v207 =>
    sI h198 v203 p1 (v207 + 1) fun h213 =>
    some ((), h213)
set_option maxRecDepth 100000 in
set_option maxHeartbeats 4000000 in
theorem FX12_begin_ok {G : xG} {l : Launch} {p0 : Option Nat} {p1 : Int32} {h0 h1 : Hp} {r : Unit} (hF : FX12_begin p0 p1 h0 = some (r, h1)) : xc G l mX12_begin 6 0 0 [va_rf p0, .int p1] h0 (xP mkV r h1) := by
  refine xo_V [.inr (.inr _), .inl _] (by decide) (Nat.le_of_ble_eq_true rfl) rfl ?_
  show xv _ _ _ _ _ _ _ [(0, false, va_rf p0), (1, false, .int p1)] _ _ _
  unfold FX12_begin at hF
  refine xe_bipush (v := 60) dX12_begin_0 (by decide) ?_
  refine xe_aload_n dX12_begin_2 rfl rfl ?_
  obtain ⟨a2, e3, t4, hF⟩ := gR_inv hF
  refine xq_getR dX12_begin_3 fl_SeldomOpsModel_130 xk_11 e3 t4 rfl ?_
  refine xe_iload_n dX12_begin_6 rfl rfl ?_
  obtain ⟨a6, n7, e8, t9, b10, hF⟩ := aI_inv hF
  refine xq_iald dX12_begin_7 e8 t9 b10 ?_
  refine xe_imul dX12_begin_8 ?_
  refine xe_aload_n dX12_begin_9 rfl rfl ?_
  obtain ⟨a12, e13, t14, hF⟩ := gR_inv hF
  refine xq_getR dX12_begin_10 fl_SeldomOpsModel_133 xk_11 e13 t14 rfl ?_
  refine xe_iload_n dX12_begin_13 rfl rfl ?_
  obtain ⟨a16, n17, e18, t19, b20, hF⟩ := aI_inv hF
  refine xq_iald dX12_begin_14 e18 t19 b20 ?_
  refine xe_iadd dX12_begin_15 ?_
  refine xe_istore_n dX12_begin_16 rfl (by decide) ?_
  refine xe_aload_n dX12_begin_17 rfl rfl ?_
  obtain ⟨a22, e23, t24, hF⟩ := gR_inv hF
  refine xq_getR dX12_begin_18 fl_SeldomOpsModel_25 xk_11 e23 t24 rfl ?_
  refine xe_iload_n dX12_begin_21 rfl rfl ?_
  obtain ⟨a26, n27, e28, t29, b30, hF⟩ := aI_inv hF
  refine xq_iald dX12_begin_22 e28 t29 b30 ?_
  refine xe_istore_n dX12_begin_23 rfl (by decide) ?_
  refine xe_aload_n dX12_begin_24 rfl rfl ?_
  obtain ⟨a32, e33, t34, hF⟩ := gR_inv hF
  refine xq_getR dX12_begin_25 fl_SeldomOpsModel_28 xk_11 e33 t34 rfl ?_
  refine xe_iload_n dX12_begin_28 rfl rfl ?_
  obtain ⟨a36, n37, e38, t39, b40, hF⟩ := aI_inv hF
  refine xq_iald dX12_begin_29 e38 t39 b40 ?_
  refine xe_istore dX12_begin_30 (by decide) ?_
  refine xe_aload_n dX12_begin_32 rfl rfl ?_
  obtain ⟨a42, e43, t44, hF⟩ := gR_inv hF
  refine xq_getR dX12_begin_33 fl_SeldomOpsModel_31 xk_11 e43 t44 rfl ?_
  refine xe_iload_n dX12_begin_36 rfl rfl ?_
  obtain ⟨a46, n47, e48, t49, b50, hF⟩ := aI_inv hF
  refine xq_iald dX12_begin_37 e48 t49 b50 ?_
  refine xe_istore dX12_begin_38 (by decide) ?_
  refine xe_iload_n dX12_begin_40 rfl rfl ?_
  refine xe_i2l dX12_begin_41 ?_
  refine xe_ldc2 (v := 8) dX12_begin_42 tw_1259 ?_
  refine xe_ldc2 (v := 16) dX12_begin_45 tw_1272 ?_
  obtain ⟨v51, h52, o53, hF⟩ := cl_inv hF
  refine xz (xq_callS (As := [.long _, .long _, .long _]) (rest := []) dX12_begin_48 mk_X12_in ⟨tw_1174, tw_1175⟩ (FX12_in_ok o53) xPZ_q (by decide) (by decide) rfl rfl ?_)
  refine xe_if_eq (tgt := 73) dX12_begin_51 (by decide) (fun c54 => ?_) (fun c54 => ?_)
  · replace hF := if_p c54 hF
    refine xe_iload_n dX12_begin_73 rfl rfl ?_
    refine xe_bipush (v := 8) dX12_begin_74 (by decide) ?_
    refine xe_icmp_ge (tgt := 102) dX12_begin_76 (by decide) (fun c55 => ?_) (fun c55 => ?_)
    · replace hF := if_p c55 hF
      refine xe_aload_n dX12_begin_79 rfl rfl ?_
      refine xe_iload_n dX12_begin_80 rfl rfl ?_
      refine xe_iload_n dX12_begin_81 rfl rfl ?_
      refine xe_iload dX12_begin_82 rfl ?_
      refine xe_iload dX12_begin_84 rfl ?_
      obtain ⟨a61, e59, t60, hF⟩ := rcv_inv hF
      obtain ⟨v56, h57, o58, hF⟩ := cl_inv hF
      refine xz (xq_callV (As := [.int _, .int _, .int _, .int _]) (rest := []) dX12_begin_86 mk_X12_plain ⟨tw_1347, tw_1349, ts_60⟩ (ci := 11) rfl e59 t60 (FX12_plain_ok o58) xP_q (by decide) (by decide) rfl rfl ?_)
      refine xe_aload_n dX12_begin_89 rfl rfl ?_
      obtain ⟨a63, e64, t65, hF⟩ := gR_inv hF
      refine xq_getR dX12_begin_90 fl_SeldomOpsModel_133 xk_11 e64 t65 rfl ?_
      refine xe_iload_n dX12_begin_93 rfl rfl ?_
      refine xe_dup2 dX12_begin_94 rfl (va_rf_cat _) ?_
      obtain ⟨a67, n68, e69, t70, b71, hF⟩ := aI_inv hF
      refine xq_iald dX12_begin_95 e69 t70 b71 ?_
      refine xe_iconst (v := 1) dX12_begin_96 (by decide) ?_
      refine xe_iadd dX12_begin_97 ?_
      obtain ⟨a73, n74, e75, t76, b77, hF⟩ := sI_inv hF
      refine xq_iast dX12_begin_98 e75 t76 b77 ?_
      refine xe_goto (tgt := 235) dX12_begin_99 (by decide) ?_
      exact xe_return dX12_begin_235 (xP_ret (mk := mkV) hF)
    · replace hF := if_n c55 hF
      refine xe_iload_n dX12_begin_102 rfl rfl ?_
      refine xe_bipush (v := 20) dX12_begin_103 (by decide) ?_
      refine xe_icmp_ge (tgt := 143) dX12_begin_105 (by decide) (fun c79 => ?_) (fun c79 => ?_)
      · replace hF := if_p c79 hF
        refine xe_aload_n dX12_begin_108 rfl rfl ?_
        refine xe_iload_n dX12_begin_109 rfl rfl ?_
        refine xe_iload_n dX12_begin_110 rfl rfl ?_
        refine xe_iload dX12_begin_111 rfl ?_
        refine xe_iload dX12_begin_113 rfl ?_
        obtain ⟨a85, e83, t84, hF⟩ := rcv_inv hF
        obtain ⟨v80, h81, o82, hF⟩ := cl_inv hF
        refine xz (xq_callV (As := [.int _, .int _, .int _, .int _]) (rest := []) dX12_begin_115 mk_X12_number3 ⟨tw_1359, tw_1361, ts_63⟩ (ci := 11) rfl e83 t84 (FX12_number3_ok o82) xP_q (by decide) (by decide) rfl rfl ?_)
        refine xe_aload_n dX12_begin_118 rfl rfl ?_
        obtain ⟨a87, e88, t89, hF⟩ := gR_inv hF
        refine xq_getR dX12_begin_119 fl_SeldomOpsModel_133 xk_11 e88 t89 rfl ?_
        refine xe_iload_n dX12_begin_122 rfl rfl ?_
        refine xe_dup2 dX12_begin_123 rfl (va_rf_cat _) ?_
        obtain ⟨a91, n92, e93, t94, b95, hF⟩ := aI_inv hF
        refine xq_iald dX12_begin_124 e93 t94 b95 ?_
        refine xe_aload_n dX12_begin_125 rfl rfl ?_
        obtain ⟨a97, e98, t99, hF⟩ := gI_inv hF
        refine xq_getI dX12_begin_126 fl_SeldomOpsModel_330 xk_11 e98 t99 rfl ?_
        refine xe_iconst (v := (-1)) dX12_begin_129 (by decide) ?_
        refine xe_icmp_ne (tgt := 137) dX12_begin_130 (by decide) (fun c100 => ?_) (fun c100 => ?_)
        · replace hF := if_p c100 hF
          refine xe_iconst (v := 1) dX12_begin_133 (by decide) ?_
          refine xe_goto (tgt := 138) dX12_begin_134 (by decide) ?_
          refine xe_iadd dX12_begin_138 ?_
          obtain ⟨a102, n103, e104, t105, b106, hF⟩ := sI_inv hF
          refine xq_iast dX12_begin_139 e104 t105 b106 ?_
          refine xe_goto (tgt := 235) dX12_begin_140 (by decide) ?_
          exact xe_return dX12_begin_235 (xP_ret (mk := mkV) hF)
        · replace hF := if_n c100 hF
          refine xe_iconst (v := 0) dX12_begin_137 (by decide) ?_
          refine xe_iadd dX12_begin_138 ?_
          obtain ⟨a109, n110, e111, t112, b113, hF⟩ := sI_inv hF
          refine xq_iast dX12_begin_139 e111 t112 b113 ?_
          refine xe_goto (tgt := 235) dX12_begin_140 (by decide) ?_
          exact xe_return dX12_begin_235 (xP_ret (mk := mkV) hF)
      · replace hF := if_n c79 hF
        refine xe_iload_n dX12_begin_143 rfl rfl ?_
        refine xe_bipush (v := 24) dX12_begin_144 (by decide) ?_
        refine xe_icmp_ge (tgt := 186) dX12_begin_146 (by decide) (fun c115 => ?_) (fun c115 => ?_)
        · replace hF := if_p c115 hF
          refine xe_aload_n dX12_begin_149 rfl rfl ?_
          obtain ⟨a117, e118, t119, hF⟩ := gR_inv hF
          refine xq_getR dX12_begin_150 fl_SeldomOpsModel_133 xk_11 e118 t119 rfl ?_
          refine xe_iload_n dX12_begin_153 rfl rfl ?_
          refine xe_aload_n dX12_begin_154 rfl rfl ?_
          refine xe_iload_n dX12_begin_155 rfl rfl ?_
          refine xe_iload_n dX12_begin_156 rfl rfl ?_
          refine xe_iload dX12_begin_157 rfl ?_
          refine xe_iload dX12_begin_159 rfl ?_
          obtain ⟨a125, e123, t124, hF⟩ := rcv_inv hF
          obtain ⟨v120, h121, o122, hF⟩ := cl_inv hF
          refine xz (xq_callV (As := [.int _, .int _, .int _, .int _]) (rest := [.int _, va_rf _]) dX12_begin_161 mk_X12_leads ⟨tw_1389, tw_1391, ts_65⟩ (ci := 11) rfl e123 t124 (FX12_leads_ok o122) xPZ_q (by decide) (Nat.le_trans (cs_i (cs_r cs_0)) (by decide)) rfl rfl ?_)
          refine xe_if_eq (tgt := 174) dX12_begin_164 (by decide) (fun c126 => ?_) (fun c126 => ?_)
          · replace hF := if_p c126 hF
            refine xe_aload_n dX12_begin_174 rfl rfl ?_
            obtain ⟨a128, e129, t130, hF⟩ := gR_inv hF
            refine xq_getR dX12_begin_175 fl_SeldomOpsModel_133 xk_11 e129 t130 rfl ?_
            refine xe_iload_n dX12_begin_178 rfl rfl ?_
            obtain ⟨a132, n133, e134, t135, b136, hF⟩ := aI_inv hF
            refine xq_iald dX12_begin_179 e134 t135 b136 ?_
            refine xe_iconst (v := 1) dX12_begin_180 (by decide) ?_
            refine xe_iadd dX12_begin_181 ?_
            obtain ⟨a138, n139, e140, t141, b142, hF⟩ := sI_inv hF
            refine xq_iast dX12_begin_182 e140 t141 b142 ?_
            refine xe_goto (tgt := 235) dX12_begin_183 (by decide) ?_
            exact xe_return dX12_begin_235 (xP_ret (mk := mkV) hF)
          · replace hF := if_n c126 hF
            refine xe_aload_n dX12_begin_167 rfl rfl ?_
            obtain ⟨a145, e146, t147, hF⟩ := gI_inv hF
            refine xq_getI dX12_begin_168 fl_SeldomOpsModel_363 xk_11 e146 t147 rfl ?_
            refine xe_goto (tgt := 182) dX12_begin_171 (by decide) ?_
            obtain ⟨a149, n150, e151, t152, b153, hF⟩ := sI_inv hF
            refine xq_iast dX12_begin_182 e151 t152 b153 ?_
            refine xe_goto (tgt := 235) dX12_begin_183 (by decide) ?_
            exact xe_return dX12_begin_235 (xP_ret (mk := mkV) hF)
        · replace hF := if_n c115 hF
          refine xe_iload_n dX12_begin_186 rfl rfl ?_
          refine xe_bipush (v := 34) dX12_begin_187 (by decide) ?_
          refine xe_icmp_ge (tgt := 227) dX12_begin_189 (by decide) (fun c155 => ?_) (fun c155 => ?_)
          · replace hF := if_p c155 hF
            refine xe_aload_n dX12_begin_192 rfl rfl ?_
            refine xe_iload_n dX12_begin_193 rfl rfl ?_
            refine xe_iload_n dX12_begin_194 rfl rfl ?_
            refine xe_iload dX12_begin_195 rfl ?_
            refine xe_iload dX12_begin_197 rfl ?_
            obtain ⟨a161, e159, t160, hF⟩ := rcv_inv hF
            obtain ⟨v156, h157, o158, hF⟩ := cl_inv hF
            refine xz (xq_callV (As := [.int _, .int _, .int _, .int _]) (rest := []) dX12_begin_199 mk_X12_thing3 ⟨tw_1397, tw_1399, ts_67⟩ (ci := 11) rfl e159 t160 (FX12_thing3_ok o158) xP_q (by decide) (by decide) rfl rfl ?_)
            refine xe_aload_n dX12_begin_202 rfl rfl ?_
            obtain ⟨a163, e164, t165, hF⟩ := gR_inv hF
            refine xq_getR dX12_begin_203 fl_SeldomOpsModel_133 xk_11 e164 t165 rfl ?_
            refine xe_iload_n dX12_begin_206 rfl rfl ?_
            refine xe_dup2 dX12_begin_207 rfl (va_rf_cat _) ?_
            obtain ⟨a167, n168, e169, t170, b171, hF⟩ := aI_inv hF
            refine xq_iald dX12_begin_208 e169 t170 b171 ?_
            refine xe_aload_n dX12_begin_209 rfl rfl ?_
            obtain ⟨a173, e174, t175, hF⟩ := gI_inv hF
            refine xq_getI dX12_begin_210 fl_SeldomOpsModel_330 xk_11 e174 t175 rfl ?_
            refine xe_iconst (v := (-1)) dX12_begin_213 (by decide) ?_
            refine xe_icmp_ne (tgt := 221) dX12_begin_214 (by decide) (fun c176 => ?_) (fun c176 => ?_)
            · replace hF := if_p c176 hF
              refine xe_iconst (v := 1) dX12_begin_217 (by decide) ?_
              refine xe_goto (tgt := 222) dX12_begin_218 (by decide) ?_
              refine xe_iadd dX12_begin_222 ?_
              obtain ⟨a178, n179, e180, t181, b182, hF⟩ := sI_inv hF
              refine xq_iast dX12_begin_223 e180 t181 b182 ?_
              refine xe_goto (tgt := 235) dX12_begin_224 (by decide) ?_
              exact xe_return dX12_begin_235 (xP_ret (mk := mkV) hF)
            · replace hF := if_n c176 hF
              refine xe_iconst (v := 0) dX12_begin_221 (by decide) ?_
              refine xe_iadd dX12_begin_222 ?_
              obtain ⟨a185, n186, e187, t188, b189, hF⟩ := sI_inv hF
              refine xq_iast dX12_begin_223 e187 t188 b189 ?_
              refine xe_goto (tgt := 235) dX12_begin_224 (by decide) ?_
              exact xe_return dX12_begin_235 (xP_ret (mk := mkV) hF)
          · replace hF := if_n c155 hF
            refine xe_aload_n dX12_begin_227 rfl rfl ?_
            refine xe_iload_n dX12_begin_228 rfl rfl ?_
            refine xe_iload_n dX12_begin_229 rfl rfl ?_
            refine xe_iload dX12_begin_230 rfl ?_
            obtain ⟨a196, e194, t195, hF⟩ := rcv_inv hF
            obtain ⟨v191, h192, o193, hF⟩ := cl_inv hF
            refine xz (xq_callV (As := [.int _, .int _, .int _]) (rest := []) dX12_begin_232 mk_X12_callOrEnd ⟨tw_1418, tw_1420, ts_72⟩ (ci := 11) rfl e194 t195 (FX12_callOrEnd_ok o193) xP_q (by decide) (by decide) rfl rfl ?_)
            exact xe_return dX12_begin_235 (xP_ret (mk := mkV) hF)
  · replace hF := if_n c54 hF
    refine xe_aload_n dX12_begin_54 rfl rfl ?_
    refine xe_iload_n dX12_begin_55 rfl rfl ?_
    refine xe_iload_n dX12_begin_56 rfl rfl ?_
    obtain ⟨a202, e200, t201, hF⟩ := rcv_inv hF
    obtain ⟨v197, h198, o199, hF⟩ := cl_inv hF
    refine xz (xq_callV (As := [.int _, .int _]) (rest := []) dX12_begin_57 mk_X12_moveWords ⟨tw_1343, tw_1345, ts_59⟩ (ci := 11) rfl e200 t201 (FX12_moveWords_ok o199) xP_q (by decide) (by decide) rfl rfl ?_)
    refine xe_aload_n dX12_begin_60 rfl rfl ?_
    obtain ⟨a204, e205, t206, hF⟩ := gR_inv hF
    refine xq_getR dX12_begin_61 fl_SeldomOpsModel_133 xk_11 e205 t206 rfl ?_
    refine xe_iload_n dX12_begin_64 rfl rfl ?_
    refine xe_dup2 dX12_begin_65 rfl (va_rf_cat _) ?_
    obtain ⟨a208, n209, e210, t211, b212, hF⟩ := aI_inv hF
    refine xq_iald dX12_begin_66 e210 t211 b212 ?_
    refine xe_iconst (v := 1) dX12_begin_67 (by decide) ?_
    refine xe_iadd dX12_begin_68 ?_
    obtain ⟨a214, n215, e216, t217, b218, hF⟩ := sI_inv hF
    refine xq_iast dX12_begin_69 e216 t217 b218 ?_
    refine xe_goto (tgt := 235) dX12_begin_70 (by decide) ?_
    exact xe_return dX12_begin_235 (xP_ret (mk := mkV) hF)
/-! SeldomOpsModel.cell(II)J -/
def FX12_cell (p0 : Option Nat) (p1 : Int32) (p2 : Int32) (h0 : Hp) : Option (Int64 × Hp) :=
  gI h0 p0 11 40 fun v1 =>
  cl (FX12_in (Int32.toInt64 p1) 0 (Int32.toInt64 (v1 - 1)) h0) fun v5 h6 =>
  if (v5 : Int32) = 0 then
    some ((-2), h6)
  else
    gR h6 p0 11 42 fun v9 =>
    aI h6 v9 .int p1 fun v13 =>
    cl (FX12_in (Int32.toInt64 p2) 0 (Int32.toInt64 (v13 - 1)) h6) fun v19 h20 =>
    if (v19 : Int32) = 0 then
      some ((-2), h20)
    else
      gR h20 p0 11 45 fun v23 =>
      gR h20 p0 11 44 fun v27 =>
      aI h20 v27 .int p1 fun v31 =>
      aL h20 v23 (v31 + p2) fun v37 =>
      some (v37, h20)
set_option maxRecDepth 100000 in
set_option maxHeartbeats 4000000 in
theorem FX12_cell_ok {G : xG} {l : Launch} {p0 : Option Nat} {p1 : Int32} {p2 : Int32} {h0 h1 : Hp} {r : Int64} (hF : FX12_cell p0 p1 p2 h0 = some (r, h1)) : xc G l mX12_cell 2 0 0 [va_rf p0, .int p1, .int p2] h0 (xP mkL r h1) := by
  refine xo_L [.inr (.inr _), .inl _, .inl _] (by decide) (Nat.le_of_ble_eq_true rfl) rfl ?_
  show xv _ _ _ _ _ _ _ [(0, false, va_rf p0), (1, false, .int p1), (2, false, .int p2)] _ _ _
  unfold FX12_cell at hF
  refine xe_iload_n dX12_cell_0 rfl rfl ?_
  refine xe_i2l dX12_cell_1 ?_
  refine xe_lconst (v := 0) dX12_cell_2 (by decide) ?_
  refine xe_aload_n dX12_cell_3 rfl rfl ?_
  obtain ⟨a2, e3, t4, hF⟩ := gI_inv hF
  refine xq_getI dX12_cell_4 fl_SeldomOpsModel_296 xk_11 e3 t4 rfl ?_
  refine xe_iconst (v := 1) dX12_cell_7 (by decide) ?_
  refine xe_isub dX12_cell_8 ?_
  refine xe_i2l dX12_cell_9 ?_
  obtain ⟨v5, h6, o7, hF⟩ := cl_inv hF
  refine xz (xq_callS (As := [.long _, .long _, .long _]) (rest := []) dX12_cell_10 mk_X12_in ⟨tw_1174, tw_1175⟩ (FX12_in_ok o7) xPZ_q (by decide) (by decide) rfl rfl ?_)
  refine xe_if_eq (tgt := 50) dX12_cell_13 (by decide) (fun c8 => ?_) (fun c8 => ?_)
  · replace hF := if_p c8 hF
    refine xe_ldc2 (v := (-2)) dX12_cell_50 tw_1443 ?_
    exact xe_lreturn dX12_cell_53 (xP_ret (mk := mkL) hF)
  · replace hF := if_n c8 hF
    refine xe_iload_n dX12_cell_16 rfl rfl ?_
    refine xe_i2l dX12_cell_17 ?_
    refine xe_lconst (v := 0) dX12_cell_18 (by decide) ?_
    refine xe_aload_n dX12_cell_19 rfl rfl ?_
    obtain ⟨a10, e11, t12, hF⟩ := gR_inv hF
    refine xq_getR dX12_cell_20 fl_SeldomOpsModel_118 xk_11 e11 t12 rfl ?_
    refine xe_iload_n dX12_cell_23 rfl rfl ?_
    obtain ⟨a14, n15, e16, t17, b18, hF⟩ := aI_inv hF
    refine xq_iald dX12_cell_24 e16 t17 b18 ?_
    refine xe_iconst (v := 1) dX12_cell_25 (by decide) ?_
    refine xe_isub dX12_cell_26 ?_
    refine xe_i2l dX12_cell_27 ?_
    obtain ⟨v19, h20, o21, hF⟩ := cl_inv hF
    refine xz (xq_callS (As := [.long _, .long _, .long _]) (rest := []) dX12_cell_28 mk_X12_in ⟨tw_1174, tw_1175⟩ (FX12_in_ok o21) xPZ_q (by decide) (by decide) rfl rfl ?_)
    refine xe_if_eq (tgt := 50) dX12_cell_31 (by decide) (fun c22 => ?_) (fun c22 => ?_)
    · replace hF := if_p c22 hF
      refine xe_ldc2 (v := (-2)) dX12_cell_50 tw_1443 ?_
      exact xe_lreturn dX12_cell_53 (xP_ret (mk := mkL) hF)
    · replace hF := if_n c22 hF
      refine xe_aload_n dX12_cell_34 rfl rfl ?_
      obtain ⟨a24, e25, t26, hF⟩ := gR_inv hF
      refine xq_getR dX12_cell_35 fl_SeldomOpsModel_127 xk_11 e25 t26 rfl ?_
      refine xe_aload_n dX12_cell_38 rfl rfl ?_
      obtain ⟨a28, e29, t30, hF⟩ := gR_inv hF
      refine xq_getR dX12_cell_39 fl_SeldomOpsModel_124 xk_11 e29 t30 rfl ?_
      refine xe_iload_n dX12_cell_42 rfl rfl ?_
      obtain ⟨a32, n33, e34, t35, b36, hF⟩ := aI_inv hF
      refine xq_iald dX12_cell_43 e34 t35 b36 ?_
      refine xe_iload_n dX12_cell_44 rfl rfl ?_
      refine xe_iadd dX12_cell_45 ?_
      obtain ⟨a38, n39, e40, t41, b42, hF⟩ := aL_inv hF
      refine xq_lald dX12_cell_46 e40 t41 b42 ?_
      refine xe_goto (tgt := 53) dX12_cell_47 (by decide) ?_
      exact xe_lreturn dX12_cell_53 (xP_ret (mk := mkL) hF)
/-! SeldomOpsModel.come(II)I -/
def BX12_come_73 : Nat → Option Nat → Int32 → Int32 → Int32 → Hp → Option (Int32 × Hp)
  | 0, _, _, _, _, _ => none
  | n + 1, x0, x2, x3, x4, h0 =>
    if (x4 : Int32) < 16 then
      gR h0 x0 11 28 fun v2 =>
      gR h0 x0 11 31 fun v6 =>
      aI h0 v6 .int x4 fun v10 =>
      sI h0 v2 ((16 * x3) + x4) v10 fun h16 =>
      BX12_come_73 n x0 x2 x3 (x4 + 1) h16
    else
      gR h0 x0 11 25 fun v23 =>
      sZ h0 v23 x2 1 fun h27 =>
      some (0, h27)
set_option maxRecDepth 100000 in
set_option maxHeartbeats 4000000 in
theorem BX12_come_73_ok {G : xG} {l : Launch} : ∀ (n : Nat) {x0 : Option Nat} {x2 : Int32} {x3 : Int32} {x4 : Int32} {h0 h1 : Hp} {r : Int32} (hF : BX12_come_73 n x0 x2 x3 x4 h0 = some (r, h1)), xv G l mX12_come 1 0 0 73 [(0, false, va_rf x0), (2, false, .int x2), (3, false, .int x3), (4, false, .int x4)] [] h0 (xP mkI r h1) := by
  intro n
  induction n with
  | zero => intro x0 x2 x3 x4 h0 h1 r hF; cases hF
  | succ n ih =>
    intro x0 x2 x3 x4 h0 h1 r hF
    unfold BX12_come_73 at hF
    refine xe_iload dX12_come_73 rfl ?_
    refine xe_bipush (v := 16) dX12_come_75 (by decide) ?_
    refine xe_icmp_ge (tgt := 105) dX12_come_77 (by decide) (fun c1 => ?_) (fun c1 => ?_)
    · replace hF := if_p c1 hF
      refine xe_aload_n dX12_come_80 rfl rfl ?_
      obtain ⟨a3, e4, t5, hF⟩ := gR_inv hF
      refine xq_getR dX12_come_81 fl_SeldomOpsModel_87 xk_11 e4 t5 rfl ?_
      refine xe_bipush (v := 16) dX12_come_84 (by decide) ?_
      refine xe_iload_n dX12_come_86 rfl rfl ?_
      refine xe_imul dX12_come_87 ?_
      refine xe_iload dX12_come_88 rfl ?_
      refine xe_iadd dX12_come_90 ?_
      refine xe_aload_n dX12_come_91 rfl rfl ?_
      obtain ⟨a7, e8, t9, hF⟩ := gR_inv hF
      refine xq_getR dX12_come_92 fl_SeldomOpsModel_93 xk_11 e8 t9 rfl ?_
      refine xe_iload dX12_come_95 rfl ?_
      obtain ⟨a11, n12, e13, t14, b15, hF⟩ := aI_inv hF
      refine xq_iald dX12_come_97 e13 t14 b15 ?_
      obtain ⟨a17, n18, e19, t20, b21, hF⟩ := sI_inv hF
      refine xq_iast dX12_come_98 e19 t20 b21 ?_
      refine xe_iinc (v := _ + 1) dX12_come_99 rfl rfl (by decide) ?_
      refine xe_goto (tgt := 73) dX12_come_102 (by decide) ?_
      exact xv.lv (ih hF) (xsub_cons rfl (xsub_cons rfl (xsub_cons rfl (xsub_cons rfl xsub_nil))))
    · replace hF := if_n c1 hF
      refine xe_aload_n dX12_come_105 rfl rfl ?_
      obtain ⟨a24, e25, t26, hF⟩ := gR_inv hF
      refine xq_getR dX12_come_106 fl_SeldomOpsModel_78 xk_11 e25 t26 rfl ?_
      refine xe_iload_n dX12_come_109 rfl rfl ?_
      refine xe_iconst (v := 1) dX12_come_110 (by decide) ?_
      obtain ⟨a28, n29, e30, t31, b32, z33, hF⟩ := sZ_inv hF
      refine xq_zast dX12_come_111 e30 t31 b32 z33 ?_
      refine xe_iconst (v := 0) dX12_come_112 (by decide) ?_
      exact xe_ireturn dX12_come_113 (xP_ret (mk := mkI) hF)
def BX12_come_36 : Nat → Option Nat → Int32 → Int32 → Int32 → Hp → Option (Int32 × Hp)
  | 0, _, _, _, _, _ => none
  | n + 1, x0, x2, x3, x4, h0 =>
    gI h0 x0 11 29 fun v1 =>
    if (x4 : Int32) < v1 then
      gR h0 x0 11 27 fun v6 =>
      gR h0 x0 11 30 fun v10 =>
      aI h0 v10 .int x4 fun v14 =>
      sI h0 v6 ((12 * x3) + x4) v14 fun h20 =>
      BX12_come_36 n x0 x2 x3 (x4 + 1) h20
    else
      BX12_come_73 100000 x0 x2 x3 0 h0
set_option maxRecDepth 100000 in
set_option maxHeartbeats 4000000 in
theorem BX12_come_36_ok {G : xG} {l : Launch} : ∀ (n : Nat) {x0 : Option Nat} {x2 : Int32} {x3 : Int32} {x4 : Int32} {h0 h1 : Hp} {r : Int32} (hF : BX12_come_36 n x0 x2 x3 x4 h0 = some (r, h1)), xv G l mX12_come 1 0 0 36 [(0, false, va_rf x0), (2, false, .int x2), (3, false, .int x3), (4, false, .int x4)] [] h0 (xP mkI r h1) := by
  intro n
  induction n with
  | zero => intro x0 x2 x3 x4 h0 h1 r hF; cases hF
  | succ n ih =>
    intro x0 x2 x3 x4 h0 h1 r hF
    unfold BX12_come_36 at hF
    refine xe_iload dX12_come_36 rfl ?_
    refine xe_aload_n dX12_come_38 rfl rfl ?_
    obtain ⟨a2, e3, t4, hF⟩ := gI_inv hF
    refine xq_getI dX12_come_39 fl_SeldomOpsModel_212 xk_11 e3 t4 rfl ?_
    refine xe_icmp_ge (tgt := 70) dX12_come_42 (by decide) (fun c5 => ?_) (fun c5 => ?_)
    · replace hF := if_p c5 hF
      refine xe_aload_n dX12_come_45 rfl rfl ?_
      obtain ⟨a7, e8, t9, hF⟩ := gR_inv hF
      refine xq_getR dX12_come_46 fl_SeldomOpsModel_84 xk_11 e8 t9 rfl ?_
      refine xe_bipush (v := 12) dX12_come_49 (by decide) ?_
      refine xe_iload_n dX12_come_51 rfl rfl ?_
      refine xe_imul dX12_come_52 ?_
      refine xe_iload dX12_come_53 rfl ?_
      refine xe_iadd dX12_come_55 ?_
      refine xe_aload_n dX12_come_56 rfl rfl ?_
      obtain ⟨a11, e12, t13, hF⟩ := gR_inv hF
      refine xq_getR dX12_come_57 fl_SeldomOpsModel_90 xk_11 e12 t13 rfl ?_
      refine xe_iload dX12_come_60 rfl ?_
      obtain ⟨a15, n16, e17, t18, b19, hF⟩ := aI_inv hF
      refine xq_iald dX12_come_62 e17 t18 b19 ?_
      obtain ⟨a21, n22, e23, t24, b25, hF⟩ := sI_inv hF
      refine xq_iast dX12_come_63 e23 t24 b25 ?_
      refine xe_iinc (v := _ + 1) dX12_come_64 rfl rfl (by decide) ?_
      refine xe_goto (tgt := 36) dX12_come_67 (by decide) ?_
      exact xv.lv (ih hF) (xsub_cons rfl (xsub_cons rfl (xsub_cons rfl (xsub_cons rfl xsub_nil))))
    · replace hF := if_n c5 hF
      refine xe_iconst (v := 0) dX12_come_70 (by decide) ?_
      refine xe_istore dX12_come_71 (by decide) ?_
      exact xv.lv (BX12_come_73_ok _ hF) (xsub_cons rfl (xsub_cons rfl (xsub_cons rfl (xsub_cons rfl xsub_nil))))
def BX12_come_417 (k264 : Option Nat → Int32 → Int32 → Int32 → Int32 → Hp → Option (Int32 × Hp)) (x0 : Option Nat) (x2 : Int32) (x3 : Int32) (x5 : Int32) (x6 : Int32) (h0 : Hp) : Option (Int32 × Hp) :=
  k264 x0 x2 x3 x5 (x6 + 1) h0
set_option maxRecDepth 100000 in
set_option maxHeartbeats 4000000 in
theorem BX12_come_417_ok {G : xG} {l : Launch} {k264 : Option Nat → Int32 → Int32 → Int32 → Int32 → Hp → Option (Int32 × Hp)} (hk264 : ∀ {x0 : Option Nat} {x2 : Int32} {x3 : Int32} {x5 : Int32} {x6 : Int32} {h0 h1 : Hp} {r : Int32}, k264 x0 x2 x3 x5 x6 h0 = some (r, h1) → xv G l mX12_come 1 0 0 264 [(0, false, va_rf x0), (2, false, .int x2), (3, false, .int x3), (5, false, .int x5), (6, false, .int x6)] [] h0 (xP mkI r h1)) {x0 : Option Nat} {x2 : Int32} {x3 : Int32} {x5 : Int32} {x6 : Int32} {h0 h1 : Hp} {r : Int32} (hF : BX12_come_417 k264 x0 x2 x3 x5 x6 h0 = some (r, h1)) : xv G l mX12_come 1 0 0 417 [(0, false, va_rf x0), (2, false, .int x2), (3, false, .int x3), (5, false, .int x5), (6, false, .int x6)] [] h0 (xP mkI r h1) := by
  unfold BX12_come_417 at hF
  refine xe_iinc (v := _ + 1) dX12_come_417 rfl rfl (by decide) ?_
  refine xe_goto (tgt := 264) dX12_come_420 (by decide) ?_
  exact xv.lv (hk264 hF) (xsub_cons rfl (xsub_cons rfl (xsub_cons rfl (xsub_cons rfl (xsub_cons rfl xsub_nil)))))
def BX12_come_394 (k264 : Option Nat → Int32 → Int32 → Int32 → Int32 → Hp → Option (Int32 × Hp)) (x0 : Option Nat) (x2 : Int32) (x3 : Int32) (x5 : Int32) (x6 : Int32) (s0 : Int32) (h0 : Hp) : Option (Int32 × Hp) :=
  if (s0 : Int32) = 0 then
    BX12_come_417 k264 x0 x2 x3 x5 x6 h0
  else
    gR h0 x0 11 28 fun v2 =>
    sI h0 v2 ((16 * x3) + x6) 5 fun h6 =>
    BX12_come_417 k264 x0 x2 x3 1 x6 h6
set_option maxRecDepth 100000 in
set_option maxHeartbeats 4000000 in
theorem BX12_come_394_ok {G : xG} {l : Launch} {k264 : Option Nat → Int32 → Int32 → Int32 → Int32 → Hp → Option (Int32 × Hp)} (hk264 : ∀ {x0 : Option Nat} {x2 : Int32} {x3 : Int32} {x5 : Int32} {x6 : Int32} {h0 h1 : Hp} {r : Int32}, k264 x0 x2 x3 x5 x6 h0 = some (r, h1) → xv G l mX12_come 1 0 0 264 [(0, false, va_rf x0), (2, false, .int x2), (3, false, .int x3), (5, false, .int x5), (6, false, .int x6)] [] h0 (xP mkI r h1)) {x0 : Option Nat} {x2 : Int32} {x3 : Int32} {x5 : Int32} {x6 : Int32} {s0 : Int32} {h0 h1 : Hp} {r : Int32} (hF : BX12_come_394 k264 x0 x2 x3 x5 x6 s0 h0 = some (r, h1)) : xv G l mX12_come 1 0 0 394 [(0, false, va_rf x0), (2, false, .int x2), (3, false, .int x3), (5, false, .int x5), (6, false, .int x6)] [.int s0] h0 (xP mkI r h1) := by
  unfold BX12_come_394 at hF
  refine xe_istore dX12_come_394 (by decide) ?_
  refine xe_iload dX12_come_396 rfl ?_
  refine xe_if_eq (tgt := 417) dX12_come_398 (by decide) (fun c1 => ?_) (fun c1 => ?_)
  · replace hF := if_p c1 hF
    exact xv.lv (BX12_come_417_ok hk264 hF) (xsub_cons rfl (xsub_cons rfl (xsub_cons rfl (xsub_cons rfl (xsub_cons rfl xsub_nil)))))
  · replace hF := if_n c1 hF
    refine xe_aload_n dX12_come_401 rfl rfl ?_
    obtain ⟨a3, e4, t5, hF⟩ := gR_inv hF
    refine xq_getR dX12_come_402 fl_SeldomOpsModel_87 xk_11 e4 t5 rfl ?_
    refine xe_bipush (v := 16) dX12_come_405 (by decide) ?_
    refine xe_iload_n dX12_come_407 rfl rfl ?_
    refine xe_imul dX12_come_408 ?_
    refine xe_iload dX12_come_409 rfl ?_
    refine xe_iadd dX12_come_411 ?_
    refine xe_iconst (v := 5) dX12_come_412 (by decide) ?_
    obtain ⟨a7, n8, e9, t10, b11, hF⟩ := sI_inv hF
    refine xq_iast dX12_come_413 e9 t10 b11 ?_
    refine xe_iconst (v := 1) dX12_come_414 (by decide) ?_
    refine xe_istore dX12_come_415 (by decide) ?_
    exact xv.lv (BX12_come_417_ok hk264 hF) (xsub_cons rfl (xsub_cons rfl (xsub_cons rfl (xsub_cons rfl (xsub_cons rfl xsub_nil)))))
def BX12_come_389 (k264 : Option Nat → Int32 → Int32 → Int32 → Int32 → Hp → Option (Int32 × Hp)) (x0 : Option Nat) (x2 : Int32) (x3 : Int32) (x5 : Int32) (x6 : Int32) (h0 : Hp) : Option (Int32 × Hp) :=
  BX12_come_394 k264 x0 x2 x3 x5 x6 1 h0
set_option maxRecDepth 100000 in
set_option maxHeartbeats 4000000 in
theorem BX12_come_389_ok {G : xG} {l : Launch} {k264 : Option Nat → Int32 → Int32 → Int32 → Int32 → Hp → Option (Int32 × Hp)} (hk264 : ∀ {x0 : Option Nat} {x2 : Int32} {x3 : Int32} {x5 : Int32} {x6 : Int32} {h0 h1 : Hp} {r : Int32}, k264 x0 x2 x3 x5 x6 h0 = some (r, h1) → xv G l mX12_come 1 0 0 264 [(0, false, va_rf x0), (2, false, .int x2), (3, false, .int x3), (5, false, .int x5), (6, false, .int x6)] [] h0 (xP mkI r h1)) {x0 : Option Nat} {x2 : Int32} {x3 : Int32} {x5 : Int32} {x6 : Int32} {h0 h1 : Hp} {r : Int32} (hF : BX12_come_389 k264 x0 x2 x3 x5 x6 h0 = some (r, h1)) : xv G l mX12_come 1 0 0 389 [(0, false, va_rf x0), (2, false, .int x2), (3, false, .int x3), (5, false, .int x5), (6, false, .int x6)] [] h0 (xP mkI r h1) := by
  unfold BX12_come_389 at hF
  refine xe_iconst (v := 1) dX12_come_389 (by decide) ?_
  refine xe_goto (tgt := 394) dX12_come_390 (by decide) ?_
  exact xv.lv (BX12_come_394_ok hk264 hF) (xsub_cons rfl (xsub_cons rfl (xsub_cons rfl (xsub_cons rfl (xsub_cons rfl xsub_nil)))))
def BX12_come_393 (k264 : Option Nat → Int32 → Int32 → Int32 → Int32 → Hp → Option (Int32 × Hp)) (x0 : Option Nat) (x2 : Int32) (x3 : Int32) (x5 : Int32) (x6 : Int32) (h0 : Hp) : Option (Int32 × Hp) :=
  BX12_come_394 k264 x0 x2 x3 x5 x6 0 h0
set_option maxRecDepth 100000 in
set_option maxHeartbeats 4000000 in
theorem BX12_come_393_ok {G : xG} {l : Launch} {k264 : Option Nat → Int32 → Int32 → Int32 → Int32 → Hp → Option (Int32 × Hp)} (hk264 : ∀ {x0 : Option Nat} {x2 : Int32} {x3 : Int32} {x5 : Int32} {x6 : Int32} {h0 h1 : Hp} {r : Int32}, k264 x0 x2 x3 x5 x6 h0 = some (r, h1) → xv G l mX12_come 1 0 0 264 [(0, false, va_rf x0), (2, false, .int x2), (3, false, .int x3), (5, false, .int x5), (6, false, .int x6)] [] h0 (xP mkI r h1)) {x0 : Option Nat} {x2 : Int32} {x3 : Int32} {x5 : Int32} {x6 : Int32} {h0 h1 : Hp} {r : Int32} (hF : BX12_come_393 k264 x0 x2 x3 x5 x6 h0 = some (r, h1)) : xv G l mX12_come 1 0 0 393 [(0, false, va_rf x0), (2, false, .int x2), (3, false, .int x3), (5, false, .int x5), (6, false, .int x6)] [] h0 (xP mkI r h1) := by
  unfold BX12_come_393 at hF
  refine xe_iconst (v := 0) dX12_come_393 (by decide) ?_
  exact xv.lv (BX12_come_394_ok hk264 hF) (xsub_cons rfl (xsub_cons rfl (xsub_cons rfl (xsub_cons rfl (xsub_cons rfl xsub_nil)))))
def BX12_come_376 (k264 : Option Nat → Int32 → Int32 → Int32 → Int32 → Hp → Option (Int32 × Hp)) (x0 : Option Nat) (x2 : Int32) (x3 : Int32) (x5 : Int32) (x6 : Int32) (x7 : Int32) (x9 : Int32) (h0 : Hp) : Option (Int32 × Hp) :=
  if (x7 : Int32) = 7 then
    if (x9 : Int32) = 3 then
      BX12_come_393 k264 x0 x2 x3 x5 x6 h0
    else
      BX12_come_389 k264 x0 x2 x3 x5 x6 h0
  else
    BX12_come_393 k264 x0 x2 x3 x5 x6 h0
set_option maxRecDepth 100000 in
set_option maxHeartbeats 4000000 in
theorem BX12_come_376_ok {G : xG} {l : Launch} {k264 : Option Nat → Int32 → Int32 → Int32 → Int32 → Hp → Option (Int32 × Hp)} (hk264 : ∀ {x0 : Option Nat} {x2 : Int32} {x3 : Int32} {x5 : Int32} {x6 : Int32} {h0 h1 : Hp} {r : Int32}, k264 x0 x2 x3 x5 x6 h0 = some (r, h1) → xv G l mX12_come 1 0 0 264 [(0, false, va_rf x0), (2, false, .int x2), (3, false, .int x3), (5, false, .int x5), (6, false, .int x6)] [] h0 (xP mkI r h1)) {x0 : Option Nat} {x2 : Int32} {x3 : Int32} {x5 : Int32} {x6 : Int32} {x7 : Int32} {x9 : Int32} {h0 h1 : Hp} {r : Int32} (hF : BX12_come_376 k264 x0 x2 x3 x5 x6 x7 x9 h0 = some (r, h1)) : xv G l mX12_come 1 0 0 376 [(0, false, va_rf x0), (2, false, .int x2), (3, false, .int x3), (5, false, .int x5), (6, false, .int x6), (7, false, .int x7), (9, false, .int x9)] [] h0 (xP mkI r h1) := by
  unfold BX12_come_376 at hF
  refine xe_iload dX12_come_376 rfl ?_
  refine xe_bipush (v := 7) dX12_come_378 (by decide) ?_
  refine xe_icmp_ne (tgt := 393) dX12_come_380 (by decide) (fun c1 => ?_) (fun c1 => ?_)
  · replace hF := if_p c1 hF
    refine xe_iload dX12_come_383 rfl ?_
    refine xe_iconst (v := 3) dX12_come_385 (by decide) ?_
    refine xe_icmp_eq (tgt := 393) dX12_come_386 (by decide) (fun c2 => ?_) (fun c2 => ?_)
    · replace hF := if_p c2 hF
      exact xv.lv (BX12_come_393_ok hk264 hF) (xsub_cons rfl (xsub_cons rfl (xsub_cons rfl (xsub_cons rfl (xsub_cons rfl xsub_nil)))))
    · replace hF := if_n c2 hF
      exact xv.lv (BX12_come_389_ok hk264 hF) (xsub_cons rfl (xsub_cons rfl (xsub_cons rfl (xsub_cons rfl (xsub_cons rfl xsub_nil)))))
  · replace hF := if_n c1 hF
    exact xv.lv (BX12_come_393_ok hk264 hF) (xsub_cons rfl (xsub_cons rfl (xsub_cons rfl (xsub_cons rfl (xsub_cons rfl xsub_nil)))))
def BX12_come_363 (k264 : Option Nat → Int32 → Int32 → Int32 → Int32 → Hp → Option (Int32 × Hp)) (x0 : Option Nat) (x2 : Int32) (x3 : Int32) (x5 : Int32) (x6 : Int32) (x7 : Int32) (x9 : Int32) (h0 : Hp) : Option (Int32 × Hp) :=
  if (x7 : Int32) = 6 then
    if (x9 : Int32) = 1 then
      BX12_come_376 k264 x0 x2 x3 x5 x6 x7 x9 h0
    else
      BX12_come_389 k264 x0 x2 x3 x5 x6 h0
  else
    BX12_come_376 k264 x0 x2 x3 x5 x6 x7 x9 h0
set_option maxRecDepth 100000 in
set_option maxHeartbeats 4000000 in
theorem BX12_come_363_ok {G : xG} {l : Launch} {k264 : Option Nat → Int32 → Int32 → Int32 → Int32 → Hp → Option (Int32 × Hp)} (hk264 : ∀ {x0 : Option Nat} {x2 : Int32} {x3 : Int32} {x5 : Int32} {x6 : Int32} {h0 h1 : Hp} {r : Int32}, k264 x0 x2 x3 x5 x6 h0 = some (r, h1) → xv G l mX12_come 1 0 0 264 [(0, false, va_rf x0), (2, false, .int x2), (3, false, .int x3), (5, false, .int x5), (6, false, .int x6)] [] h0 (xP mkI r h1)) {x0 : Option Nat} {x2 : Int32} {x3 : Int32} {x5 : Int32} {x6 : Int32} {x7 : Int32} {x9 : Int32} {h0 h1 : Hp} {r : Int32} (hF : BX12_come_363 k264 x0 x2 x3 x5 x6 x7 x9 h0 = some (r, h1)) : xv G l mX12_come 1 0 0 363 [(0, false, va_rf x0), (2, false, .int x2), (3, false, .int x3), (5, false, .int x5), (6, false, .int x6), (7, false, .int x7), (9, false, .int x9)] [] h0 (xP mkI r h1) := by
  unfold BX12_come_363 at hF
  refine xe_iload dX12_come_363 rfl ?_
  refine xe_bipush (v := 6) dX12_come_365 (by decide) ?_
  refine xe_icmp_ne (tgt := 376) dX12_come_367 (by decide) (fun c1 => ?_) (fun c1 => ?_)
  · replace hF := if_p c1 hF
    refine xe_iload dX12_come_370 rfl ?_
    refine xe_iconst (v := 1) dX12_come_372 (by decide) ?_
    refine xe_icmp_ne (tgt := 389) dX12_come_373 (by decide) (fun c2 => ?_) (fun c2 => ?_)
    · replace hF := if_p c2 hF
      exact xv.lv (BX12_come_376_ok hk264 hF) (xsub_cons rfl (xsub_cons rfl (xsub_cons rfl (xsub_cons rfl (xsub_cons rfl (xsub_cons rfl (xsub_cons rfl xsub_nil)))))))
    · replace hF := if_n c2 hF
      exact xv.lv (BX12_come_389_ok hk264 hF) (xsub_cons rfl (xsub_cons rfl (xsub_cons rfl (xsub_cons rfl (xsub_cons rfl xsub_nil)))))
  · replace hF := if_n c1 hF
    exact xv.lv (BX12_come_376_ok hk264 hF) (xsub_cons rfl (xsub_cons rfl (xsub_cons rfl (xsub_cons rfl (xsub_cons rfl (xsub_cons rfl (xsub_cons rfl xsub_nil)))))))
def BX12_come_350 (k264 : Option Nat → Int32 → Int32 → Int32 → Int32 → Hp → Option (Int32 × Hp)) (x0 : Option Nat) (x2 : Int32) (x3 : Int32) (x5 : Int32) (x6 : Int32) (x7 : Int32) (x8 : Int32) (x9 : Int32) (h0 : Hp) : Option (Int32 × Hp) :=
  if (x7 : Int32) = 3 then
    if (x8 : Int32) = 7 then
      BX12_come_363 k264 x0 x2 x3 x5 x6 x7 x9 h0
    else
      BX12_come_389 k264 x0 x2 x3 x5 x6 h0
  else
    BX12_come_363 k264 x0 x2 x3 x5 x6 x7 x9 h0
set_option maxRecDepth 100000 in
set_option maxHeartbeats 4000000 in
theorem BX12_come_350_ok {G : xG} {l : Launch} {k264 : Option Nat → Int32 → Int32 → Int32 → Int32 → Hp → Option (Int32 × Hp)} (hk264 : ∀ {x0 : Option Nat} {x2 : Int32} {x3 : Int32} {x5 : Int32} {x6 : Int32} {h0 h1 : Hp} {r : Int32}, k264 x0 x2 x3 x5 x6 h0 = some (r, h1) → xv G l mX12_come 1 0 0 264 [(0, false, va_rf x0), (2, false, .int x2), (3, false, .int x3), (5, false, .int x5), (6, false, .int x6)] [] h0 (xP mkI r h1)) {x0 : Option Nat} {x2 : Int32} {x3 : Int32} {x5 : Int32} {x6 : Int32} {x7 : Int32} {x8 : Int32} {x9 : Int32} {h0 h1 : Hp} {r : Int32} (hF : BX12_come_350 k264 x0 x2 x3 x5 x6 x7 x8 x9 h0 = some (r, h1)) : xv G l mX12_come 1 0 0 350 [(0, false, va_rf x0), (2, false, .int x2), (3, false, .int x3), (5, false, .int x5), (6, false, .int x6), (7, false, .int x7), (8, false, .int x8), (9, false, .int x9)] [] h0 (xP mkI r h1) := by
  unfold BX12_come_350 at hF
  refine xe_iload dX12_come_350 rfl ?_
  refine xe_iconst (v := 3) dX12_come_352 (by decide) ?_
  refine xe_icmp_ne (tgt := 363) dX12_come_353 (by decide) (fun c1 => ?_) (fun c1 => ?_)
  · replace hF := if_p c1 hF
    refine xe_iload dX12_come_356 rfl ?_
    refine xe_bipush (v := 7) dX12_come_358 (by decide) ?_
    refine xe_icmp_ne (tgt := 389) dX12_come_360 (by decide) (fun c2 => ?_) (fun c2 => ?_)
    · replace hF := if_p c2 hF
      exact xv.lv (BX12_come_363_ok hk264 hF) (xsub_cons rfl (xsub_cons rfl (xsub_cons rfl (xsub_cons rfl (xsub_cons rfl (xsub_cons rfl (xsub_cons rfl xsub_nil)))))))
    · replace hF := if_n c2 hF
      exact xv.lv (BX12_come_389_ok hk264 hF) (xsub_cons rfl (xsub_cons rfl (xsub_cons rfl (xsub_cons rfl (xsub_cons rfl xsub_nil)))))
  · replace hF := if_n c1 hF
    exact xv.lv (BX12_come_363_ok hk264 hF) (xsub_cons rfl (xsub_cons rfl (xsub_cons rfl (xsub_cons rfl (xsub_cons rfl (xsub_cons rfl (xsub_cons rfl xsub_nil)))))))
def BX12_come_335 (k264 : Option Nat → Int32 → Int32 → Int32 → Int32 → Hp → Option (Int32 × Hp)) (x0 : Option Nat) (x2 : Int32) (x3 : Int32) (x5 : Int32) (x6 : Int32) (x7 : Int32) (x8 : Int32) (s0 : Int32) (h0 : Hp) : Option (Int32 × Hp) :=
  if (x7 : Int32) = 1 then
    if (x8 : Int32) = 6 then
      BX12_come_350 k264 x0 x2 x3 x5 x6 x7 x8 s0 h0
    else
      BX12_come_389 k264 x0 x2 x3 x5 x6 h0
  else
    BX12_come_350 k264 x0 x2 x3 x5 x6 x7 x8 s0 h0
set_option maxRecDepth 100000 in
set_option maxHeartbeats 4000000 in
theorem BX12_come_335_ok {G : xG} {l : Launch} {k264 : Option Nat → Int32 → Int32 → Int32 → Int32 → Hp → Option (Int32 × Hp)} (hk264 : ∀ {x0 : Option Nat} {x2 : Int32} {x3 : Int32} {x5 : Int32} {x6 : Int32} {h0 h1 : Hp} {r : Int32}, k264 x0 x2 x3 x5 x6 h0 = some (r, h1) → xv G l mX12_come 1 0 0 264 [(0, false, va_rf x0), (2, false, .int x2), (3, false, .int x3), (5, false, .int x5), (6, false, .int x6)] [] h0 (xP mkI r h1)) {x0 : Option Nat} {x2 : Int32} {x3 : Int32} {x5 : Int32} {x6 : Int32} {x7 : Int32} {x8 : Int32} {s0 : Int32} {h0 h1 : Hp} {r : Int32} (hF : BX12_come_335 k264 x0 x2 x3 x5 x6 x7 x8 s0 h0 = some (r, h1)) : xv G l mX12_come 1 0 0 335 [(0, false, va_rf x0), (2, false, .int x2), (3, false, .int x3), (5, false, .int x5), (6, false, .int x6), (7, false, .int x7), (8, false, .int x8)] [.int s0] h0 (xP mkI r h1) := by
  unfold BX12_come_335 at hF
  refine xe_istore dX12_come_335 (by decide) ?_
  refine xe_iload dX12_come_337 rfl ?_
  refine xe_iconst (v := 1) dX12_come_339 (by decide) ?_
  refine xe_icmp_ne (tgt := 350) dX12_come_340 (by decide) (fun c1 => ?_) (fun c1 => ?_)
  · replace hF := if_p c1 hF
    refine xe_iload dX12_come_343 rfl ?_
    refine xe_bipush (v := 6) dX12_come_345 (by decide) ?_
    refine xe_icmp_ne (tgt := 389) dX12_come_347 (by decide) (fun c2 => ?_) (fun c2 => ?_)
    · replace hF := if_p c2 hF
      exact xv.lv (BX12_come_350_ok hk264 hF) (xsub_cons rfl (xsub_cons rfl (xsub_cons rfl (xsub_cons rfl (xsub_cons rfl (xsub_cons rfl (xsub_cons rfl (xsub_cons rfl xsub_nil))))))))
    · replace hF := if_n c2 hF
      exact xv.lv (BX12_come_389_ok hk264 hF) (xsub_cons rfl (xsub_cons rfl (xsub_cons rfl (xsub_cons rfl (xsub_cons rfl xsub_nil)))))
  · replace hF := if_n c1 hF
    exact xv.lv (BX12_come_350_ok hk264 hF) (xsub_cons rfl (xsub_cons rfl (xsub_cons rfl (xsub_cons rfl (xsub_cons rfl (xsub_cons rfl (xsub_cons rfl (xsub_cons rfl xsub_nil))))))))
def BX12_come_310 (k264 : Option Nat → Int32 → Int32 → Int32 → Int32 → Hp → Option (Int32 × Hp)) (x0 : Option Nat) (x2 : Int32) (x3 : Int32) (x5 : Int32) (x6 : Int32) (x7 : Int32) (s0 : Int32) (h0 : Hp) : Option (Int32 × Hp) :=
  if (0 : Int32) < x6 then
    gR h0 x0 11 28 fun v2 =>
    aI h0 v2 .int (((16 * x3) + x6) - 1) fun v6 =>
    BX12_come_335 k264 x0 x2 x3 x5 x6 x7 s0 v6 h0
  else
    BX12_come_335 k264 x0 x2 x3 x5 x6 x7 s0 5 h0
set_option maxRecDepth 100000 in
set_option maxHeartbeats 4000000 in
theorem BX12_come_310_ok {G : xG} {l : Launch} {k264 : Option Nat → Int32 → Int32 → Int32 → Int32 → Hp → Option (Int32 × Hp)} (hk264 : ∀ {x0 : Option Nat} {x2 : Int32} {x3 : Int32} {x5 : Int32} {x6 : Int32} {h0 h1 : Hp} {r : Int32}, k264 x0 x2 x3 x5 x6 h0 = some (r, h1) → xv G l mX12_come 1 0 0 264 [(0, false, va_rf x0), (2, false, .int x2), (3, false, .int x3), (5, false, .int x5), (6, false, .int x6)] [] h0 (xP mkI r h1)) {x0 : Option Nat} {x2 : Int32} {x3 : Int32} {x5 : Int32} {x6 : Int32} {x7 : Int32} {s0 : Int32} {h0 h1 : Hp} {r : Int32} (hF : BX12_come_310 k264 x0 x2 x3 x5 x6 x7 s0 h0 = some (r, h1)) : xv G l mX12_come 1 0 0 310 [(0, false, va_rf x0), (2, false, .int x2), (3, false, .int x3), (5, false, .int x5), (6, false, .int x6), (7, false, .int x7)] [.int s0] h0 (xP mkI r h1) := by
  unfold BX12_come_310 at hF
  refine xe_istore dX12_come_310 (by decide) ?_
  refine xe_iload dX12_come_312 rfl ?_
  refine xe_if_le (tgt := 334) dX12_come_314 (by decide) (fun c1 => ?_) (fun c1 => ?_)
  · replace hF := if_p c1 hF
    refine xe_aload_n dX12_come_317 rfl rfl ?_
    obtain ⟨a3, e4, t5, hF⟩ := gR_inv hF
    refine xq_getR dX12_come_318 fl_SeldomOpsModel_87 xk_11 e4 t5 rfl ?_
    refine xe_bipush (v := 16) dX12_come_321 (by decide) ?_
    refine xe_iload_n dX12_come_323 rfl rfl ?_
    refine xe_imul dX12_come_324 ?_
    refine xe_iload dX12_come_325 rfl ?_
    refine xe_iadd dX12_come_327 ?_
    refine xe_iconst (v := 1) dX12_come_328 (by decide) ?_
    refine xe_isub dX12_come_329 ?_
    obtain ⟨a7, n8, e9, t10, b11, hF⟩ := aI_inv hF
    refine xq_iald dX12_come_330 e9 t10 b11 ?_
    refine xe_goto (tgt := 335) dX12_come_331 (by decide) ?_
    exact xv.lv (BX12_come_335_ok hk264 hF) (xsub_cons rfl (xsub_cons rfl (xsub_cons rfl (xsub_cons rfl (xsub_cons rfl (xsub_cons rfl (xsub_cons rfl xsub_nil)))))))
  · replace hF := if_n c1 hF
    refine xe_iconst (v := 5) dX12_come_334 (by decide) ?_
    exact xv.lv (BX12_come_335_ok hk264 hF) (xsub_cons rfl (xsub_cons rfl (xsub_cons rfl (xsub_cons rfl (xsub_cons rfl (xsub_cons rfl (xsub_cons rfl xsub_nil)))))))
def BX12_come_264 : Nat → Option Nat → Int32 → Int32 → Int32 → Int32 → Hp → Option (Int32 × Hp)
  | 0, _, _, _, _, _, _ => none
  | n + 1, x0, x2, x3, x5, x6, h0 =>
    if (x6 : Int32) < 16 then
      gR h0 x0 11 28 fun v2 =>
      aI h0 v2 .int ((16 * x3) + x6) fun v6 =>
      if (x6 : Int32) < 15 then
        gR h0 x0 11 28 fun v13 =>
        aI h0 v13 .int (((16 * x3) + x6) + 1) fun v17 =>
        BX12_come_310 (BX12_come_264 n) x0 x2 x3 x5 x6 v6 v17 h0
      else
        BX12_come_310 (BX12_come_264 n) x0 x2 x3 x5 x6 v6 5 h0
    else
      gR h0 x0 11 25 fun v23 =>
      gR h0 x0 11 25 fun v27 =>
      aI h0 v27 .boolean x2 fun v31 =>
      if (v31 : Int32) = 0 then
        if (x5 : Int32) = 0 then
          sZ h0 v23 x2 0 fun h39 =>
          some (0, h39)
        else
          sZ h0 v23 x2 1 fun h46 =>
          some (0, h46)
      else
        sZ h0 v23 x2 1 fun h53 =>
        some (0, h53)
set_option maxRecDepth 100000 in
set_option maxHeartbeats 4000000 in
theorem BX12_come_264_ok {G : xG} {l : Launch} : ∀ (n : Nat) {x0 : Option Nat} {x2 : Int32} {x3 : Int32} {x5 : Int32} {x6 : Int32} {h0 h1 : Hp} {r : Int32} (hF : BX12_come_264 n x0 x2 x3 x5 x6 h0 = some (r, h1)), xv G l mX12_come 1 0 0 264 [(0, false, va_rf x0), (2, false, .int x2), (3, false, .int x3), (5, false, .int x5), (6, false, .int x6)] [] h0 (xP mkI r h1) := by
  intro n
  induction n with
  | zero => intro x0 x2 x3 x5 x6 h0 h1 r hF; cases hF
  | succ n ih =>
    intro x0 x2 x3 x5 x6 h0 h1 r hF
    unfold BX12_come_264 at hF
    refine xe_iload dX12_come_264 rfl ?_
    refine xe_bipush (v := 16) dX12_come_266 (by decide) ?_
    refine xe_icmp_ge (tgt := 423) dX12_come_268 (by decide) (fun c1 => ?_) (fun c1 => ?_)
    · replace hF := if_p c1 hF
      refine xe_aload_n dX12_come_271 rfl rfl ?_
      obtain ⟨a3, e4, t5, hF⟩ := gR_inv hF
      refine xq_getR dX12_come_272 fl_SeldomOpsModel_87 xk_11 e4 t5 rfl ?_
      refine xe_bipush (v := 16) dX12_come_275 (by decide) ?_
      refine xe_iload_n dX12_come_277 rfl rfl ?_
      refine xe_imul dX12_come_278 ?_
      refine xe_iload dX12_come_279 rfl ?_
      refine xe_iadd dX12_come_281 ?_
      obtain ⟨a7, n8, e9, t10, b11, hF⟩ := aI_inv hF
      refine xq_iald dX12_come_282 e9 t10 b11 ?_
      refine xe_istore dX12_come_283 (by decide) ?_
      refine xe_iload dX12_come_285 rfl ?_
      refine xe_bipush (v := 15) dX12_come_287 (by decide) ?_
      refine xe_icmp_ge (tgt := 309) dX12_come_289 (by decide) (fun c12 => ?_) (fun c12 => ?_)
      · replace hF := if_p c12 hF
        refine xe_aload_n dX12_come_292 rfl rfl ?_
        obtain ⟨a14, e15, t16, hF⟩ := gR_inv hF
        refine xq_getR dX12_come_293 fl_SeldomOpsModel_87 xk_11 e15 t16 rfl ?_
        refine xe_bipush (v := 16) dX12_come_296 (by decide) ?_
        refine xe_iload_n dX12_come_298 rfl rfl ?_
        refine xe_imul dX12_come_299 ?_
        refine xe_iload dX12_come_300 rfl ?_
        refine xe_iadd dX12_come_302 ?_
        refine xe_iconst (v := 1) dX12_come_303 (by decide) ?_
        refine xe_iadd dX12_come_304 ?_
        obtain ⟨a18, n19, e20, t21, b22, hF⟩ := aI_inv hF
        refine xq_iald dX12_come_305 e20 t21 b22 ?_
        refine xe_goto (tgt := 310) dX12_come_306 (by decide) ?_
        exact xv.lv (BX12_come_310_ok ih hF) (xsub_cons rfl (xsub_cons rfl (xsub_cons rfl (xsub_cons rfl (xsub_cons rfl (xsub_cons rfl xsub_nil))))))
      · replace hF := if_n c12 hF
        refine xe_iconst (v := 5) dX12_come_309 (by decide) ?_
        exact xv.lv (BX12_come_310_ok ih hF) (xsub_cons rfl (xsub_cons rfl (xsub_cons rfl (xsub_cons rfl (xsub_cons rfl (xsub_cons rfl xsub_nil))))))
    · replace hF := if_n c1 hF
      refine xe_aload_n dX12_come_423 rfl rfl ?_
      obtain ⟨a24, e25, t26, hF⟩ := gR_inv hF
      refine xq_getR dX12_come_424 fl_SeldomOpsModel_78 xk_11 e25 t26 rfl ?_
      refine xe_iload_n dX12_come_427 rfl rfl ?_
      refine xe_aload_n dX12_come_428 rfl rfl ?_
      obtain ⟨a28, e29, t30, hF⟩ := gR_inv hF
      refine xq_getR dX12_come_429 fl_SeldomOpsModel_78 xk_11 e29 t30 rfl ?_
      refine xe_iload_n dX12_come_432 rfl rfl ?_
      obtain ⟨a32, n33, e34, t35, b36, hF⟩ := aI_inv hF
      refine xq_zald dX12_come_433 e34 t35 b36 ?_
      refine xe_if_ne (tgt := 442) dX12_come_434 (by decide) (fun c37 => ?_) (fun c37 => ?_)
      · replace hF := if_p c37 hF
        refine xe_iload dX12_come_437 rfl ?_
        refine xe_if_eq (tgt := 446) dX12_come_439 (by decide) (fun c38 => ?_) (fun c38 => ?_)
        · replace hF := if_p c38 hF
          refine xe_iconst (v := 0) dX12_come_446 (by decide) ?_
          obtain ⟨a40, n41, e42, t43, b44, z45, hF⟩ := sZ_inv hF
          refine xq_zast dX12_come_447 e42 t43 b44 z45 ?_
          refine xe_iconst (v := 0) dX12_come_448 (by decide) ?_
          exact xe_ireturn dX12_come_449 (xP_ret (mk := mkI) hF)
        · replace hF := if_n c38 hF
          refine xe_iconst (v := 1) dX12_come_442 (by decide) ?_
          refine xe_goto (tgt := 447) dX12_come_443 (by decide) ?_
          obtain ⟨a47, n48, e49, t50, b51, z52, hF⟩ := sZ_inv hF
          refine xq_zast dX12_come_447 e49 t50 b51 z52 ?_
          refine xe_iconst (v := 0) dX12_come_448 (by decide) ?_
          exact xe_ireturn dX12_come_449 (xP_ret (mk := mkI) hF)
      · replace hF := if_n c37 hF
        refine xe_iconst (v := 1) dX12_come_442 (by decide) ?_
        refine xe_goto (tgt := 447) dX12_come_443 (by decide) ?_
        obtain ⟨a54, n55, e56, t57, b58, z59, hF⟩ := sZ_inv hF
        refine xq_zast dX12_come_447 e56 t57 b58 z59 ?_
        refine xe_iconst (v := 0) dX12_come_448 (by decide) ?_
        exact xe_ireturn dX12_come_449 (xP_ret (mk := mkI) hF)
def BX12_come_255 (k200 : Option Nat → Int32 → Int32 → Int32 → Int32 → Hp → Option (Int32 × Hp)) (x0 : Option Nat) (x2 : Int32) (x3 : Int32) (x5 : Int32) (x6 : Int32) (h0 : Hp) : Option (Int32 × Hp) :=
  k200 x0 x2 x3 x5 (x6 + 1) h0
set_option maxRecDepth 100000 in
set_option maxHeartbeats 4000000 in
theorem BX12_come_255_ok {G : xG} {l : Launch} {k200 : Option Nat → Int32 → Int32 → Int32 → Int32 → Hp → Option (Int32 × Hp)} (hk200 : ∀ {x0 : Option Nat} {x2 : Int32} {x3 : Int32} {x5 : Int32} {x6 : Int32} {h0 h1 : Hp} {r : Int32}, k200 x0 x2 x3 x5 x6 h0 = some (r, h1) → xv G l mX12_come 1 0 0 200 [(0, false, va_rf x0), (2, false, .int x2), (3, false, .int x3), (5, false, .int x5), (6, false, .int x6)] [] h0 (xP mkI r h1)) {x0 : Option Nat} {x2 : Int32} {x3 : Int32} {x5 : Int32} {x6 : Int32} {h0 h1 : Hp} {r : Int32} (hF : BX12_come_255 k200 x0 x2 x3 x5 x6 h0 = some (r, h1)) : xv G l mX12_come 1 0 0 255 [(0, false, va_rf x0), (2, false, .int x2), (3, false, .int x3), (5, false, .int x5), (6, false, .int x6)] [] h0 (xP mkI r h1) := by
  unfold BX12_come_255 at hF
  refine xe_iinc (v := _ + 1) dX12_come_255 rfl rfl (by decide) ?_
  refine xe_goto (tgt := 200) dX12_come_258 (by decide) ?_
  exact xv.lv (hk200 hF) (xsub_cons rfl (xsub_cons rfl (xsub_cons rfl (xsub_cons rfl (xsub_cons rfl xsub_nil)))))
def BX12_come_200 : Nat → Option Nat → Int32 → Int32 → Int32 → Int32 → Hp → Option (Int32 × Hp)
  | 0, _, _, _, _, _, _ => none
  | n + 1, x0, x2, x3, x5, x6, h0 =>
    if (x6 : Int32) < 16 then
      gR h0 x0 11 28 fun v2 =>
      aI h0 v2 .int ((16 * x3) + x6) fun v6 =>
      if (v6 : Int32) = 5 then
        BX12_come_255 (BX12_come_200 n) x0 x2 x3 x5 x6 h0
      else
        gR h0 x0 11 31 fun v13 =>
        aI h0 v13 .int x6 fun v17 =>
        if (v6 : Int32) = v17 then
          BX12_come_255 (BX12_come_200 n) x0 x2 x3 x5 x6 h0
        else
          gR h0 x0 11 28 fun v24 =>
          sI h0 v24 ((16 * x3) + x6) 5 fun h28 =>
          BX12_come_255 (BX12_come_200 n) x0 x2 x3 1 x6 h28
    else
      BX12_come_264 100000 x0 x2 x3 x5 0 h0
set_option maxRecDepth 100000 in
set_option maxHeartbeats 4000000 in
theorem BX12_come_200_ok {G : xG} {l : Launch} : ∀ (n : Nat) {x0 : Option Nat} {x2 : Int32} {x3 : Int32} {x5 : Int32} {x6 : Int32} {h0 h1 : Hp} {r : Int32} (hF : BX12_come_200 n x0 x2 x3 x5 x6 h0 = some (r, h1)), xv G l mX12_come 1 0 0 200 [(0, false, va_rf x0), (2, false, .int x2), (3, false, .int x3), (5, false, .int x5), (6, false, .int x6)] [] h0 (xP mkI r h1) := by
  intro n
  induction n with
  | zero => intro x0 x2 x3 x5 x6 h0 h1 r hF; cases hF
  | succ n ih =>
    intro x0 x2 x3 x5 x6 h0 h1 r hF
    unfold BX12_come_200 at hF
    refine xe_iload dX12_come_200 rfl ?_
    refine xe_bipush (v := 16) dX12_come_202 (by decide) ?_
    refine xe_icmp_ge (tgt := 261) dX12_come_204 (by decide) (fun c1 => ?_) (fun c1 => ?_)
    · replace hF := if_p c1 hF
      refine xe_aload_n dX12_come_207 rfl rfl ?_
      obtain ⟨a3, e4, t5, hF⟩ := gR_inv hF
      refine xq_getR dX12_come_208 fl_SeldomOpsModel_87 xk_11 e4 t5 rfl ?_
      refine xe_bipush (v := 16) dX12_come_211 (by decide) ?_
      refine xe_iload_n dX12_come_213 rfl rfl ?_
      refine xe_imul dX12_come_214 ?_
      refine xe_iload dX12_come_215 rfl ?_
      refine xe_iadd dX12_come_217 ?_
      obtain ⟨a7, n8, e9, t10, b11, hF⟩ := aI_inv hF
      refine xq_iald dX12_come_218 e9 t10 b11 ?_
      refine xe_istore dX12_come_219 (by decide) ?_
      refine xe_iload dX12_come_221 rfl ?_
      refine xe_iconst (v := 5) dX12_come_223 (by decide) ?_
      refine xe_icmp_eq (tgt := 255) dX12_come_224 (by decide) (fun c12 => ?_) (fun c12 => ?_)
      · replace hF := if_p c12 hF
        exact xv.lv (BX12_come_255_ok ih hF) (xsub_cons rfl (xsub_cons rfl (xsub_cons rfl (xsub_cons rfl (xsub_cons rfl xsub_nil)))))
      · replace hF := if_n c12 hF
        refine xe_iload dX12_come_227 rfl ?_
        refine xe_aload_n dX12_come_229 rfl rfl ?_
        obtain ⟨a14, e15, t16, hF⟩ := gR_inv hF
        refine xq_getR dX12_come_230 fl_SeldomOpsModel_93 xk_11 e15 t16 rfl ?_
        refine xe_iload dX12_come_233 rfl ?_
        obtain ⟨a18, n19, e20, t21, b22, hF⟩ := aI_inv hF
        refine xq_iald dX12_come_235 e20 t21 b22 ?_
        refine xe_icmp_eq (tgt := 255) dX12_come_236 (by decide) (fun c23 => ?_) (fun c23 => ?_)
        · replace hF := if_p c23 hF
          exact xv.lv (BX12_come_255_ok ih hF) (xsub_cons rfl (xsub_cons rfl (xsub_cons rfl (xsub_cons rfl (xsub_cons rfl xsub_nil)))))
        · replace hF := if_n c23 hF
          refine xe_aload_n dX12_come_239 rfl rfl ?_
          obtain ⟨a25, e26, t27, hF⟩ := gR_inv hF
          refine xq_getR dX12_come_240 fl_SeldomOpsModel_87 xk_11 e26 t27 rfl ?_
          refine xe_bipush (v := 16) dX12_come_243 (by decide) ?_
          refine xe_iload_n dX12_come_245 rfl rfl ?_
          refine xe_imul dX12_come_246 ?_
          refine xe_iload dX12_come_247 rfl ?_
          refine xe_iadd dX12_come_249 ?_
          refine xe_iconst (v := 5) dX12_come_250 (by decide) ?_
          obtain ⟨a29, n30, e31, t32, b33, hF⟩ := sI_inv hF
          refine xq_iast dX12_come_251 e31 t32 b33 ?_
          refine xe_iconst (v := 1) dX12_come_252 (by decide) ?_
          refine xe_istore dX12_come_253 (by decide) ?_
          exact xv.lv (BX12_come_255_ok ih hF) (xsub_cons rfl (xsub_cons rfl (xsub_cons rfl (xsub_cons rfl (xsub_cons rfl xsub_nil)))))
    · replace hF := if_n c1 hF
      refine xe_iconst (v := 0) dX12_come_261 (by decide) ?_
      refine xe_istore dX12_come_262 (by decide) ?_
      exact xv.lv (BX12_come_264_ok _ hF) (xsub_cons rfl (xsub_cons rfl (xsub_cons rfl (xsub_cons rfl (xsub_cons rfl xsub_nil)))))
def BX12_come_186 (x0 : Option Nat) (x2 : Int32) (x3 : Int32) (x4 : Int32) (h0 : Hp) : Option (Int32 × Hp) :=
  if (x4 : Int32) = 0 then
    some (6, h0)
  else
    BX12_come_200 100000 x0 x2 x3 0 0 h0
set_option maxRecDepth 100000 in
set_option maxHeartbeats 4000000 in
theorem BX12_come_186_ok {G : xG} {l : Launch} {x0 : Option Nat} {x2 : Int32} {x3 : Int32} {x4 : Int32} {h0 h1 : Hp} {r : Int32} (hF : BX12_come_186 x0 x2 x3 x4 h0 = some (r, h1)) : xv G l mX12_come 1 0 0 186 [(0, false, va_rf x0), (2, false, .int x2), (3, false, .int x3), (4, false, .int x4)] [] h0 (xP mkI r h1) := by
  unfold BX12_come_186 at hF
  refine xe_iload dX12_come_186 rfl ?_
  refine xe_if_ne (tgt := 194) dX12_come_188 (by decide) (fun c1 => ?_) (fun c1 => ?_)
  · replace hF := if_p c1 hF
    refine xe_bipush (v := 6) dX12_come_191 (by decide) ?_
    exact xe_ireturn dX12_come_193 (xP_ret (mk := mkI) hF)
  · replace hF := if_n c1 hF
    refine xe_iconst (v := 0) dX12_come_194 (by decide) ?_
    refine xe_istore dX12_come_195 (by decide) ?_
    refine xe_iconst (v := 0) dX12_come_197 (by decide) ?_
    refine xe_istore dX12_come_198 (by decide) ?_
    exact xv.lv (BX12_come_200_ok _ hF) (xsub_cons rfl (xsub_cons rfl (xsub_cons rfl (xsub_cons rfl (xsub_cons rfl xsub_nil)))))
def BX12_come_178 (k137 : Option Nat → Int32 → Int32 → Int32 → Int32 → Hp → Option (Int32 × Hp)) (x0 : Option Nat) (x2 : Int32) (x3 : Int32) (x5 : Int32) (s0 : Int32) (h0 : Hp) : Option (Int32 × Hp) :=
  k137 x0 x2 x3 s0 (x5 + 1) h0
set_option maxRecDepth 100000 in
set_option maxHeartbeats 4000000 in
theorem BX12_come_178_ok {G : xG} {l : Launch} {k137 : Option Nat → Int32 → Int32 → Int32 → Int32 → Hp → Option (Int32 × Hp)} (hk137 : ∀ {x0 : Option Nat} {x2 : Int32} {x3 : Int32} {x4 : Int32} {x5 : Int32} {h0 h1 : Hp} {r : Int32}, k137 x0 x2 x3 x4 x5 h0 = some (r, h1) → xv G l mX12_come 1 0 0 137 [(0, false, va_rf x0), (2, false, .int x2), (3, false, .int x3), (4, false, .int x4), (5, false, .int x5)] [] h0 (xP mkI r h1)) {x0 : Option Nat} {x2 : Int32} {x3 : Int32} {x5 : Int32} {s0 : Int32} {h0 h1 : Hp} {r : Int32} (hF : BX12_come_178 k137 x0 x2 x3 x5 s0 h0 = some (r, h1)) : xv G l mX12_come 1 0 0 178 [(0, false, va_rf x0), (2, false, .int x2), (3, false, .int x3), (5, false, .int x5)] [.int s0] h0 (xP mkI r h1) := by
  unfold BX12_come_178 at hF
  refine xe_istore dX12_come_178 (by decide) ?_
  refine xe_iinc (v := _ + 1) dX12_come_180 rfl rfl (by decide) ?_
  refine xe_goto (tgt := 137) dX12_come_183 (by decide) ?_
  exact xv.lv (hk137 hF) (xsub_cons rfl (xsub_cons rfl (xsub_cons rfl (xsub_cons rfl (xsub_cons rfl xsub_nil)))))
def BX12_come_137 : Nat → Option Nat → Int32 → Int32 → Int32 → Int32 → Hp → Option (Int32 × Hp)
  | 0, _, _, _, _, _, _ => none
  | n + 1, x0, x2, x3, x4, x5, h0 =>
    gI h0 x0 11 29 fun v1 =>
    if (x5 : Int32) < v1 then
      if (x4 : Int32) = 0 then
        BX12_come_186 x0 x2 x3 x4 h0
      else
        gR h0 x0 11 27 fun v7 =>
        aI h0 v7 .int ((12 * x3) + x5) fun v11 =>
        gR h0 x0 11 30 fun v17 =>
        aI h0 v17 .int x5 fun v21 =>
        if (v11 : Int32) = v21 then
          BX12_come_178 (BX12_come_137 n) x0 x2 x3 x5 1 h0
        else
          BX12_come_178 (BX12_come_137 n) x0 x2 x3 x5 0 h0
    else
      BX12_come_186 x0 x2 x3 x4 h0
set_option maxRecDepth 100000 in
set_option maxHeartbeats 4000000 in
theorem BX12_come_137_ok {G : xG} {l : Launch} : ∀ (n : Nat) {x0 : Option Nat} {x2 : Int32} {x3 : Int32} {x4 : Int32} {x5 : Int32} {h0 h1 : Hp} {r : Int32} (hF : BX12_come_137 n x0 x2 x3 x4 x5 h0 = some (r, h1)), xv G l mX12_come 1 0 0 137 [(0, false, va_rf x0), (2, false, .int x2), (3, false, .int x3), (4, false, .int x4), (5, false, .int x5)] [] h0 (xP mkI r h1) := by
  intro n
  induction n with
  | zero => intro x0 x2 x3 x4 x5 h0 h1 r hF; cases hF
  | succ n ih =>
    intro x0 x2 x3 x4 x5 h0 h1 r hF
    unfold BX12_come_137 at hF
    refine xe_iload dX12_come_137 rfl ?_
    refine xe_aload_n dX12_come_139 rfl rfl ?_
    obtain ⟨a2, e3, t4, hF⟩ := gI_inv hF
    refine xq_getI dX12_come_140 fl_SeldomOpsModel_212 xk_11 e3 t4 rfl ?_
    refine xe_icmp_ge (tgt := 186) dX12_come_143 (by decide) (fun c5 => ?_) (fun c5 => ?_)
    · replace hF := if_p c5 hF
      refine xe_iload dX12_come_146 rfl ?_
      refine xe_if_eq (tgt := 186) dX12_come_148 (by decide) (fun c6 => ?_) (fun c6 => ?_)
      · replace hF := if_p c6 hF
        exact xv.lv (BX12_come_186_ok hF) (xsub_cons rfl (xsub_cons rfl (xsub_cons rfl (xsub_cons rfl xsub_nil))))
      · replace hF := if_n c6 hF
        refine xe_aload_n dX12_come_151 rfl rfl ?_
        obtain ⟨a8, e9, t10, hF⟩ := gR_inv hF
        refine xq_getR dX12_come_152 fl_SeldomOpsModel_84 xk_11 e9 t10 rfl ?_
        refine xe_bipush (v := 12) dX12_come_155 (by decide) ?_
        refine xe_iload_n dX12_come_157 rfl rfl ?_
        refine xe_imul dX12_come_158 ?_
        refine xe_iload dX12_come_159 rfl ?_
        refine xe_iadd dX12_come_161 ?_
        obtain ⟨a12, n13, e14, t15, b16, hF⟩ := aI_inv hF
        refine xq_iald dX12_come_162 e14 t15 b16 ?_
        refine xe_aload_n dX12_come_163 rfl rfl ?_
        obtain ⟨a18, e19, t20, hF⟩ := gR_inv hF
        refine xq_getR dX12_come_164 fl_SeldomOpsModel_90 xk_11 e19 t20 rfl ?_
        refine xe_iload dX12_come_167 rfl ?_
        obtain ⟨a22, n23, e24, t25, b26, hF⟩ := aI_inv hF
        refine xq_iald dX12_come_169 e24 t25 b26 ?_
        refine xe_icmp_ne (tgt := 177) dX12_come_170 (by decide) (fun c27 => ?_) (fun c27 => ?_)
        · replace hF := if_p c27 hF
          refine xe_iconst (v := 1) dX12_come_173 (by decide) ?_
          refine xe_goto (tgt := 178) dX12_come_174 (by decide) ?_
          exact xv.lv (BX12_come_178_ok ih hF) (xsub_cons rfl (xsub_cons rfl (xsub_cons rfl (xsub_cons rfl xsub_nil))))
        · replace hF := if_n c27 hF
          refine xe_iconst (v := 0) dX12_come_177 (by decide) ?_
          exact xv.lv (BX12_come_178_ok ih hF) (xsub_cons rfl (xsub_cons rfl (xsub_cons rfl (xsub_cons rfl xsub_nil))))
    · replace hF := if_n c5 hF
      exact xv.lv (BX12_come_186_ok hF) (xsub_cons rfl (xsub_cons rfl (xsub_cons rfl (xsub_cons rfl xsub_nil))))
def BX12_come_132 (x0 : Option Nat) (x2 : Int32) (x3 : Int32) (s0 : Int32) (h0 : Hp) : Option (Int32 × Hp) :=
  BX12_come_137 100000 x0 x2 x3 s0 0 h0
set_option maxRecDepth 100000 in
set_option maxHeartbeats 4000000 in
theorem BX12_come_132_ok {G : xG} {l : Launch} {x0 : Option Nat} {x2 : Int32} {x3 : Int32} {s0 : Int32} {h0 h1 : Hp} {r : Int32} (hF : BX12_come_132 x0 x2 x3 s0 h0 = some (r, h1)) : xv G l mX12_come 1 0 0 132 [(0, false, va_rf x0), (2, false, .int x2), (3, false, .int x3)] [.int s0] h0 (xP mkI r h1) := by
  unfold BX12_come_132 at hF
  refine xe_istore dX12_come_132 (by decide) ?_
  refine xe_iconst (v := 0) dX12_come_134 (by decide) ?_
  refine xe_istore dX12_come_135 (by decide) ?_
  exact xv.lv (BX12_come_137_ok _ hF) (xsub_cons rfl (xsub_cons rfl (xsub_cons rfl (xsub_cons rfl (xsub_cons rfl xsub_nil)))))
def FX12_come (p0 : Option Nat) (p1 : Int32) (p2 : Int32) (h0 : Hp) : Option (Int32 × Hp) :=
  gR h0 p0 11 24 fun v1 =>
  aI h0 v1 .boolean ((60 * p1) + p2) fun v5 =>
  if (v5 : Int32) = 0 then
    gR h0 p0 11 24 fun v12 =>
    sZ h0 v12 ((60 * p1) + p2) 1 fun h16 =>
    gR h16 p0 11 26 fun v23 =>
    gI h16 p0 11 29 fun v27 =>
    sI h16 v23 ((60 * p1) + p2) v27 fun h31 =>
    BX12_come_36 100000 p0 p2 ((60 * p1) + p2) 0 h31
  else
    gR h0 p0 11 26 fun v38 =>
    aI h0 v38 .int ((60 * p1) + p2) fun v42 =>
    gI h0 p0 11 29 fun v48 =>
    if (v42 : Int32) = v48 then
      BX12_come_132 p0 p2 ((60 * p1) + p2) 1 h0
    else
      BX12_come_132 p0 p2 ((60 * p1) + p2) 0 h0
set_option maxRecDepth 100000 in
set_option maxHeartbeats 4000000 in
theorem FX12_come_ok {G : xG} {l : Launch} {p0 : Option Nat} {p1 : Int32} {p2 : Int32} {h0 h1 : Hp} {r : Int32} (hF : FX12_come p0 p1 p2 h0 = some (r, h1)) : xc G l mX12_come 1 0 0 [va_rf p0, .int p1, .int p2] h0 (xP mkI r h1) := by
  refine xo_I [.inr (.inr _), .inl _, .inl _] (by decide) (Nat.le_of_ble_eq_true rfl) rfl ?_
  show xv _ _ _ _ _ _ _ [(0, false, va_rf p0), (1, false, .int p1), (2, false, .int p2)] _ _ _
  unfold FX12_come at hF
  refine xe_bipush (v := 60) dX12_come_0 (by decide) ?_
  refine xe_iload_n dX12_come_2 rfl rfl ?_
  refine xe_imul dX12_come_3 ?_
  refine xe_iload_n dX12_come_4 rfl rfl ?_
  refine xe_iadd dX12_come_5 ?_
  refine xe_istore_n dX12_come_6 rfl (by decide) ?_
  refine xe_aload_n dX12_come_7 rfl rfl ?_
  obtain ⟨a2, e3, t4, hF⟩ := gR_inv hF
  refine xq_getR dX12_come_8 fl_SeldomOpsModel_75 xk_11 e3 t4 rfl ?_
  refine xe_iload_n dX12_come_11 rfl rfl ?_
  obtain ⟨a6, n7, e8, t9, b10, hF⟩ := aI_inv hF
  refine xq_zald dX12_come_12 e8 t9 b10 ?_
  refine xe_if_ne (tgt := 114) dX12_come_13 (by decide) (fun c11 => ?_) (fun c11 => ?_)
  · replace hF := if_p c11 hF
    refine xe_aload_n dX12_come_16 rfl rfl ?_
    obtain ⟨a13, e14, t15, hF⟩ := gR_inv hF
    refine xq_getR dX12_come_17 fl_SeldomOpsModel_75 xk_11 e14 t15 rfl ?_
    refine xe_iload_n dX12_come_20 rfl rfl ?_
    refine xe_iconst (v := 1) dX12_come_21 (by decide) ?_
    obtain ⟨a17, n18, e19, t20, b21, z22, hF⟩ := sZ_inv hF
    refine xq_zast dX12_come_22 e19 t20 b21 z22 ?_
    refine xe_aload_n dX12_come_23 rfl rfl ?_
    obtain ⟨a24, e25, t26, hF⟩ := gR_inv hF
    refine xq_getR dX12_come_24 fl_SeldomOpsModel_81 xk_11 e25 t26 rfl ?_
    refine xe_iload_n dX12_come_27 rfl rfl ?_
    refine xe_aload_n dX12_come_28 rfl rfl ?_
    obtain ⟨a28, e29, t30, hF⟩ := gI_inv hF
    refine xq_getI dX12_come_29 fl_SeldomOpsModel_212 xk_11 e29 t30 rfl ?_
    obtain ⟨a32, n33, e34, t35, b36, hF⟩ := sI_inv hF
    refine xq_iast dX12_come_32 e34 t35 b36 ?_
    refine xe_iconst (v := 0) dX12_come_33 (by decide) ?_
    refine xe_istore dX12_come_34 (by decide) ?_
    exact xv.lv (BX12_come_36_ok _ hF) (xsub_cons rfl (xsub_cons rfl (xsub_cons rfl (xsub_cons rfl xsub_nil))))
  · replace hF := if_n c11 hF
    refine xe_aload_n dX12_come_114 rfl rfl ?_
    obtain ⟨a39, e40, t41, hF⟩ := gR_inv hF
    refine xq_getR dX12_come_115 fl_SeldomOpsModel_81 xk_11 e40 t41 rfl ?_
    refine xe_iload_n dX12_come_118 rfl rfl ?_
    obtain ⟨a43, n44, e45, t46, b47, hF⟩ := aI_inv hF
    refine xq_iald dX12_come_119 e45 t46 b47 ?_
    refine xe_aload_n dX12_come_120 rfl rfl ?_
    obtain ⟨a49, e50, t51, hF⟩ := gI_inv hF
    refine xq_getI dX12_come_121 fl_SeldomOpsModel_212 xk_11 e50 t51 rfl ?_
    refine xe_icmp_ne (tgt := 131) dX12_come_124 (by decide) (fun c52 => ?_) (fun c52 => ?_)
    · replace hF := if_p c52 hF
      refine xe_iconst (v := 1) dX12_come_127 (by decide) ?_
      refine xe_goto (tgt := 132) dX12_come_128 (by decide) ?_
      exact xv.lv (BX12_come_132_ok hF) (xsub_cons rfl (xsub_cons rfl (xsub_cons rfl xsub_nil)))
    · replace hF := if_n c52 hF
      refine xe_iconst (v := 0) dX12_come_131 (by decide) ?_
      exact xv.lv (BX12_come_132_ok hF) (xsub_cons rfl (xsub_cons rfl (xsub_cons rfl xsub_nil)))
/-! SeldomOpsModel.constant(J)I -/
def FX12_constant (p0 : Option Nat) (p1 : Int64) (h0 : Hp) : Option (Int32 × Hp) :=
  gI h0 p0 11 15 fun v1 =>
  if (v1 : Int32) = 40 then
    some ((-4), h0)
  else
    rcv h0 p0 11 <|
    cl (FX12_change p0 h0) fun v6 h7 =>
    gR h7 p0 11 16 fun v12 =>
    gI h7 p0 11 15 fun v16 =>
    sL h7 v12 v16 p1 fun h20 =>
    gI h20 p0 11 15 fun v27 =>
    pI h20 p0 11 15 (v27 + 1) fun h34 =>
    gI h34 p0 11 15 fun v36 =>
    some ((v36 - 1), h34)
set_option maxRecDepth 100000 in
set_option maxHeartbeats 4000000 in
theorem FX12_constant_ok {G : xG} {l : Launch} {p0 : Option Nat} {p1 : Int64} {h0 h1 : Hp} {r : Int32} (hF : FX12_constant p0 p1 h0 = some (r, h1)) : xc G l mX12_constant 2 0 0 [va_rf p0, .long p1] h0 (xP mkI r h1) := by
  refine xo_I [.inr (.inr _), .inr (.inl _)] (by decide) (Nat.le_of_ble_eq_true rfl) rfl ?_
  show xv _ _ _ _ _ _ _ [(0, false, va_rf p0), (1, true, .long p1)] _ _ _
  unfold FX12_constant at hF
  refine xe_aload_n dX12_constant_0 rfl rfl ?_
  obtain ⟨a2, e3, t4, hF⟩ := gI_inv hF
  refine xq_getI dX12_constant_1 fl_SeldomOpsModel_184 xk_11 e3 t4 rfl ?_
  refine xe_bipush (v := 40) dX12_constant_4 (by decide) ?_
  refine xe_icmp_ne (tgt := 12) dX12_constant_6 (by decide) (fun c5 => ?_) (fun c5 => ?_)
  · replace hF := if_p c5 hF
    refine xe_bipush (v := (-4)) dX12_constant_9 (by decide) ?_
    exact xe_ireturn dX12_constant_11 (xP_ret (mk := mkI) hF)
  · replace hF := if_n c5 hF
    refine xe_aload_n dX12_constant_12 rfl rfl ?_
    obtain ⟨a11, e9, t10, hF⟩ := rcv_inv hF
    obtain ⟨v6, h7, o8, hF⟩ := cl_inv hF
    refine xz (xq_callV (As := []) (rest := []) dX12_constant_13 mk_X12_change ⟨tw_1177, tw_1179, ts_37⟩ (ci := 11) rfl e9 t10 (FX12_change_ok o8) xP_q (by decide) (by decide) rfl rfl ?_)
    refine xe_aload_n dX12_constant_16 rfl rfl ?_
    obtain ⟨a13, e14, t15, hF⟩ := gR_inv hF
    refine xq_getR dX12_constant_17 fl_SeldomOpsModel_53 xk_11 e14 t15 rfl ?_
    refine xe_aload_n dX12_constant_20 rfl rfl ?_
    obtain ⟨a17, e18, t19, hF⟩ := gI_inv hF
    refine xq_getI dX12_constant_21 fl_SeldomOpsModel_184 xk_11 e18 t19 rfl ?_
    refine xe_lload_n dX12_constant_24 rfl rfl ?_
    obtain ⟨a21, n22, e23, t24, b25, hF⟩ := sL_inv hF
    refine xq_last dX12_constant_25 e23 t24 b25 ?_
    refine xe_aload_n dX12_constant_26 rfl rfl ?_
    refine xe_dup dX12_constant_27 (va_rf_cat _) ?_
    obtain ⟨a28, e29, t30, hF⟩ := gI_inv hF
    refine xq_getI dX12_constant_28 fl_SeldomOpsModel_184 xk_11 e29 t30 rfl ?_
    refine xe_iconst (v := 1) dX12_constant_31 (by decide) ?_
    refine xe_iadd dX12_constant_32 ?_
    obtain ⟨a31, e32, t33, hF⟩ := pI_inv hF
    refine xq_putI dX12_constant_33 fl_SeldomOpsModel_184 xk_11 (by decide) (fun z => by cases z) e32 t33 (Or.inl rfl) ?_
    refine xe_aload_n dX12_constant_36 rfl rfl ?_
    obtain ⟨a37, e38, t39, hF⟩ := gI_inv hF
    refine xq_getI dX12_constant_37 fl_SeldomOpsModel_184 xk_11 e38 t39 rfl ?_
    refine xe_iconst (v := 1) dX12_constant_40 (by decide) ?_
    refine xe_isub dX12_constant_41 ?_
    exact xe_ireturn dX12_constant_42 (xP_ret (mk := mkI) hF)
/-! SeldomOpsModel.isWhole(I)Z -/
def FX12_isWhole (p0 : Option Nat) (p1 : Int32) (h0 : Hp) : Option (Int32 × Hp) :=
  gI h0 p0 11 29 fun v1 =>
  if (v1 : Int32) < p1 then
    bz 0 (some (0, h0))
  else
    gR h0 p0 11 30 fun v7 =>
    gI h0 p0 11 29 fun v11 =>
    aI h0 v7 .int (v11 - p1) fun v15 =>
    if (v15 : Int32) < 6 then
      bz 1 (some (1, h0))
    else
      bz 0 (some (0, h0))
set_option maxRecDepth 100000 in
set_option maxHeartbeats 4000000 in
theorem FX12_isWhole_ok {G : xG} {l : Launch} {p0 : Option Nat} {p1 : Int32} {h0 h1 : Hp} {r : Int32} (hF : FX12_isWhole p0 p1 h0 = some (r, h1)) : xc G l mX12_isWhole 1 0 0 [va_rf p0, .int p1] h0 (xPZ r h1) := by
  refine xo_Z [.inr (.inr _), .inl _] (by decide) (Nat.le_of_ble_eq_true rfl) rfl ?_
  show xv _ _ _ _ _ _ _ [(0, false, va_rf p0), (1, false, .int p1)] _ _ _
  unfold FX12_isWhole at hF
  refine xe_aload_n dX12_isWhole_0 rfl rfl ?_
  obtain ⟨a2, e3, t4, hF⟩ := gI_inv hF
  refine xq_getI dX12_isWhole_1 fl_SeldomOpsModel_212 xk_11 e3 t4 rfl ?_
  refine xe_iload_n dX12_isWhole_4 rfl rfl ?_
  refine xe_icmp_lt (tgt := 28) dX12_isWhole_5 (by decide) (fun c5 => ?_) (fun c5 => ?_)
  · replace hF := if_p c5 hF
    refine xe_iconst (v := 0) dX12_isWhole_28 (by decide) ?_
    obtain ⟨z6, hF⟩ := bz_inv hF
    exact xe_ireturn dX12_isWhole_29 (xPZ_ret z6 hF)
  · replace hF := if_n c5 hF
    refine xe_aload_n dX12_isWhole_8 rfl rfl ?_
    obtain ⟨a8, e9, t10, hF⟩ := gR_inv hF
    refine xq_getR dX12_isWhole_9 fl_SeldomOpsModel_90 xk_11 e9 t10 rfl ?_
    refine xe_aload_n dX12_isWhole_12 rfl rfl ?_
    obtain ⟨a12, e13, t14, hF⟩ := gI_inv hF
    refine xq_getI dX12_isWhole_13 fl_SeldomOpsModel_212 xk_11 e13 t14 rfl ?_
    refine xe_iload_n dX12_isWhole_16 rfl rfl ?_
    refine xe_isub dX12_isWhole_17 ?_
    obtain ⟨a16, n17, e18, t19, b20, hF⟩ := aI_inv hF
    refine xq_iald dX12_isWhole_18 e18 t19 b20 ?_
    refine xe_bipush (v := 6) dX12_isWhole_19 (by decide) ?_
    refine xe_icmp_ge (tgt := 28) dX12_isWhole_21 (by decide) (fun c21 => ?_) (fun c21 => ?_)
    · replace hF := if_p c21 hF
      refine xe_iconst (v := 1) dX12_isWhole_24 (by decide) ?_
      refine xe_goto (tgt := 29) dX12_isWhole_25 (by decide) ?_
      obtain ⟨z22, hF⟩ := bz_inv hF
      exact xe_ireturn dX12_isWhole_29 (xPZ_ret z22 hF)
    · replace hF := if_n c21 hF
      refine xe_iconst (v := 0) dX12_isWhole_28 (by decide) ?_
      obtain ⟨z23, hF⟩ := bz_inv hF
      exact xe_ireturn dX12_isWhole_29 (xPZ_ret z23 hF)
/-! SeldomOpsModel.copies(II)Z -/
def BX12_copies_100 : Nat → Option Nat → Int32 → Int32 → Int32 → Hp → Option (Int32 × Hp)
  | 0, _, _, _, _, _ => none
  | n + 1, x0, x1, x2, x3, h0 =>
    if (x3 : Int32) < x1 then
      gR h0 x0 11 30 fun v2 =>
      gI h0 x0 11 29 fun v6 =>
      gR h0 x0 11 30 fun v10 =>
      gI h0 x0 11 29 fun v14 =>
      aI h0 v10 .int (v14 + x3) fun v18 =>
      sI h0 v2 (((v6 - x1) - x2) + x3) v18 fun h24 =>
      BX12_copies_100 n x0 x1 x2 (x3 + 1) h24
    else
      gI h0 x0 11 29 fun v31 =>
      pI h0 x0 11 29 (v31 + x1) fun h38 =>
      bz 1 (some (1, h38))
set_option maxRecDepth 100000 in
set_option maxHeartbeats 4000000 in
theorem BX12_copies_100_ok {G : xG} {l : Launch} : ∀ (n : Nat) {x0 : Option Nat} {x1 : Int32} {x2 : Int32} {x3 : Int32} {h0 h1 : Hp} {r : Int32} (hF : BX12_copies_100 n x0 x1 x2 x3 h0 = some (r, h1)), xv G l mX12_copies 2 0 0 100 [(0, false, va_rf x0), (1, false, .int x1), (2, false, .int x2), (3, false, .int x3)] [] h0 (xPZ r h1) := by
  intro n
  induction n with
  | zero => intro x0 x1 x2 x3 h0 h1 r hF; cases hF
  | succ n ih =>
    intro x0 x1 x2 x3 h0 h1 r hF
    unfold BX12_copies_100 at hF
    refine xe_iload_n dX12_copies_100 rfl rfl ?_
    refine xe_iload_n dX12_copies_101 rfl rfl ?_
    refine xe_icmp_ge (tgt := 137) dX12_copies_102 (by decide) (fun c1 => ?_) (fun c1 => ?_)
    · replace hF := if_p c1 hF
      refine xe_aload_n dX12_copies_105 rfl rfl ?_
      obtain ⟨a3, e4, t5, hF⟩ := gR_inv hF
      refine xq_getR dX12_copies_106 fl_SeldomOpsModel_90 xk_11 e4 t5 rfl ?_
      refine xe_aload_n dX12_copies_109 rfl rfl ?_
      obtain ⟨a7, e8, t9, hF⟩ := gI_inv hF
      refine xq_getI dX12_copies_110 fl_SeldomOpsModel_212 xk_11 e8 t9 rfl ?_
      refine xe_iload_n dX12_copies_113 rfl rfl ?_
      refine xe_isub dX12_copies_114 ?_
      refine xe_iload_n dX12_copies_115 rfl rfl ?_
      refine xe_isub dX12_copies_116 ?_
      refine xe_iload_n dX12_copies_117 rfl rfl ?_
      refine xe_iadd dX12_copies_118 ?_
      refine xe_aload_n dX12_copies_119 rfl rfl ?_
      obtain ⟨a11, e12, t13, hF⟩ := gR_inv hF
      refine xq_getR dX12_copies_120 fl_SeldomOpsModel_90 xk_11 e12 t13 rfl ?_
      refine xe_aload_n dX12_copies_123 rfl rfl ?_
      obtain ⟨a15, e16, t17, hF⟩ := gI_inv hF
      refine xq_getI dX12_copies_124 fl_SeldomOpsModel_212 xk_11 e16 t17 rfl ?_
      refine xe_iload_n dX12_copies_127 rfl rfl ?_
      refine xe_iadd dX12_copies_128 ?_
      obtain ⟨a19, n20, e21, t22, b23, hF⟩ := aI_inv hF
      refine xq_iald dX12_copies_129 e21 t22 b23 ?_
      obtain ⟨a25, n26, e27, t28, b29, hF⟩ := sI_inv hF
      refine xq_iast dX12_copies_130 e27 t28 b29 ?_
      refine xe_iinc (v := _ + 1) dX12_copies_131 rfl rfl (by decide) ?_
      refine xe_goto (tgt := 100) dX12_copies_134 (by decide) ?_
      exact xv.lv (ih hF) (xsub_cons rfl (xsub_cons rfl (xsub_cons rfl (xsub_cons rfl xsub_nil))))
    · replace hF := if_n c1 hF
      refine xe_aload_n dX12_copies_137 rfl rfl ?_
      refine xe_dup dX12_copies_138 (va_rf_cat _) ?_
      obtain ⟨a32, e33, t34, hF⟩ := gI_inv hF
      refine xq_getI dX12_copies_139 fl_SeldomOpsModel_212 xk_11 e33 t34 rfl ?_
      refine xe_iload_n dX12_copies_142 rfl rfl ?_
      refine xe_iadd dX12_copies_143 ?_
      obtain ⟨a35, e36, t37, hF⟩ := pI_inv hF
      refine xq_putI dX12_copies_144 fl_SeldomOpsModel_212 xk_11 (by decide) (fun z => by cases z) e36 t37 (Or.inl rfl) ?_
      refine xe_iconst (v := 1) dX12_copies_147 (by decide) ?_
      obtain ⟨z40, hF⟩ := bz_inv hF
      exact xe_ireturn dX12_copies_148 (xPZ_ret z40 hF)
def BX12_copies_59 : Nat → Option Nat → Int32 → Int32 → Int32 → Hp → Option (Int32 × Hp)
  | 0, _, _, _, _, _ => none
  | n + 1, x0, x1, x2, x3, h0 =>
    if (x3 : Int32) < x2 then
      gR h0 x0 11 30 fun v2 =>
      gI h0 x0 11 29 fun v6 =>
      gR h0 x0 11 30 fun v10 =>
      gI h0 x0 11 29 fun v14 =>
      aI h0 v10 .int (((v14 - 1) - x1) - x3) fun v18 =>
      sI h0 v2 ((v6 - 1) - x3) v18 fun h24 =>
      BX12_copies_59 n x0 x1 x2 (x3 + 1) h24
    else
      BX12_copies_100 100000 x0 x1 x2 0 h0
set_option maxRecDepth 100000 in
set_option maxHeartbeats 4000000 in
theorem BX12_copies_59_ok {G : xG} {l : Launch} : ∀ (n : Nat) {x0 : Option Nat} {x1 : Int32} {x2 : Int32} {x3 : Int32} {h0 h1 : Hp} {r : Int32} (hF : BX12_copies_59 n x0 x1 x2 x3 h0 = some (r, h1)), xv G l mX12_copies 2 0 0 59 [(0, false, va_rf x0), (1, false, .int x1), (2, false, .int x2), (3, false, .int x3)] [] h0 (xPZ r h1) := by
  intro n
  induction n with
  | zero => intro x0 x1 x2 x3 h0 h1 r hF; cases hF
  | succ n ih =>
    intro x0 x1 x2 x3 h0 h1 r hF
    unfold BX12_copies_59 at hF
    refine xe_iload_n dX12_copies_59 rfl rfl ?_
    refine xe_iload_n dX12_copies_60 rfl rfl ?_
    refine xe_icmp_ge (tgt := 98) dX12_copies_61 (by decide) (fun c1 => ?_) (fun c1 => ?_)
    · replace hF := if_p c1 hF
      refine xe_aload_n dX12_copies_64 rfl rfl ?_
      obtain ⟨a3, e4, t5, hF⟩ := gR_inv hF
      refine xq_getR dX12_copies_65 fl_SeldomOpsModel_90 xk_11 e4 t5 rfl ?_
      refine xe_aload_n dX12_copies_68 rfl rfl ?_
      obtain ⟨a7, e8, t9, hF⟩ := gI_inv hF
      refine xq_getI dX12_copies_69 fl_SeldomOpsModel_212 xk_11 e8 t9 rfl ?_
      refine xe_iconst (v := 1) dX12_copies_72 (by decide) ?_
      refine xe_isub dX12_copies_73 ?_
      refine xe_iload_n dX12_copies_74 rfl rfl ?_
      refine xe_isub dX12_copies_75 ?_
      refine xe_aload_n dX12_copies_76 rfl rfl ?_
      obtain ⟨a11, e12, t13, hF⟩ := gR_inv hF
      refine xq_getR dX12_copies_77 fl_SeldomOpsModel_90 xk_11 e12 t13 rfl ?_
      refine xe_aload_n dX12_copies_80 rfl rfl ?_
      obtain ⟨a15, e16, t17, hF⟩ := gI_inv hF
      refine xq_getI dX12_copies_81 fl_SeldomOpsModel_212 xk_11 e16 t17 rfl ?_
      refine xe_iconst (v := 1) dX12_copies_84 (by decide) ?_
      refine xe_isub dX12_copies_85 ?_
      refine xe_iload_n dX12_copies_86 rfl rfl ?_
      refine xe_isub dX12_copies_87 ?_
      refine xe_iload_n dX12_copies_88 rfl rfl ?_
      refine xe_isub dX12_copies_89 ?_
      obtain ⟨a19, n20, e21, t22, b23, hF⟩ := aI_inv hF
      refine xq_iald dX12_copies_90 e21 t22 b23 ?_
      obtain ⟨a25, n26, e27, t28, b29, hF⟩ := sI_inv hF
      refine xq_iast dX12_copies_91 e27 t28 b29 ?_
      refine xe_iinc (v := _ + 1) dX12_copies_92 rfl rfl (by decide) ?_
      refine xe_goto (tgt := 59) dX12_copies_95 (by decide) ?_
      exact xv.lv (ih hF) (xsub_cons rfl (xsub_cons rfl (xsub_cons rfl (xsub_cons rfl xsub_nil))))
    · replace hF := if_n c1 hF
      refine xe_iconst (v := 0) dX12_copies_98 (by decide) ?_
      refine xe_istore_n dX12_copies_99 rfl (by decide) ?_
      exact xv.lv (BX12_copies_100_ok _ hF) (xsub_cons rfl (xsub_cons rfl (xsub_cons rfl (xsub_cons rfl xsub_nil))))
def BX12_copies_22 : Nat → Option Nat → Int32 → Int32 → Int32 → Hp → Option (Int32 × Hp)
  | 0, _, _, _, _, _ => none
  | n + 1, x0, x1, x2, x3, h0 =>
    if (x3 : Int32) < x1 then
      gR h0 x0 11 30 fun v2 =>
      gI h0 x0 11 29 fun v6 =>
      gR h0 x0 11 30 fun v10 =>
      gI h0 x0 11 29 fun v14 =>
      aI h0 v10 .int ((v14 - x1) + x3) fun v18 =>
      sI h0 v2 (v6 + x3) v18 fun h24 =>
      BX12_copies_22 n x0 x1 x2 (x3 + 1) h24
    else
      BX12_copies_59 100000 x0 x1 x2 0 h0
set_option maxRecDepth 100000 in
set_option maxHeartbeats 4000000 in
theorem BX12_copies_22_ok {G : xG} {l : Launch} : ∀ (n : Nat) {x0 : Option Nat} {x1 : Int32} {x2 : Int32} {x3 : Int32} {h0 h1 : Hp} {r : Int32} (hF : BX12_copies_22 n x0 x1 x2 x3 h0 = some (r, h1)), xv G l mX12_copies 2 0 0 22 [(0, false, va_rf x0), (1, false, .int x1), (2, false, .int x2), (3, false, .int x3)] [] h0 (xPZ r h1) := by
  intro n
  induction n with
  | zero => intro x0 x1 x2 x3 h0 h1 r hF; cases hF
  | succ n ih =>
    intro x0 x1 x2 x3 h0 h1 r hF
    unfold BX12_copies_22 at hF
    refine xe_iload_n dX12_copies_22 rfl rfl ?_
    refine xe_iload_n dX12_copies_23 rfl rfl ?_
    refine xe_icmp_ge (tgt := 57) dX12_copies_24 (by decide) (fun c1 => ?_) (fun c1 => ?_)
    · replace hF := if_p c1 hF
      refine xe_aload_n dX12_copies_27 rfl rfl ?_
      obtain ⟨a3, e4, t5, hF⟩ := gR_inv hF
      refine xq_getR dX12_copies_28 fl_SeldomOpsModel_90 xk_11 e4 t5 rfl ?_
      refine xe_aload_n dX12_copies_31 rfl rfl ?_
      obtain ⟨a7, e8, t9, hF⟩ := gI_inv hF
      refine xq_getI dX12_copies_32 fl_SeldomOpsModel_212 xk_11 e8 t9 rfl ?_
      refine xe_iload_n dX12_copies_35 rfl rfl ?_
      refine xe_iadd dX12_copies_36 ?_
      refine xe_aload_n dX12_copies_37 rfl rfl ?_
      obtain ⟨a11, e12, t13, hF⟩ := gR_inv hF
      refine xq_getR dX12_copies_38 fl_SeldomOpsModel_90 xk_11 e12 t13 rfl ?_
      refine xe_aload_n dX12_copies_41 rfl rfl ?_
      obtain ⟨a15, e16, t17, hF⟩ := gI_inv hF
      refine xq_getI dX12_copies_42 fl_SeldomOpsModel_212 xk_11 e16 t17 rfl ?_
      refine xe_iload_n dX12_copies_45 rfl rfl ?_
      refine xe_isub dX12_copies_46 ?_
      refine xe_iload_n dX12_copies_47 rfl rfl ?_
      refine xe_iadd dX12_copies_48 ?_
      obtain ⟨a19, n20, e21, t22, b23, hF⟩ := aI_inv hF
      refine xq_iald dX12_copies_49 e21 t22 b23 ?_
      obtain ⟨a25, n26, e27, t28, b29, hF⟩ := sI_inv hF
      refine xq_iast dX12_copies_50 e27 t28 b29 ?_
      refine xe_iinc (v := _ + 1) dX12_copies_51 rfl rfl (by decide) ?_
      refine xe_goto (tgt := 22) dX12_copies_54 (by decide) ?_
      exact xv.lv (ih hF) (xsub_cons rfl (xsub_cons rfl (xsub_cons rfl (xsub_cons rfl xsub_nil))))
    · replace hF := if_n c1 hF
      refine xe_iconst (v := 0) dX12_copies_57 (by decide) ?_
      refine xe_istore_n dX12_copies_58 rfl (by decide) ?_
      exact xv.lv (BX12_copies_59_ok _ hF) (xsub_cons rfl (xsub_cons rfl (xsub_cons rfl (xsub_cons rfl xsub_nil))))
def FX12_copies (p0 : Option Nat) (p1 : Int32) (p2 : Int32) (h0 : Hp) : Option (Int32 × Hp) :=
  rcv h0 p0 11 <|
  cl (FX12_isWhole p0 p1 h0) fun v1 h2 =>
  if (v1 : Int32) = 0 then
    bz 0 (some (0, h2))
  else
    rcv h2 p0 11 <|
    cl (FX12_isWhole p0 (p1 + p2) h2) fun v9 h10 =>
    if (v9 : Int32) = 0 then
      bz 0 (some (0, h10))
    else
      BX12_copies_22 100000 p0 p1 p2 0 h10
set_option maxRecDepth 100000 in
set_option maxHeartbeats 4000000 in
theorem FX12_copies_ok {G : xG} {l : Launch} {p0 : Option Nat} {p1 : Int32} {p2 : Int32} {h0 h1 : Hp} {r : Int32} (hF : FX12_copies p0 p1 p2 h0 = some (r, h1)) : xc G l mX12_copies 2 0 0 [va_rf p0, .int p1, .int p2] h0 (xPZ r h1) := by
  refine xo_Z [.inr (.inr _), .inl _, .inl _] (by decide) (Nat.le_of_ble_eq_true rfl) rfl ?_
  show xv _ _ _ _ _ _ _ [(0, false, va_rf p0), (1, false, .int p1), (2, false, .int p2)] _ _ _
  unfold FX12_copies at hF
  refine xe_aload_n dX12_copies_0 rfl rfl ?_
  refine xe_iload_n dX12_copies_1 rfl rfl ?_
  obtain ⟨a6, e4, t5, hF⟩ := rcv_inv hF
  obtain ⟨v1, h2, o3, hF⟩ := cl_inv hF
  refine xz (xq_callV (As := [.int _]) (rest := []) dX12_copies_2 mk_X12_isWhole ⟨tw_1277, tw_1279, ts_48⟩ (ci := 11) rfl e4 t5 (FX12_isWhole_ok o3) xPZ_q (by decide) (by decide) rfl rfl ?_)
  refine xe_if_eq (tgt := 18) dX12_copies_5 (by decide) (fun c7 => ?_) (fun c7 => ?_)
  · replace hF := if_p c7 hF
    refine xe_iconst (v := 0) dX12_copies_18 (by decide) ?_
    obtain ⟨z8, hF⟩ := bz_inv hF
    exact xe_ireturn dX12_copies_19 (xPZ_ret z8 hF)
  · replace hF := if_n c7 hF
    refine xe_aload_n dX12_copies_8 rfl rfl ?_
    refine xe_iload_n dX12_copies_9 rfl rfl ?_
    refine xe_iload_n dX12_copies_10 rfl rfl ?_
    refine xe_iadd dX12_copies_11 ?_
    obtain ⟨a14, e12, t13, hF⟩ := rcv_inv hF
    obtain ⟨v9, h10, o11, hF⟩ := cl_inv hF
    refine xz (xq_callV (As := [.int _]) (rest := []) dX12_copies_12 mk_X12_isWhole ⟨tw_1277, tw_1279, ts_48⟩ (ci := 11) rfl e12 t13 (FX12_isWhole_ok o11) xPZ_q (by decide) (by decide) rfl rfl ?_)
    refine xe_if_ne (tgt := 20) dX12_copies_15 (by decide) (fun c15 => ?_) (fun c15 => ?_)
    · replace hF := if_p c15 hF
      refine xe_iconst (v := 0) dX12_copies_18 (by decide) ?_
      obtain ⟨z16, hF⟩ := bz_inv hF
      exact xe_ireturn dX12_copies_19 (xPZ_ret z16 hF)
    · replace hF := if_n c15 hF
      refine xe_iconst (v := 0) dX12_copies_20 (by decide) ?_
      refine xe_istore_n dX12_copies_21 rfl (by decide) ?_
      exact xv.lv (BX12_copies_22_ok _ hF) (xsub_cons rfl (xsub_cons rfl (xsub_cons rfl (xsub_cons rfl xsub_nil))))
