/-! SeldomOpsModel.sendOn(IIIIZ)I -/
def BX12_sendOn_253 (x0 : Option Nat) (x1 : Int32) (x2 : Int32) (x5 : Int32) (x6 : Int32) (h0 : Hp) : Option (Int32 × Hp) :=
  if (x6 : Int32) = 0 then
    if (x5 : Int32) = 0 then
      some (x6, h0)
    else
      rcv h0 x0 11 <|
      cl (FX12_goOn x0 x1 (x2 + 1) h0) fun v3 h4 =>
      some (v3, h4)
  else
    some (x6, h0)
set_option maxRecDepth 100000 in
set_option maxHeartbeats 4000000 in
theorem BX12_sendOn_253_ok {G : xG} {l : Launch} {x0 : Option Nat} {x1 : Int32} {x2 : Int32} {x5 : Int32} {x6 : Int32} {h0 h1 : Hp} {r : Int32} (hF : BX12_sendOn_253 x0 x1 x2 x5 x6 h0 = some (r, h1)) : xv G l mX12_sendOn 3 0 0 253 [(0, false, va_rf x0), (1, false, .int x1), (2, false, .int x2), (5, false, .int x5), (6, false, .int x6)] [] h0 (xP mkI r h1) := by
  unfold BX12_sendOn_253 at hF
  refine xe_iload dX12_sendOn_253 rfl ?_
  refine xe_if_ne (tgt := 274) dX12_sendOn_255 (by decide) (fun c1 => ?_) (fun c1 => ?_)
  · replace hF := if_p c1 hF
    refine xe_iload dX12_sendOn_258 rfl ?_
    refine xe_if_eq (tgt := 274) dX12_sendOn_260 (by decide) (fun c2 => ?_) (fun c2 => ?_)
    · replace hF := if_p c2 hF
      refine xe_iload dX12_sendOn_274 rfl ?_
      exact xe_ireturn dX12_sendOn_276 (xP_ret (mk := mkI) hF)
    · replace hF := if_n c2 hF
      refine xe_aload_n dX12_sendOn_263 rfl rfl ?_
      refine xe_iload_n dX12_sendOn_264 rfl rfl ?_
      refine xe_iload_n dX12_sendOn_265 rfl rfl ?_
      refine xe_iconst (v := 1) dX12_sendOn_266 (by decide) ?_
      refine xe_iadd dX12_sendOn_267 ?_
      obtain ⟨a8, e6, t7, hF⟩ := rcv_inv hF
      obtain ⟨v3, h4, o5, hF⟩ := cl_inv hF
      refine xz (xq_callV (As := [.int _, .int _]) (rest := []) dX12_sendOn_268 mk_X12_goOn ⟨tw_1309, tw_1311, ts_56⟩ (ci := 11) rfl e6 t7 (FX12_goOn_ok o5) xP_q (by decide) (by decide) rfl rfl ?_)
      refine xe_goto (tgt := 276) dX12_sendOn_271 (by decide) ?_
      exact xe_ireturn dX12_sendOn_276 (xP_ret (mk := mkI) hF)
  · replace hF := if_n c1 hF
    refine xe_iload dX12_sendOn_274 rfl ?_
    exact xe_ireturn dX12_sendOn_276 (xP_ret (mk := mkI) hF)
def BX12_sendOn_251 (x0 : Option Nat) (x1 : Int32) (x2 : Int32) (x5 : Int32) (s0 : Int32) (h0 : Hp) : Option (Int32 × Hp) :=
  BX12_sendOn_253 x0 x1 x2 x5 s0 h0
set_option maxRecDepth 100000 in
set_option maxHeartbeats 4000000 in
theorem BX12_sendOn_251_ok {G : xG} {l : Launch} {x0 : Option Nat} {x1 : Int32} {x2 : Int32} {x5 : Int32} {s0 : Int32} {h0 h1 : Hp} {r : Int32} (hF : BX12_sendOn_251 x0 x1 x2 x5 s0 h0 = some (r, h1)) : xv G l mX12_sendOn 3 0 0 251 [(0, false, va_rf x0), (1, false, .int x1), (2, false, .int x2), (5, false, .int x5)] [.int s0] h0 (xP mkI r h1) := by
  unfold BX12_sendOn_251 at hF
  refine xe_istore dX12_sendOn_251 (by decide) ?_
  exact xv.lv (BX12_sendOn_253_ok hF) (xsub_cons rfl (xsub_cons rfl (xsub_cons rfl (xsub_cons rfl (xsub_cons rfl xsub_nil)))))
def BX12_sendOn_229 (x0 : Option Nat) (x1 : Int32) (x2 : Int32) (x4 : Int32) (x5 : Int32) (x6 : Int32) (h0 : Hp) : Option (Int32 × Hp) :=
  if (x6 : Int32) = 0 then
    gR h0 x0 11 20 fun v2 =>
    aI h0 v2 .int x4 fun v6 =>
    rcv h0 x0 11 <|
    cl (FX12_goOn x0 x1 v6 h0) fun v12 h13 =>
    BX12_sendOn_251 x0 x1 x2 x5 v12 h13
  else
    BX12_sendOn_251 x0 x1 x2 x5 x6 h0
set_option maxRecDepth 100000 in
set_option maxHeartbeats 4000000 in
theorem BX12_sendOn_229_ok {G : xG} {l : Launch} {x0 : Option Nat} {x1 : Int32} {x2 : Int32} {x4 : Int32} {x5 : Int32} {x6 : Int32} {h0 h1 : Hp} {r : Int32} (hF : BX12_sendOn_229 x0 x1 x2 x4 x5 x6 h0 = some (r, h1)) : xv G l mX12_sendOn 3 0 0 229 [(0, false, va_rf x0), (1, false, .int x1), (2, false, .int x2), (4, false, .int x4), (5, false, .int x5), (6, false, .int x6)] [] h0 (xP mkI r h1) := by
  unfold BX12_sendOn_229 at hF
  refine xe_iload dX12_sendOn_229 rfl ?_
  refine xe_if_ne (tgt := 249) dX12_sendOn_231 (by decide) (fun c1 => ?_) (fun c1 => ?_)
  · replace hF := if_p c1 hF
    refine xe_aload_n dX12_sendOn_234 rfl rfl ?_
    refine xe_iload_n dX12_sendOn_235 rfl rfl ?_
    refine xe_aload_n dX12_sendOn_236 rfl rfl ?_
    obtain ⟨a3, e4, t5, hF⟩ := gR_inv hF
    refine xq_getR dX12_sendOn_237 fl_SeldomOpsModel_63 xk_11 e4 t5 rfl ?_
    refine xe_iload dX12_sendOn_240 rfl ?_
    obtain ⟨a7, n8, e9, t10, b11, hF⟩ := aI_inv hF
    refine xq_iald dX12_sendOn_242 e9 t10 b11 ?_
    obtain ⟨a17, e15, t16, hF⟩ := rcv_inv hF
    obtain ⟨v12, h13, o14, hF⟩ := cl_inv hF
    refine xz (xq_callV (As := [.int _, .int _]) (rest := []) dX12_sendOn_243 mk_X12_goOn ⟨tw_1309, tw_1311, ts_56⟩ (ci := 11) rfl e15 t16 (FX12_goOn_ok o14) xP_q (by decide) (by decide) rfl rfl ?_)
    refine xe_goto (tgt := 251) dX12_sendOn_246 (by decide) ?_
    exact xv.lv (BX12_sendOn_251_ok hF) (xsub_cons rfl (xsub_cons rfl (xsub_cons rfl (xsub_cons rfl xsub_nil))))
  · replace hF := if_n c1 hF
    refine xe_iload dX12_sendOn_249 rfl ?_
    exact xv.lv (BX12_sendOn_251_ok hF) (xsub_cons rfl (xsub_cons rfl (xsub_cons rfl (xsub_cons rfl xsub_nil))))
def BX12_sendOn_186 : Nat → Option Nat → Int32 → Int32 → Int32 → Int32 → Int32 → Int32 → Hp → Option (Int32 × Hp)
  | 0, _, _, _, _, _, _, _, _ => none
  | n + 1, x0, x1, x2, x4, x5, x6, x7, h0 =>
    gR h0 x0 11 21 fun v1 =>
    aI h0 v1 .int x4 fun v5 =>
    if (x7 : Int32) < v5 then
      if (x6 : Int32) = 0 then
        gR h0 x0 11 23 fun v13 =>
        aI h0 v13 .int ((8 * x4) + x7) fun v17 =>
        rcv h0 x0 11 <|
        cl (FX12_goOn x0 x1 v17 h0) fun v23 h24 =>
        BX12_sendOn_186 n x0 x1 x2 x4 x5 v23 (x7 + 1) h24
      else
        BX12_sendOn_229 x0 x1 x2 x4 x5 x6 h0
    else
      BX12_sendOn_229 x0 x1 x2 x4 x5 x6 h0
set_option maxRecDepth 100000 in
set_option maxHeartbeats 4000000 in
theorem BX12_sendOn_186_ok {G : xG} {l : Launch} : ∀ (n : Nat) {x0 : Option Nat} {x1 : Int32} {x2 : Int32} {x4 : Int32} {x5 : Int32} {x6 : Int32} {x7 : Int32} {h0 h1 : Hp} {r : Int32} (hF : BX12_sendOn_186 n x0 x1 x2 x4 x5 x6 x7 h0 = some (r, h1)), xv G l mX12_sendOn 3 0 0 186 [(0, false, va_rf x0), (1, false, .int x1), (2, false, .int x2), (4, false, .int x4), (5, false, .int x5), (6, false, .int x6), (7, false, .int x7)] [] h0 (xP mkI r h1) := by
  intro n
  induction n with
  | zero => intro x0 x1 x2 x4 x5 x6 x7 h0 h1 r hF; cases hF
  | succ n ih =>
    intro x0 x1 x2 x4 x5 x6 x7 h0 h1 r hF
    unfold BX12_sendOn_186 at hF
    refine xe_iload dX12_sendOn_186 rfl ?_
    refine xe_aload_n dX12_sendOn_188 rfl rfl ?_
    obtain ⟨a2, e3, t4, hF⟩ := gR_inv hF
    refine xq_getR dX12_sendOn_189 fl_SeldomOpsModel_66 xk_11 e3 t4 rfl ?_
    refine xe_iload dX12_sendOn_192 rfl ?_
    obtain ⟨a6, n7, e8, t9, b10, hF⟩ := aI_inv hF
    refine xq_iald dX12_sendOn_194 e8 t9 b10 ?_
    refine xe_icmp_ge (tgt := 229) dX12_sendOn_195 (by decide) (fun c11 => ?_) (fun c11 => ?_)
    · replace hF := if_p c11 hF
      refine xe_iload dX12_sendOn_198 rfl ?_
      refine xe_if_ne (tgt := 229) dX12_sendOn_200 (by decide) (fun c12 => ?_) (fun c12 => ?_)
      · replace hF := if_p c12 hF
        refine xe_aload_n dX12_sendOn_203 rfl rfl ?_
        refine xe_iload_n dX12_sendOn_204 rfl rfl ?_
        refine xe_aload_n dX12_sendOn_205 rfl rfl ?_
        obtain ⟨a14, e15, t16, hF⟩ := gR_inv hF
        refine xq_getR dX12_sendOn_206 fl_SeldomOpsModel_72 xk_11 e15 t16 rfl ?_
        refine xe_bipush (v := 8) dX12_sendOn_209 (by decide) ?_
        refine xe_iload dX12_sendOn_211 rfl ?_
        refine xe_imul dX12_sendOn_213 ?_
        refine xe_iload dX12_sendOn_214 rfl ?_
        refine xe_iadd dX12_sendOn_216 ?_
        obtain ⟨a18, n19, e20, t21, b22, hF⟩ := aI_inv hF
        refine xq_iald dX12_sendOn_217 e20 t21 b22 ?_
        obtain ⟨a28, e26, t27, hF⟩ := rcv_inv hF
        obtain ⟨v23, h24, o25, hF⟩ := cl_inv hF
        refine xz (xq_callV (As := [.int _, .int _]) (rest := []) dX12_sendOn_218 mk_X12_goOn ⟨tw_1309, tw_1311, ts_56⟩ (ci := 11) rfl e26 t27 (FX12_goOn_ok o25) xP_q (by decide) (by decide) rfl rfl ?_)
        refine xe_istore dX12_sendOn_221 (by decide) ?_
        refine xe_iinc (v := _ + 1) dX12_sendOn_223 rfl rfl (by decide) ?_
        refine xe_goto (tgt := 186) dX12_sendOn_226 (by decide) ?_
        exact xv.lv (ih hF) (xsub_cons rfl (xsub_cons rfl (xsub_cons rfl (xsub_cons rfl (xsub_cons rfl (xsub_cons rfl (xsub_cons rfl xsub_nil)))))))
      · replace hF := if_n c12 hF
        exact xv.lv (BX12_sendOn_229_ok hF) (xsub_cons rfl (xsub_cons rfl (xsub_cons rfl (xsub_cons rfl (xsub_cons rfl (xsub_cons rfl xsub_nil))))))
    · replace hF := if_n c11 hF
      exact xv.lv (BX12_sendOn_229_ok hF) (xsub_cons rfl (xsub_cons rfl (xsub_cons rfl (xsub_cons rfl (xsub_cons rfl (xsub_cons rfl xsub_nil))))))
def BX12_sendOn_175 (x0 : Option Nat) (x1 : Int32) (x2 : Int32) (x3 : Int32) (x4 : Int32) (x5 : Int32) (s0 : Int32) (h0 : Hp) : Option (Int32 × Hp) :=
  if (x3 : Int32) = 23 then
    BX12_sendOn_186 100000 x0 x1 x2 x4 x5 s0 0 h0
  else
    BX12_sendOn_253 x0 x1 x2 x5 s0 h0
set_option maxRecDepth 100000 in
set_option maxHeartbeats 4000000 in
theorem BX12_sendOn_175_ok {G : xG} {l : Launch} {x0 : Option Nat} {x1 : Int32} {x2 : Int32} {x3 : Int32} {x4 : Int32} {x5 : Int32} {s0 : Int32} {h0 h1 : Hp} {r : Int32} (hF : BX12_sendOn_175 x0 x1 x2 x3 x4 x5 s0 h0 = some (r, h1)) : xv G l mX12_sendOn 3 0 0 175 [(0, false, va_rf x0), (1, false, .int x1), (2, false, .int x2), (3, false, .int x3), (4, false, .int x4), (5, false, .int x5)] [.int s0] h0 (xP mkI r h1) := by
  unfold BX12_sendOn_175 at hF
  refine xe_istore dX12_sendOn_175 (by decide) ?_
  refine xe_iload_n dX12_sendOn_177 rfl rfl ?_
  refine xe_bipush (v := 23) dX12_sendOn_178 (by decide) ?_
  refine xe_icmp_ne (tgt := 253) dX12_sendOn_180 (by decide) (fun c1 => ?_) (fun c1 => ?_)
  · replace hF := if_p c1 hF
    refine xe_iconst (v := 0) dX12_sendOn_183 (by decide) ?_
    refine xe_istore dX12_sendOn_184 (by decide) ?_
    exact xv.lv (BX12_sendOn_186_ok _ hF) (xsub_cons rfl (xsub_cons rfl (xsub_cons rfl (xsub_cons rfl (xsub_cons rfl (xsub_cons rfl (xsub_cons rfl xsub_nil)))))))
  · replace hF := if_n c1 hF
    exact xv.lv (BX12_sendOn_253_ok hF) (xsub_cons rfl (xsub_cons rfl (xsub_cons rfl (xsub_cons rfl (xsub_cons rfl xsub_nil)))))
def BX12_sendOn_144 (k46 : Option Nat → Int32 → Int32 → Int32 → Int32 → Int32 → Int32 → Hp → Option (Int32 × Hp)) (x0 : Option Nat) (x1 : Int32) (x2 : Int32) (x3 : Int32) (x4 : Int32) (x5 : Int32) (x6 : Int32) (h0 : Hp) : Option (Int32 × Hp) :=
  k46 x0 x1 x2 x3 x4 x5 (x6 + 1) h0
set_option maxRecDepth 100000 in
set_option maxHeartbeats 4000000 in
theorem BX12_sendOn_144_ok {G : xG} {l : Launch} {k46 : Option Nat → Int32 → Int32 → Int32 → Int32 → Int32 → Int32 → Hp → Option (Int32 × Hp)} (hk46 : ∀ {x0 : Option Nat} {x1 : Int32} {x2 : Int32} {x3 : Int32} {x4 : Int32} {x5 : Int32} {x6 : Int32} {h0 h1 : Hp} {r : Int32}, k46 x0 x1 x2 x3 x4 x5 x6 h0 = some (r, h1) → xv G l mX12_sendOn 3 0 0 46 [(0, false, va_rf x0), (1, false, .int x1), (2, false, .int x2), (3, false, .int x3), (4, false, .int x4), (5, false, .int x5), (6, false, .int x6)] [] h0 (xP mkI r h1)) {x0 : Option Nat} {x1 : Int32} {x2 : Int32} {x3 : Int32} {x4 : Int32} {x5 : Int32} {x6 : Int32} {h0 h1 : Hp} {r : Int32} (hF : BX12_sendOn_144 k46 x0 x1 x2 x3 x4 x5 x6 h0 = some (r, h1)) : xv G l mX12_sendOn 3 0 0 144 [(0, false, va_rf x0), (1, false, .int x1), (2, false, .int x2), (3, false, .int x3), (4, false, .int x4), (5, false, .int x5), (6, false, .int x6)] [] h0 (xP mkI r h1) := by
  unfold BX12_sendOn_144 at hF
  refine xe_iinc (v := _ + 1) dX12_sendOn_144 rfl rfl (by decide) ?_
  refine xe_goto (tgt := 46) dX12_sendOn_147 (by decide) ?_
  exact xv.lv (hk46 hF) (xsub_cons rfl (xsub_cons rfl (xsub_cons rfl (xsub_cons rfl (xsub_cons rfl (xsub_cons rfl (xsub_cons rfl xsub_nil)))))))
def BX12_sendOn_87 : Nat → (Option Nat → Int32 → Int32 → Int32 → Int32 → Int32 → Int32 → Hp → Option (Int32 × Hp)) → Option Nat → Int32 → Int32 → Int32 → Int32 → Int32 → Int32 → Int32 → Hp → Option (Int32 × Hp)
  | 0, _, _, _, _, _, _, _, _, _, _ => none
  | n + 1, k46, x0, x1, x2, x3, x4, x5, x6, x7, h0 =>
    if (x7 : Int32) < 16 then
      gR h0 x0 11 31 fun v2 =>
      gR h0 x0 11 36 fun v6 =>
      aI h0 v6 .int x7 fun v10 =>
      sI h0 v2 x7 v10 fun h16 =>
      BX12_sendOn_87 n k46 x0 x1 x2 x3 x4 x5 x6 (x7 + 1) h16
    else
      gR h0 x0 11 12 fun v23 =>
      aI h0 v23 .int x6 fun v27 =>
      rcv h0 x0 11 <|
      cl (FX12_come x0 x1 v27 h0) fun v33 h34 =>
      if (v33 : Int32) = 0 then
        BX12_sendOn_144 k46 x0 x1 x2 x3 x4 x5 x6 h34
      else
        gR h34 x0 11 12 fun v40 =>
        aI h34 v40 .int x6 fun v44 =>
        rcv h34 x0 11 <|
        cl (FX12_wrong x0 x1 v44 6 h34) fun v50 h51 =>
        some (v50, h51)
set_option maxRecDepth 100000 in
set_option maxHeartbeats 4000000 in
theorem BX12_sendOn_87_ok {G : xG} {l : Launch} : ∀ (n : Nat) {k46 : Option Nat → Int32 → Int32 → Int32 → Int32 → Int32 → Int32 → Hp → Option (Int32 × Hp)} (hk46 : ∀ {x0 : Option Nat} {x1 : Int32} {x2 : Int32} {x3 : Int32} {x4 : Int32} {x5 : Int32} {x6 : Int32} {h0 h1 : Hp} {r : Int32}, k46 x0 x1 x2 x3 x4 x5 x6 h0 = some (r, h1) → xv G l mX12_sendOn 3 0 0 46 [(0, false, va_rf x0), (1, false, .int x1), (2, false, .int x2), (3, false, .int x3), (4, false, .int x4), (5, false, .int x5), (6, false, .int x6)] [] h0 (xP mkI r h1)) {x0 : Option Nat} {x1 : Int32} {x2 : Int32} {x3 : Int32} {x4 : Int32} {x5 : Int32} {x6 : Int32} {x7 : Int32} {h0 h1 : Hp} {r : Int32} (hF : BX12_sendOn_87 n k46 x0 x1 x2 x3 x4 x5 x6 x7 h0 = some (r, h1)), xv G l mX12_sendOn 3 0 0 87 [(0, false, va_rf x0), (1, false, .int x1), (2, false, .int x2), (3, false, .int x3), (4, false, .int x4), (5, false, .int x5), (6, false, .int x6), (7, false, .int x7)] [] h0 (xP mkI r h1) := by
  intro n
  induction n with
  | zero => intro k46 hk46 x0 x1 x2 x3 x4 x5 x6 x7 h0 h1 r hF; cases hF
  | succ n ih =>
    intro k46 hk46 x0 x1 x2 x3 x4 x5 x6 x7 h0 h1 r hF
    unfold BX12_sendOn_87 at hF
    refine xe_iload dX12_sendOn_87 rfl ?_
    refine xe_bipush (v := 16) dX12_sendOn_89 (by decide) ?_
    refine xe_icmp_ge (tgt := 114) dX12_sendOn_91 (by decide) (fun c1 => ?_) (fun c1 => ?_)
    · replace hF := if_p c1 hF
      refine xe_aload_n dX12_sendOn_94 rfl rfl ?_
      obtain ⟨a3, e4, t5, hF⟩ := gR_inv hF
      refine xq_getR dX12_sendOn_95 fl_SeldomOpsModel_93 xk_11 e4 t5 rfl ?_
      refine xe_iload dX12_sendOn_98 rfl ?_
      refine xe_aload_n dX12_sendOn_100 rfl rfl ?_
      obtain ⟨a7, e8, t9, hF⟩ := gR_inv hF
      refine xq_getR dX12_sendOn_101 fl_SeldomOpsModel_106 xk_11 e8 t9 rfl ?_
      refine xe_iload dX12_sendOn_104 rfl ?_
      obtain ⟨a11, n12, e13, t14, b15, hF⟩ := aI_inv hF
      refine xq_iald dX12_sendOn_106 e13 t14 b15 ?_
      obtain ⟨a17, n18, e19, t20, b21, hF⟩ := sI_inv hF
      refine xq_iast dX12_sendOn_107 e19 t20 b21 ?_
      refine xe_iinc (v := _ + 1) dX12_sendOn_108 rfl rfl (by decide) ?_
      refine xe_goto (tgt := 87) dX12_sendOn_111 (by decide) ?_
      exact xv.lv (ih hk46 hF) (xsub_cons rfl (xsub_cons rfl (xsub_cons rfl (xsub_cons rfl (xsub_cons rfl (xsub_cons rfl (xsub_cons rfl (xsub_cons rfl xsub_nil))))))))
    · replace hF := if_n c1 hF
      refine xe_aload_n dX12_sendOn_114 rfl rfl ?_
      refine xe_iload_n dX12_sendOn_115 rfl rfl ?_
      refine xe_aload_n dX12_sendOn_116 rfl rfl ?_
      obtain ⟨a24, e25, t26, hF⟩ := gR_inv hF
      refine xq_getR dX12_sendOn_117 fl_SeldomOpsModel_43 xk_11 e25 t26 rfl ?_
      refine xe_iload dX12_sendOn_120 rfl ?_
      obtain ⟨a28, n29, e30, t31, b32, hF⟩ := aI_inv hF
      refine xq_iald dX12_sendOn_122 e30 t31 b32 ?_
      obtain ⟨a38, e36, t37, hF⟩ := rcv_inv hF
      obtain ⟨v33, h34, o35, hF⟩ := cl_inv hF
      refine xz (xq_callV (As := [.int _, .int _]) (rest := []) dX12_sendOn_123 mk_X12_come ⟨tw_1239, tw_1241, ts_41⟩ (ci := 11) rfl e36 t37 (FX12_come_ok o35) xP_q (by decide) (by decide) rfl rfl ?_)
      refine xe_if_eq (tgt := 144) dX12_sendOn_126 (by decide) (fun c39 => ?_) (fun c39 => ?_)
      · replace hF := if_p c39 hF
        exact xv.lv (BX12_sendOn_144_ok hk46 hF) (xsub_cons rfl (xsub_cons rfl (xsub_cons rfl (xsub_cons rfl (xsub_cons rfl (xsub_cons rfl (xsub_cons rfl xsub_nil)))))))
      · replace hF := if_n c39 hF
        refine xe_aload_n dX12_sendOn_129 rfl rfl ?_
        refine xe_iload_n dX12_sendOn_130 rfl rfl ?_
        refine xe_aload_n dX12_sendOn_131 rfl rfl ?_
        obtain ⟨a41, e42, t43, hF⟩ := gR_inv hF
        refine xq_getR dX12_sendOn_132 fl_SeldomOpsModel_43 xk_11 e42 t43 rfl ?_
        refine xe_iload dX12_sendOn_135 rfl ?_
        obtain ⟨a45, n46, e47, t48, b49, hF⟩ := aI_inv hF
        refine xq_iald dX12_sendOn_137 e47 t48 b49 ?_
        refine xe_bipush (v := 6) dX12_sendOn_138 (by decide) ?_
        obtain ⟨a55, e53, t54, hF⟩ := rcv_inv hF
        obtain ⟨v50, h51, o52, hF⟩ := cl_inv hF
        refine xz (xq_callV (As := [.int _, .int _, .int _]) (rest := []) dX12_sendOn_140 mk_X12_wrong ⟨tw_1231, tw_1233, ts_39⟩ (ci := 11) rfl e53 t54 (FX12_wrong_ok o52) xP_q (by decide) (by decide) rfl rfl ?_)
        exact xe_ireturn dX12_sendOn_143 (xP_ret (mk := mkI) hF)
def BX12_sendOn_46 : Nat → Option Nat → Int32 → Int32 → Int32 → Int32 → Int32 → Int32 → Hp → Option (Int32 × Hp)
  | 0, _, _, _, _, _, _, _, _ => none
  | n + 1, x0, x1, x2, x3, x4, x5, x6, h0 =>
    gR h0 x0 11 9 fun v1 =>
    aI h0 v1 .int x1 fun v5 =>
    if (x6 : Int32) < ((6 * x1) + v5) then
      rcv h0 x0 11 <|
      cl (FX12_covers x0 x6 x2 h0) fun v12 h13 =>
      if (v12 : Int32) = 0 then
        BX12_sendOn_144 (BX12_sendOn_46 n) x0 x1 x2 x3 x4 x5 x6 h13
      else
        pI h13 x0 11 29 1 fun h22 =>
        gR h22 x0 11 30 fun v24 =>
        sI h22 v24 0 4 fun h28 =>
        BX12_sendOn_87 100000 (BX12_sendOn_46 n) x0 x1 x2 x3 x4 x5 x6 0 h28
    else
      cl (FX12_in (Int32.toInt64 x3) 20 22 h0) fun v35 h36 =>
      if (v35 : Int32) = 0 then
        BX12_sendOn_175 x0 x1 x2 x3 x4 x5 0 h36
      else
        rcv h36 x0 11 <|
        cl (FX12_goOn x0 x1 x4 h36) fun v39 h40 =>
        BX12_sendOn_175 x0 x1 x2 x3 x4 x5 v39 h40
set_option maxRecDepth 100000 in
set_option maxHeartbeats 4000000 in
theorem BX12_sendOn_46_ok {G : xG} {l : Launch} : ∀ (n : Nat) {x0 : Option Nat} {x1 : Int32} {x2 : Int32} {x3 : Int32} {x4 : Int32} {x5 : Int32} {x6 : Int32} {h0 h1 : Hp} {r : Int32} (hF : BX12_sendOn_46 n x0 x1 x2 x3 x4 x5 x6 h0 = some (r, h1)), xv G l mX12_sendOn 3 0 0 46 [(0, false, va_rf x0), (1, false, .int x1), (2, false, .int x2), (3, false, .int x3), (4, false, .int x4), (5, false, .int x5), (6, false, .int x6)] [] h0 (xP mkI r h1) := by
  intro n
  induction n with
  | zero => intro x0 x1 x2 x3 x4 x5 x6 h0 h1 r hF; cases hF
  | succ n ih =>
    intro x0 x1 x2 x3 x4 x5 x6 h0 h1 r hF
    unfold BX12_sendOn_46 at hF
    refine xe_iload dX12_sendOn_46 rfl ?_
    refine xe_bipush (v := 6) dX12_sendOn_48 (by decide) ?_
    refine xe_iload_n dX12_sendOn_50 rfl rfl ?_
    refine xe_imul dX12_sendOn_51 ?_
    refine xe_aload_n dX12_sendOn_52 rfl rfl ?_
    obtain ⟨a2, e3, t4, hF⟩ := gR_inv hF
    refine xq_getR dX12_sendOn_53 fl_SeldomOpsModel_34 xk_11 e3 t4 rfl ?_
    refine xe_iload_n dX12_sendOn_56 rfl rfl ?_
    obtain ⟨a6, n7, e8, t9, b10, hF⟩ := aI_inv hF
    refine xq_iald dX12_sendOn_57 e8 t9 b10 ?_
    refine xe_iadd dX12_sendOn_58 ?_
    refine xe_icmp_ge (tgt := 150) dX12_sendOn_59 (by decide) (fun c11 => ?_) (fun c11 => ?_)
    · replace hF := if_p c11 hF
      refine xe_aload_n dX12_sendOn_62 rfl rfl ?_
      refine xe_iload dX12_sendOn_63 rfl ?_
      refine xe_iload_n dX12_sendOn_65 rfl rfl ?_
      obtain ⟨a17, e15, t16, hF⟩ := rcv_inv hF
      obtain ⟨v12, h13, o14, hF⟩ := cl_inv hF
      refine xz (xq_callV (As := [.int _, .int _]) (rest := []) dX12_sendOn_66 mk_X12_covers ⟨tw_1268, tw_1270, ts_46⟩ (ci := 11) rfl e15 t16 (FX12_covers_ok o14) xPZ_q (by decide) (by decide) rfl rfl ?_)
      refine xe_if_eq (tgt := 144) dX12_sendOn_69 (by decide) (fun c18 => ?_) (fun c18 => ?_)
      · replace hF := if_p c18 hF
        exact xv.lv (BX12_sendOn_144_ok ih hF) (xsub_cons rfl (xsub_cons rfl (xsub_cons rfl (xsub_cons rfl (xsub_cons rfl (xsub_cons rfl (xsub_cons rfl xsub_nil)))))))
      · replace hF := if_n c18 hF
        refine xe_aload_n dX12_sendOn_72 rfl rfl ?_
        refine xe_iconst (v := 1) dX12_sendOn_73 (by decide) ?_
        obtain ⟨a19, e20, t21, hF⟩ := pI_inv hF
        refine xq_putI dX12_sendOn_74 fl_SeldomOpsModel_212 xk_11 (by decide) (fun z => by cases z) e20 t21 (Or.inl rfl) ?_
        refine xe_aload_n dX12_sendOn_77 rfl rfl ?_
        obtain ⟨a25, e26, t27, hF⟩ := gR_inv hF
        refine xq_getR dX12_sendOn_78 fl_SeldomOpsModel_90 xk_11 e26 t27 rfl ?_
        refine xe_iconst (v := 0) dX12_sendOn_81 (by decide) ?_
        refine xe_iconst (v := 4) dX12_sendOn_82 (by decide) ?_
        obtain ⟨a29, n30, e31, t32, b33, hF⟩ := sI_inv hF
        refine xq_iast dX12_sendOn_83 e31 t32 b33 ?_
        refine xe_iconst (v := 0) dX12_sendOn_84 (by decide) ?_
        refine xe_istore dX12_sendOn_85 (by decide) ?_
        exact xv.lv (BX12_sendOn_87_ok _ ih hF) (xsub_cons rfl (xsub_cons rfl (xsub_cons rfl (xsub_cons rfl (xsub_cons rfl (xsub_cons rfl (xsub_cons rfl (xsub_cons rfl xsub_nil))))))))
    · replace hF := if_n c11 hF
      refine xe_iload_n dX12_sendOn_150 rfl rfl ?_
      refine xe_i2l dX12_sendOn_151 ?_
      refine xe_ldc2 (v := 20) dX12_sendOn_152 tw_1266 ?_
      refine xe_ldc2 (v := 22) dX12_sendOn_155 tw_1267 ?_
      obtain ⟨v35, h36, o37, hF⟩ := cl_inv hF
      refine xz (xq_callS (As := [.long _, .long _, .long _]) (rest := []) dX12_sendOn_158 mk_X12_in ⟨tw_1174, tw_1175⟩ (FX12_in_ok o37) xPZ_q (by decide) (by decide) rfl rfl ?_)
      refine xe_if_eq (tgt := 174) dX12_sendOn_161 (by decide) (fun c38 => ?_) (fun c38 => ?_)
      · replace hF := if_p c38 hF
        refine xe_iconst (v := 0) dX12_sendOn_174 (by decide) ?_
        exact xv.lv (BX12_sendOn_175_ok hF) (xsub_cons rfl (xsub_cons rfl (xsub_cons rfl (xsub_cons rfl (xsub_cons rfl (xsub_cons rfl xsub_nil))))))
      · replace hF := if_n c38 hF
        refine xe_aload_n dX12_sendOn_164 rfl rfl ?_
        refine xe_iload_n dX12_sendOn_165 rfl rfl ?_
        refine xe_iload dX12_sendOn_166 rfl ?_
        obtain ⟨a44, e42, t43, hF⟩ := rcv_inv hF
        obtain ⟨v39, h40, o41, hF⟩ := cl_inv hF
        refine xz (xq_callV (As := [.int _, .int _]) (rest := []) dX12_sendOn_168 mk_X12_goOn ⟨tw_1309, tw_1311, ts_56⟩ (ci := 11) rfl e42 t43 (FX12_goOn_ok o41) xP_q (by decide) (by decide) rfl rfl ?_)
        refine xe_goto (tgt := 175) dX12_sendOn_171 (by decide) ?_
        exact xv.lv (BX12_sendOn_175_ok hF) (xsub_cons rfl (xsub_cons rfl (xsub_cons rfl (xsub_cons rfl (xsub_cons rfl (xsub_cons rfl xsub_nil))))))
def BX12_sendOn_3 : Nat → Option Nat → Int32 → Int32 → Int32 → Int32 → Int32 → Int32 → Hp → Option (Int32 × Hp)
  | 0, _, _, _, _, _, _, _, _ => none
  | n + 1, x0, x1, x2, x3, x4, x5, x6, h0 =>
    if (x6 : Int32) < 16 then
      gR h0 x0 11 36 fun v2 =>
      gR h0 x0 11 28 fun v6 =>
      aI h0 v6 .int ((16 * ((60 * x1) + x2)) + x6) fun v10 =>
      sI h0 v2 x6 v10 fun h16 =>
      BX12_sendOn_3 n x0 x1 x2 x3 x4 x5 (x6 + 1) h16
    else
      BX12_sendOn_46 100000 x0 x1 x2 x3 x4 x5 (6 * x1) h0
set_option maxRecDepth 100000 in
set_option maxHeartbeats 4000000 in
theorem BX12_sendOn_3_ok {G : xG} {l : Launch} : ∀ (n : Nat) {x0 : Option Nat} {x1 : Int32} {x2 : Int32} {x3 : Int32} {x4 : Int32} {x5 : Int32} {x6 : Int32} {h0 h1 : Hp} {r : Int32} (hF : BX12_sendOn_3 n x0 x1 x2 x3 x4 x5 x6 h0 = some (r, h1)), xv G l mX12_sendOn 3 0 0 3 [(0, false, va_rf x0), (1, false, .int x1), (2, false, .int x2), (3, false, .int x3), (4, false, .int x4), (5, false, .int x5), (6, false, .int x6)] [] h0 (xP mkI r h1) := by
  intro n
  induction n with
  | zero => intro x0 x1 x2 x3 x4 x5 x6 h0 h1 r hF; cases hF
  | succ n ih =>
    intro x0 x1 x2 x3 x4 x5 x6 h0 h1 r hF
    unfold BX12_sendOn_3 at hF
    refine xe_iload dX12_sendOn_3 rfl ?_
    refine xe_bipush (v := 16) dX12_sendOn_5 (by decide) ?_
    refine xe_icmp_ge (tgt := 40) dX12_sendOn_7 (by decide) (fun c1 => ?_) (fun c1 => ?_)
    · replace hF := if_p c1 hF
      refine xe_aload_n dX12_sendOn_10 rfl rfl ?_
      obtain ⟨a3, e4, t5, hF⟩ := gR_inv hF
      refine xq_getR dX12_sendOn_11 fl_SeldomOpsModel_106 xk_11 e4 t5 rfl ?_
      refine xe_iload dX12_sendOn_14 rfl ?_
      refine xe_aload_n dX12_sendOn_16 rfl rfl ?_
      obtain ⟨a7, e8, t9, hF⟩ := gR_inv hF
      refine xq_getR dX12_sendOn_17 fl_SeldomOpsModel_87 xk_11 e8 t9 rfl ?_
      refine xe_bipush (v := 16) dX12_sendOn_20 (by decide) ?_
      refine xe_bipush (v := 60) dX12_sendOn_22 (by decide) ?_
      refine xe_iload_n dX12_sendOn_24 rfl rfl ?_
      refine xe_imul dX12_sendOn_25 ?_
      refine xe_iload_n dX12_sendOn_26 rfl rfl ?_
      refine xe_iadd dX12_sendOn_27 ?_
      refine xe_imul dX12_sendOn_28 ?_
      refine xe_iload dX12_sendOn_29 rfl ?_
      refine xe_iadd dX12_sendOn_31 ?_
      obtain ⟨a11, n12, e13, t14, b15, hF⟩ := aI_inv hF
      refine xq_iald dX12_sendOn_32 e13 t14 b15 ?_
      obtain ⟨a17, n18, e19, t20, b21, hF⟩ := sI_inv hF
      refine xq_iast dX12_sendOn_33 e19 t20 b21 ?_
      refine xe_iinc (v := _ + 1) dX12_sendOn_34 rfl rfl (by decide) ?_
      refine xe_goto (tgt := 3) dX12_sendOn_37 (by decide) ?_
      exact xv.lv (ih hF) (xsub_cons rfl (xsub_cons rfl (xsub_cons rfl (xsub_cons rfl (xsub_cons rfl (xsub_cons rfl (xsub_cons rfl xsub_nil)))))))
    · replace hF := if_n c1 hF
      refine xe_bipush (v := 6) dX12_sendOn_40 (by decide) ?_
      refine xe_iload_n dX12_sendOn_42 rfl rfl ?_
      refine xe_imul dX12_sendOn_43 ?_
      refine xe_istore dX12_sendOn_44 (by decide) ?_
      exact xv.lv (BX12_sendOn_46_ok _ hF) (xsub_cons rfl (xsub_cons rfl (xsub_cons rfl (xsub_cons rfl (xsub_cons rfl (xsub_cons rfl (xsub_cons rfl xsub_nil)))))))
def FX12_sendOn (p0 : Option Nat) (p1 : Int32) (p2 : Int32) (p3 : Int32) (p4 : Int32) (p5 : Int32) (h0 : Hp) : Option (Int32 × Hp) :=
  BX12_sendOn_3 100000 p0 p1 p2 p3 p4 p5 0 h0
set_option maxRecDepth 100000 in
set_option maxHeartbeats 4000000 in
theorem FX12_sendOn_ok {G : xG} {l : Launch} {p0 : Option Nat} {p1 : Int32} {p2 : Int32} {p3 : Int32} {p4 : Int32} {p5 : Int32} {h0 h1 : Hp} {r : Int32} (hF : FX12_sendOn p0 p1 p2 p3 p4 p5 h0 = some (r, h1)) : xc G l mX12_sendOn 3 0 0 [va_rf p0, .int p1, .int p2, .int p3, .int p4, .int p5] h0 (xP mkI r h1) := by
  refine xo_I [.inr (.inr _), .inl _, .inl _, .inl _, .inl _, .inl _] (by decide) (Nat.le_of_ble_eq_true rfl) rfl ?_
  show xv _ _ _ _ _ _ _ [(0, false, va_rf p0), (1, false, .int p1), (2, false, .int p2), (3, false, .int p3), (4, false, .int p4), (5, false, .int p5)] _ _ _
  unfold FX12_sendOn at hF
  refine xe_iconst (v := 0) dX12_sendOn_0 (by decide) ?_
  refine xe_istore dX12_sendOn_1 (by decide) ?_
  exact xv.lv (BX12_sendOn_3_ok _ hF) (xsub_cons rfl (xsub_cons rfl (xsub_cons rfl (xsub_cons rfl (xsub_cons rfl (xsub_cons rfl (xsub_cons rfl xsub_nil)))))))
/-! SeldomOpsModel.pop(I)Z -/
def BX12_pop_102 (x0 : Option Nat) (x1 : Int32) (s0 : Int32) (h0 : Hp) : Option (Int32 × Hp) :=
  gI h0 x0 11 29 fun v1 =>
  cl (FX12_wordsOf x1 h0) fun v5 h6 =>
  pI h6 x0 11 29 (v1 - v5) fun h11 =>
  bz s0 (some (s0, h11))
set_option maxRecDepth 100000 in
set_option maxHeartbeats 4000000 in
theorem BX12_pop_102_ok {G : xG} {l : Launch} {x0 : Option Nat} {x1 : Int32} {s0 : Int32} {h0 h1 : Hp} {r : Int32} (hF : BX12_pop_102 x0 x1 s0 h0 = some (r, h1)) : xv G l mX12_pop 2 0 0 102 [(0, false, va_rf x0), (1, false, .int x1)] [.int s0] h0 (xPZ r h1) := by
  unfold BX12_pop_102 at hF
  refine xe_istore dX12_pop_102 (by decide) ?_
  refine xe_aload_n dX12_pop_104 rfl rfl ?_
  refine xe_dup dX12_pop_105 (va_rf_cat _) ?_
  obtain ⟨a2, e3, t4, hF⟩ := gI_inv hF
  refine xq_getI dX12_pop_106 fl_SeldomOpsModel_212 xk_11 e3 t4 rfl ?_
  refine xe_iload_n dX12_pop_109 rfl rfl ?_
  obtain ⟨v5, h6, o7, hF⟩ := cl_inv hF
  refine xz (xq_callS (As := [.int _]) (rest := [.int _, va_rf _]) dX12_pop_110 mk_X12_wordsOf ⟨tw_1190, tw_1191⟩ (FX12_wordsOf_ok o7) xP_q (by decide) (Nat.le_trans (cs_i (cs_r cs_0)) (by decide)) rfl rfl ?_)
  refine xe_isub dX12_pop_113 ?_
  obtain ⟨a8, e9, t10, hF⟩ := pI_inv hF
  refine xq_putI dX12_pop_114 fl_SeldomOpsModel_212 xk_11 (by decide) (fun z => by cases z) e9 t10 (Or.inl rfl) ?_
  refine xe_iload dX12_pop_117 rfl ?_
  obtain ⟨z13, hF⟩ := bz_inv hF
  exact xe_ireturn dX12_pop_119 (xPZ_ret z13 hF)
def BX12_pop_78 (x0 : Option Nat) (x1 : Int32) (h0 : Hp) : Option (Int32 × Hp) :=
  BX12_pop_102 x0 x1 0 h0
set_option maxRecDepth 100000 in
set_option maxHeartbeats 4000000 in
theorem BX12_pop_78_ok {G : xG} {l : Launch} {x0 : Option Nat} {x1 : Int32} {h0 h1 : Hp} {r : Int32} (hF : BX12_pop_78 x0 x1 h0 = some (r, h1)) : xv G l mX12_pop 2 0 0 78 [(0, false, va_rf x0), (1, false, .int x1)] [] h0 (xPZ r h1) := by
  unfold BX12_pop_78 at hF
  refine xe_iconst (v := 0) dX12_pop_78 (by decide) ?_
  refine xe_goto (tgt := 102) dX12_pop_79 (by decide) ?_
  exact xv.lv (BX12_pop_102_ok hF) (xsub_cons rfl (xsub_cons rfl xsub_nil))
def BX12_pop_26 (x0 : Option Nat) (x1 : Int32) (x2 : Int32) (s0 : Int32) (h0 : Hp) : Option (Int32 × Hp) :=
  gI h0 x0 11 29 fun v1 =>
  cl (FX12_wordsOf x1 h0) fun v5 h6 =>
  if (v1 : Int32) < v5 then
    bz 0 (some (0, h6))
  else
    if (x2 : Int32) = 0 then
      gR h6 x0 11 30 fun v11 =>
      gI h6 x0 11 29 fun v15 =>
      aI h6 v11 .int (v15 - 1) fun v19 =>
      if (v19 : Int32) = x1 then
        BX12_pop_102 x0 x1 1 h6
      else
        BX12_pop_102 x0 x1 0 h6
    else
      gR h6 x0 11 30 fun v26 =>
      gI h6 x0 11 29 fun v30 =>
      aI h6 v26 .int (v30 - 1) fun v34 =>
      if (v34 : Int32) = s0 then
        gR h6 x0 11 30 fun v41 =>
        gI h6 x0 11 29 fun v45 =>
        aI h6 v41 .int (v45 - 2) fun v49 =>
        if (v49 : Int32) = x1 then
          BX12_pop_102 x0 x1 1 h6
        else
          BX12_pop_78 x0 x1 h6
      else
        BX12_pop_78 x0 x1 h6
set_option maxRecDepth 100000 in
set_option maxHeartbeats 4000000 in
theorem BX12_pop_26_ok {G : xG} {l : Launch} {x0 : Option Nat} {x1 : Int32} {x2 : Int32} {s0 : Int32} {h0 h1 : Hp} {r : Int32} (hF : BX12_pop_26 x0 x1 x2 s0 h0 = some (r, h1)) : xv G l mX12_pop 2 0 0 26 [(0, false, va_rf x0), (1, false, .int x1), (2, false, .int x2)] [.int s0] h0 (xPZ r h1) := by
  unfold BX12_pop_26 at hF
  refine xe_istore_n dX12_pop_26 rfl (by decide) ?_
  refine xe_aload_n dX12_pop_27 rfl rfl ?_
  obtain ⟨a2, e3, t4, hF⟩ := gI_inv hF
  refine xq_getI dX12_pop_28 fl_SeldomOpsModel_212 xk_11 e3 t4 rfl ?_
  refine xe_iload_n dX12_pop_31 rfl rfl ?_
  obtain ⟨v5, h6, o7, hF⟩ := cl_inv hF
  refine xz (xq_callS (As := [.int _]) (rest := [.int _]) dX12_pop_32 mk_X12_wordsOf ⟨tw_1190, tw_1191⟩ (FX12_wordsOf_ok o7) xP_q (by decide) (Nat.le_trans (cs_i cs_0) (by decide)) rfl rfl ?_)
  refine xe_icmp_ge (tgt := 40) dX12_pop_35 (by decide) (fun c8 => ?_) (fun c8 => ?_)
  · replace hF := if_p c8 hF
    refine xe_iconst (v := 0) dX12_pop_38 (by decide) ?_
    obtain ⟨z9, hF⟩ := bz_inv hF
    exact xe_ireturn dX12_pop_39 (xPZ_ret z9 hF)
  · replace hF := if_n c8 hF
    refine xe_iload_n dX12_pop_40 rfl rfl ?_
    refine xe_if_eq (tgt := 82) dX12_pop_41 (by decide) (fun c10 => ?_) (fun c10 => ?_)
    · replace hF := if_p c10 hF
      refine xe_aload_n dX12_pop_82 rfl rfl ?_
      obtain ⟨a12, e13, t14, hF⟩ := gR_inv hF
      refine xq_getR dX12_pop_83 fl_SeldomOpsModel_90 xk_11 e13 t14 rfl ?_
      refine xe_aload_n dX12_pop_86 rfl rfl ?_
      obtain ⟨a16, e17, t18, hF⟩ := gI_inv hF
      refine xq_getI dX12_pop_87 fl_SeldomOpsModel_212 xk_11 e17 t18 rfl ?_
      refine xe_iconst (v := 1) dX12_pop_90 (by decide) ?_
      refine xe_isub dX12_pop_91 ?_
      obtain ⟨a20, n21, e22, t23, b24, hF⟩ := aI_inv hF
      refine xq_iald dX12_pop_92 e22 t23 b24 ?_
      refine xe_iload_n dX12_pop_93 rfl rfl ?_
      refine xe_icmp_ne (tgt := 101) dX12_pop_94 (by decide) (fun c25 => ?_) (fun c25 => ?_)
      · replace hF := if_p c25 hF
        refine xe_iconst (v := 1) dX12_pop_97 (by decide) ?_
        refine xe_goto (tgt := 102) dX12_pop_98 (by decide) ?_
        exact xv.lv (BX12_pop_102_ok hF) (xsub_cons rfl (xsub_cons rfl xsub_nil))
      · replace hF := if_n c25 hF
        refine xe_iconst (v := 0) dX12_pop_101 (by decide) ?_
        exact xv.lv (BX12_pop_102_ok hF) (xsub_cons rfl (xsub_cons rfl xsub_nil))
    · replace hF := if_n c10 hF
      refine xe_aload_n dX12_pop_44 rfl rfl ?_
      obtain ⟨a27, e28, t29, hF⟩ := gR_inv hF
      refine xq_getR dX12_pop_45 fl_SeldomOpsModel_90 xk_11 e28 t29 rfl ?_
      refine xe_aload_n dX12_pop_48 rfl rfl ?_
      obtain ⟨a31, e32, t33, hF⟩ := gI_inv hF
      refine xq_getI dX12_pop_49 fl_SeldomOpsModel_212 xk_11 e32 t33 rfl ?_
      refine xe_iconst (v := 1) dX12_pop_52 (by decide) ?_
      refine xe_isub dX12_pop_53 ?_
      obtain ⟨a35, n36, e37, t38, b39, hF⟩ := aI_inv hF
      refine xq_iald dX12_pop_54 e37 t38 b39 ?_
      refine xe_iload_n dX12_pop_55 rfl rfl ?_
      refine xe_icmp_ne (tgt := 78) dX12_pop_56 (by decide) (fun c40 => ?_) (fun c40 => ?_)
      · replace hF := if_p c40 hF
        refine xe_aload_n dX12_pop_59 rfl rfl ?_
        obtain ⟨a42, e43, t44, hF⟩ := gR_inv hF
        refine xq_getR dX12_pop_60 fl_SeldomOpsModel_90 xk_11 e43 t44 rfl ?_
        refine xe_aload_n dX12_pop_63 rfl rfl ?_
        obtain ⟨a46, e47, t48, hF⟩ := gI_inv hF
        refine xq_getI dX12_pop_64 fl_SeldomOpsModel_212 xk_11 e47 t48 rfl ?_
        refine xe_iconst (v := 2) dX12_pop_67 (by decide) ?_
        refine xe_isub dX12_pop_68 ?_
        obtain ⟨a50, n51, e52, t53, b54, hF⟩ := aI_inv hF
        refine xq_iald dX12_pop_69 e52 t53 b54 ?_
        refine xe_iload_n dX12_pop_70 rfl rfl ?_
        refine xe_icmp_ne (tgt := 78) dX12_pop_71 (by decide) (fun c55 => ?_) (fun c55 => ?_)
        · replace hF := if_p c55 hF
          refine xe_iconst (v := 1) dX12_pop_74 (by decide) ?_
          refine xe_goto (tgt := 102) dX12_pop_75 (by decide) ?_
          exact xv.lv (BX12_pop_102_ok hF) (xsub_cons rfl (xsub_cons rfl xsub_nil))
        · replace hF := if_n c55 hF
          exact xv.lv (BX12_pop_78_ok hF) (xsub_cons rfl (xsub_cons rfl xsub_nil))
      · replace hF := if_n c40 hF
        exact xv.lv (BX12_pop_78_ok hF) (xsub_cons rfl (xsub_cons rfl xsub_nil))
def BX12_pop_13 (x0 : Option Nat) (x1 : Int32) (s0 : Int32) (h0 : Hp) : Option (Int32 × Hp) :=
  if (x1 : Int32) = 1 then
    BX12_pop_26 x0 x1 s0 6 h0
  else
    BX12_pop_26 x0 x1 s0 7 h0
set_option maxRecDepth 100000 in
set_option maxHeartbeats 4000000 in
theorem BX12_pop_13_ok {G : xG} {l : Launch} {x0 : Option Nat} {x1 : Int32} {s0 : Int32} {h0 h1 : Hp} {r : Int32} (hF : BX12_pop_13 x0 x1 s0 h0 = some (r, h1)) : xv G l mX12_pop 2 0 0 13 [(0, false, va_rf x0), (1, false, .int x1)] [.int s0] h0 (xPZ r h1) := by
  unfold BX12_pop_13 at hF
  refine xe_istore_n dX12_pop_13 rfl (by decide) ?_
  refine xe_iload_n dX12_pop_14 rfl rfl ?_
  refine xe_iconst (v := 1) dX12_pop_15 (by decide) ?_
  refine xe_icmp_ne (tgt := 24) dX12_pop_16 (by decide) (fun c1 => ?_) (fun c1 => ?_)
  · replace hF := if_p c1 hF
    refine xe_bipush (v := 6) dX12_pop_19 (by decide) ?_
    refine xe_goto (tgt := 26) dX12_pop_21 (by decide) ?_
    exact xv.lv (BX12_pop_26_ok hF) (xsub_cons rfl (xsub_cons rfl (xsub_cons rfl xsub_nil)))
  · replace hF := if_n c1 hF
    refine xe_bipush (v := 7) dX12_pop_24 (by decide) ?_
    exact xv.lv (BX12_pop_26_ok hF) (xsub_cons rfl (xsub_cons rfl (xsub_cons rfl xsub_nil)))
def FX12_pop (p0 : Option Nat) (p1 : Int32) (h0 : Hp) : Option (Int32 × Hp) :=
  cl (FX12_wordsOf p1 h0) fun v1 h2 =>
  if (v1 : Int32) = 2 then
    BX12_pop_13 p0 p1 1 h2
  else
    BX12_pop_13 p0 p1 0 h2
set_option maxRecDepth 100000 in
set_option maxHeartbeats 4000000 in
theorem FX12_pop_ok {G : xG} {l : Launch} {p0 : Option Nat} {p1 : Int32} {h0 h1 : Hp} {r : Int32} (hF : FX12_pop p0 p1 h0 = some (r, h1)) : xc G l mX12_pop 2 0 0 [va_rf p0, .int p1] h0 (xPZ r h1) := by
  refine xo_Z [.inr (.inr _), .inl _] (by decide) (Nat.le_of_ble_eq_true rfl) rfl ?_
  show xv _ _ _ _ _ _ _ [(0, false, va_rf p0), (1, false, .int p1)] _ _ _
  unfold FX12_pop at hF
  refine xe_iload_n dX12_pop_0 rfl rfl ?_
  obtain ⟨v1, h2, o3, hF⟩ := cl_inv hF
  refine xz (xq_callS (As := [.int _]) (rest := []) dX12_pop_1 mk_X12_wordsOf ⟨tw_1190, tw_1191⟩ (FX12_wordsOf_ok o3) xP_q (by decide) (by decide) rfl rfl ?_)
  refine xe_iconst (v := 2) dX12_pop_4 (by decide) ?_
  refine xe_icmp_ne (tgt := 12) dX12_pop_5 (by decide) (fun c4 => ?_) (fun c4 => ?_)
  · replace hF := if_p c4 hF
    refine xe_iconst (v := 1) dX12_pop_8 (by decide) ?_
    refine xe_goto (tgt := 13) dX12_pop_9 (by decide) ?_
    exact xv.lv (BX12_pop_13_ok hF) (xsub_cons rfl (xsub_cons rfl xsub_nil))
  · replace hF := if_n c4 hF
    refine xe_iconst (v := 0) dX12_pop_12 (by decide) ?_
    exact xv.lv (BX12_pop_13_ok hF) (xsub_cons rfl (xsub_cons rfl xsub_nil))
/-! SeldomOpsModel.push(I)V -/
def BX12_push_48 (x0 : Option Nat) (s0 : Option Nat) (s1 : Int32) (s2 : Int32) (h0 : Hp) : Option (Unit × Hp) :=
  sI h0 s0 s1 s2 fun h1 =>
  gI h1 x0 11 29 fun v8 =>
  pI h1 x0 11 29 (v8 + 1) fun h15 =>
  some ((), h15)
set_option maxRecDepth 100000 in
set_option maxHeartbeats 4000000 in
theorem BX12_push_48_ok {G : xG} {l : Launch} {x0 : Option Nat} {s0 : Option Nat} {s1 : Int32} {s2 : Int32} {h0 h1 : Hp} {r : Unit} (hF : BX12_push_48 x0 s0 s1 s2 h0 = some (r, h1)) : xv G l mX12_push 2 0 0 48 [(0, false, va_rf x0)] [.int s2, .int s1, va_rf s0] h0 (xP mkV r h1) := by
  unfold BX12_push_48 at hF
  obtain ⟨a2, n3, e4, t5, b6, hF⟩ := sI_inv hF
  refine xq_iast dX12_push_48 e4 t5 b6 ?_
  refine xe_aload_n dX12_push_49 rfl rfl ?_
  refine xe_dup dX12_push_50 (va_rf_cat _) ?_
  obtain ⟨a9, e10, t11, hF⟩ := gI_inv hF
  refine xq_getI dX12_push_51 fl_SeldomOpsModel_212 xk_11 e10 t11 rfl ?_
  refine xe_iconst (v := 1) dX12_push_54 (by decide) ?_
  refine xe_iadd dX12_push_55 ?_
  obtain ⟨a12, e13, t14, hF⟩ := pI_inv hF
  refine xq_putI dX12_push_56 fl_SeldomOpsModel_212 xk_11 (by decide) (fun z => by cases z) e13 t14 (Or.inl rfl) ?_
  exact xe_return dX12_push_59 (xP_ret (mk := mkV) hF)
def FX12_push (p0 : Option Nat) (p1 : Int32) (h0 : Hp) : Option (Unit × Hp) :=
  gR h0 p0 11 30 fun v1 =>
  gI h0 p0 11 29 fun v5 =>
  sI h0 v1 v5 p1 fun h9 =>
  gI h9 p0 11 29 fun v16 =>
  pI h9 p0 11 29 (v16 + 1) fun h23 =>
  cl (FX12_wordsOf p1 h23) fun v25 h26 =>
  if (v25 : Int32) = 2 then
    gR h26 p0 11 30 fun v29 =>
    gI h26 p0 11 29 fun v33 =>
    if (p1 : Int32) = 1 then
      BX12_push_48 p0 v29 v33 6 h26
    else
      BX12_push_48 p0 v29 v33 7 h26
  else
    some ((), h26)
set_option maxRecDepth 100000 in
set_option maxHeartbeats 4000000 in
theorem FX12_push_ok {G : xG} {l : Launch} {p0 : Option Nat} {p1 : Int32} {h0 h1 : Hp} {r : Unit} (hF : FX12_push p0 p1 h0 = some (r, h1)) : xc G l mX12_push 2 0 0 [va_rf p0, .int p1] h0 (xP mkV r h1) := by
  refine xo_V [.inr (.inr _), .inl _] (by decide) (Nat.le_of_ble_eq_true rfl) rfl ?_
  show xv _ _ _ _ _ _ _ [(0, false, va_rf p0), (1, false, .int p1)] _ _ _
  unfold FX12_push at hF
  refine xe_aload_n dX12_push_0 rfl rfl ?_
  obtain ⟨a2, e3, t4, hF⟩ := gR_inv hF
  refine xq_getR dX12_push_1 fl_SeldomOpsModel_90 xk_11 e3 t4 rfl ?_
  refine xe_aload_n dX12_push_4 rfl rfl ?_
  obtain ⟨a6, e7, t8, hF⟩ := gI_inv hF
  refine xq_getI dX12_push_5 fl_SeldomOpsModel_212 xk_11 e7 t8 rfl ?_
  refine xe_iload_n dX12_push_8 rfl rfl ?_
  obtain ⟨a10, n11, e12, t13, b14, hF⟩ := sI_inv hF
  refine xq_iast dX12_push_9 e12 t13 b14 ?_
  refine xe_aload_n dX12_push_10 rfl rfl ?_
  refine xe_dup dX12_push_11 (va_rf_cat _) ?_
  obtain ⟨a17, e18, t19, hF⟩ := gI_inv hF
  refine xq_getI dX12_push_12 fl_SeldomOpsModel_212 xk_11 e18 t19 rfl ?_
  refine xe_iconst (v := 1) dX12_push_15 (by decide) ?_
  refine xe_iadd dX12_push_16 ?_
  obtain ⟨a20, e21, t22, hF⟩ := pI_inv hF
  refine xq_putI dX12_push_17 fl_SeldomOpsModel_212 xk_11 (by decide) (fun z => by cases z) e21 t22 (Or.inl rfl) ?_
  refine xe_iload_n dX12_push_20 rfl rfl ?_
  obtain ⟨v25, h26, o27, hF⟩ := cl_inv hF
  refine xz (xq_callS (As := [.int _]) (rest := []) dX12_push_21 mk_X12_wordsOf ⟨tw_1190, tw_1191⟩ (FX12_wordsOf_ok o27) xP_q (by decide) (by decide) rfl rfl ?_)
  refine xe_iconst (v := 2) dX12_push_24 (by decide) ?_
  refine xe_icmp_ne (tgt := 59) dX12_push_25 (by decide) (fun c28 => ?_) (fun c28 => ?_)
  · replace hF := if_p c28 hF
    refine xe_aload_n dX12_push_28 rfl rfl ?_
    obtain ⟨a30, e31, t32, hF⟩ := gR_inv hF
    refine xq_getR dX12_push_29 fl_SeldomOpsModel_90 xk_11 e31 t32 rfl ?_
    refine xe_aload_n dX12_push_32 rfl rfl ?_
    obtain ⟨a34, e35, t36, hF⟩ := gI_inv hF
    refine xq_getI dX12_push_33 fl_SeldomOpsModel_212 xk_11 e35 t36 rfl ?_
    refine xe_iload_n dX12_push_36 rfl rfl ?_
    refine xe_iconst (v := 1) dX12_push_37 (by decide) ?_
    refine xe_icmp_ne (tgt := 46) dX12_push_38 (by decide) (fun c37 => ?_) (fun c37 => ?_)
    · replace hF := if_p c37 hF
      refine xe_bipush (v := 6) dX12_push_41 (by decide) ?_
      refine xe_goto (tgt := 48) dX12_push_43 (by decide) ?_
      exact xv.lv (BX12_push_48_ok hF) (xsub_cons rfl xsub_nil)
    · replace hF := if_n c37 hF
      refine xe_bipush (v := 7) dX12_push_46 (by decide) ?_
      exact xv.lv (BX12_push_48_ok hF) (xsub_cons rfl xsub_nil)
  · replace hF := if_n c28 hF
    exact xe_return dX12_push_59 (xP_ret (mk := mkV) hF)
/-! SeldomOpsModel.works(IIII)Z -/
def BX12_works_557 (x0 : Option Nat) (x3 : Int32) (x5 : Int32) (h0 : Hp) : Option (Int32 × Hp) :=
  gR h0 x0 11 1 fun v1 =>
  aI h0 v1 .int x3 fun v5 =>
  if (v5 : Int32) < 5 then
    gR h0 x0 11 1 fun v12 =>
    aI h0 v12 .int x3 fun v16 =>
    rcv h0 x0 11 <|
    cl (FX12_push x0 v16 h0) fun v22 h23 =>
    bz x5 (some (x5, h23))
  else
    bz x5 (some (x5, h0))
set_option maxRecDepth 100000 in
set_option maxHeartbeats 4000000 in
theorem BX12_works_557_ok {G : xG} {l : Launch} {x0 : Option Nat} {x3 : Int32} {x5 : Int32} {h0 h1 : Hp} {r : Int32} (hF : BX12_works_557 x0 x3 x5 h0 = some (r, h1)) : xv G l mX12_works 3 0 0 557 [(0, false, va_rf x0), (3, false, .int x3), (5, false, .int x5)] [] h0 (xPZ r h1) := by
  unfold BX12_works_557 at hF
  refine xe_aload_n dX12_works_557 rfl rfl ?_
  obtain ⟨a2, e3, t4, hF⟩ := gR_inv hF
  refine xq_getR dX12_works_558 fl_SeldomOpsModel_7 xk_11 e3 t4 rfl ?_
  refine xe_iload_n dX12_works_561 rfl rfl ?_
  obtain ⟨a6, n7, e8, t9, b10, hF⟩ := aI_inv hF
  refine xq_iald dX12_works_562 e8 t9 b10 ?_
  refine xe_iconst (v := 5) dX12_works_563 (by decide) ?_
  refine xe_icmp_ge (tgt := 577) dX12_works_564 (by decide) (fun c11 => ?_) (fun c11 => ?_)
  · replace hF := if_p c11 hF
    refine xe_aload_n dX12_works_567 rfl rfl ?_
    refine xe_aload_n dX12_works_568 rfl rfl ?_
    obtain ⟨a13, e14, t15, hF⟩ := gR_inv hF
    refine xq_getR dX12_works_569 fl_SeldomOpsModel_7 xk_11 e14 t15 rfl ?_
    refine xe_iload_n dX12_works_572 rfl rfl ?_
    obtain ⟨a17, n18, e19, t20, b21, hF⟩ := aI_inv hF
    refine xq_iald dX12_works_573 e19 t20 b21 ?_
    obtain ⟨a27, e25, t26, hF⟩ := rcv_inv hF
    obtain ⟨v22, h23, o24, hF⟩ := cl_inv hF
    refine xz (xq_callV (As := [.int _]) (rest := []) dX12_works_574 mk_X12_push ⟨tw_1289, tw_1291, ts_51⟩ (ci := 11) rfl e25 t26 (FX12_push_ok o24) xP_q (by decide) (by decide) rfl rfl ?_)
    refine xe_iload dX12_works_577 rfl ?_
    obtain ⟨z28, hF⟩ := bz_inv hF
    exact xe_ireturn dX12_works_579 (xPZ_ret z28 hF)
  · replace hF := if_n c11 hF
    refine xe_iload dX12_works_577 rfl ?_
    obtain ⟨z29, hF⟩ := bz_inv hF
    exact xe_ireturn dX12_works_579 (xPZ_ret z29 hF)
def BX12_works_523 : Nat → Option Nat → Int32 → Int32 → Int32 → Hp → Option (Int32 × Hp)
  | 0, _, _, _, _, _ => none
  | n + 1, x0, x3, x5, x8, h0 =>
    if (x8 : Int32) < 0 then
      BX12_works_557 x0 x3 x5 h0
    else
      if (x5 : Int32) = 0 then
        BX12_works_557 x0 x3 x5 h0
      else
        gR h0 x0 11 4 fun v3 =>
        aI h0 v3 .int ((8 * x3) + x8) fun v7 =>
        rcv h0 x0 11 <|
        cl (FX12_pop x0 v7 h0) fun v13 h14 =>
        BX12_works_523 n x0 x3 v13 (x8 + (-1)) h14
set_option maxRecDepth 100000 in
set_option maxHeartbeats 4000000 in
theorem BX12_works_523_ok {G : xG} {l : Launch} : ∀ (n : Nat) {x0 : Option Nat} {x3 : Int32} {x5 : Int32} {x8 : Int32} {h0 h1 : Hp} {r : Int32} (hF : BX12_works_523 n x0 x3 x5 x8 h0 = some (r, h1)), xv G l mX12_works 3 0 0 523 [(0, false, va_rf x0), (3, false, .int x3), (5, false, .int x5), (8, false, .int x8)] [] h0 (xPZ r h1) := by
  intro n
  induction n with
  | zero => intro x0 x3 x5 x8 h0 h1 r hF; cases hF
  | succ n ih =>
    intro x0 x3 x5 x8 h0 h1 r hF
    unfold BX12_works_523 at hF
    refine xe_iload dX12_works_523 rfl ?_
    refine xe_if_lt (tgt := 557) dX12_works_525 (by decide) (fun c1 => ?_) (fun c1 => ?_)
    · replace hF := if_p c1 hF
      exact xv.lv (BX12_works_557_ok hF) (xsub_cons rfl (xsub_cons rfl (xsub_cons rfl xsub_nil)))
    · replace hF := if_n c1 hF
      refine xe_iload dX12_works_528 rfl ?_
      refine xe_if_eq (tgt := 557) dX12_works_530 (by decide) (fun c2 => ?_) (fun c2 => ?_)
      · replace hF := if_p c2 hF
        exact xv.lv (BX12_works_557_ok hF) (xsub_cons rfl (xsub_cons rfl (xsub_cons rfl xsub_nil)))
      · replace hF := if_n c2 hF
        refine xe_aload_n dX12_works_533 rfl rfl ?_
        refine xe_aload_n dX12_works_534 rfl rfl ?_
        obtain ⟨a4, e5, t6, hF⟩ := gR_inv hF
        refine xq_getR dX12_works_535 fl_SeldomOpsModel_19 xk_11 e5 t6 rfl ?_
        refine xe_bipush (v := 8) dX12_works_538 (by decide) ?_
        refine xe_iload_n dX12_works_540 rfl rfl ?_
        refine xe_imul dX12_works_541 ?_
        refine xe_iload dX12_works_542 rfl ?_
        refine xe_iadd dX12_works_544 ?_
        obtain ⟨a8, n9, e10, t11, b12, hF⟩ := aI_inv hF
        refine xq_iald dX12_works_545 e10 t11 b12 ?_
        obtain ⟨a18, e16, t17, hF⟩ := rcv_inv hF
        obtain ⟨v13, h14, o15, hF⟩ := cl_inv hF
        refine xz (xq_callV (As := [.int _]) (rest := []) dX12_works_546 mk_X12_pop ⟨tw_1293, tw_1295, ts_52⟩ (ci := 11) rfl e16 t17 (FX12_pop_ok o15) xPZ_q (by decide) (by decide) rfl rfl ?_)
        refine xe_istore dX12_works_549 (by decide) ?_
        refine xe_iinc (v := _ + (-1)) dX12_works_551 rfl rfl (by decide) ?_
        refine xe_goto (tgt := 523) dX12_works_554 (by decide) ?_
        exact xv.lv (ih hF) (xsub_cons rfl (xsub_cons rfl (xsub_cons rfl (xsub_cons rfl xsub_nil))))
def BX12_works_457 (x0 : Option Nat) (h0 : Hp) : Option (Int32 × Hp) :=
  rcv h0 x0 11 <|
  cl (FX12_pop x0 4 h0) fun v1 h2 =>
  rcv h2 x0 11 <|
  cl (FX12_push x0 0 h2) fun v7 h8 =>
  bz v1 (some (v1, h8))
set_option maxRecDepth 100000 in
set_option maxHeartbeats 4000000 in
theorem BX12_works_457_ok {G : xG} {l : Launch} {x0 : Option Nat} {h0 h1 : Hp} {r : Int32} (hF : BX12_works_457 x0 h0 = some (r, h1)) : xv G l mX12_works 3 0 0 457 [(0, false, va_rf x0)] [] h0 (xPZ r h1) := by
  unfold BX12_works_457 at hF
  refine xe_aload_n dX12_works_457 rfl rfl ?_
  refine xe_iconst (v := 4) dX12_works_458 (by decide) ?_
  obtain ⟨a6, e4, t5, hF⟩ := rcv_inv hF
  obtain ⟨v1, h2, o3, hF⟩ := cl_inv hF
  refine xz (xq_callV (As := [.int _]) (rest := []) dX12_works_459 mk_X12_pop ⟨tw_1293, tw_1295, ts_52⟩ (ci := 11) rfl e4 t5 (FX12_pop_ok o3) xPZ_q (by decide) (by decide) rfl rfl ?_)
  refine xe_istore dX12_works_462 (by decide) ?_
  refine xe_aload_n dX12_works_464 rfl rfl ?_
  refine xe_iconst (v := 0) dX12_works_465 (by decide) ?_
  obtain ⟨a12, e10, t11, hF⟩ := rcv_inv hF
  obtain ⟨v7, h8, o9, hF⟩ := cl_inv hF
  refine xz (xq_callV (As := [.int _]) (rest := []) dX12_works_466 mk_X12_push ⟨tw_1289, tw_1291, ts_51⟩ (ci := 11) rfl e10 t11 (FX12_push_ok o9) xP_q (by decide) (by decide) rfl rfl ?_)
  refine xe_iload dX12_works_469 rfl ?_
  obtain ⟨z13, hF⟩ := bz_inv hF
  exact xe_ireturn dX12_works_471 (xPZ_ret z13 hF)
def BX12_works_415 (x0 : Option Nat) (x6 : Int32) (s0 : Int32) (h0 : Hp) : Option (Int32 × Hp) :=
  rcv h0 x0 11 <|
  cl (FX12_push x0 x6 h0) fun v1 h2 =>
  bz s0 (some (s0, h2))
set_option maxRecDepth 100000 in
set_option maxHeartbeats 4000000 in
theorem BX12_works_415_ok {G : xG} {l : Launch} {x0 : Option Nat} {x6 : Int32} {s0 : Int32} {h0 h1 : Hp} {r : Int32} (hF : BX12_works_415 x0 x6 s0 h0 = some (r, h1)) : xv G l mX12_works 3 0 0 415 [(0, false, va_rf x0), (6, false, .int x6)] [.int s0] h0 (xPZ r h1) := by
  unfold BX12_works_415 at hF
  refine xe_istore dX12_works_415 (by decide) ?_
  refine xe_aload_n dX12_works_417 rfl rfl ?_
  refine xe_iload dX12_works_418 rfl ?_
  obtain ⟨a6, e4, t5, hF⟩ := rcv_inv hF
  obtain ⟨v1, h2, o3, hF⟩ := cl_inv hF
  refine xz (xq_callV (As := [.int _]) (rest := []) dX12_works_420 mk_X12_push ⟨tw_1289, tw_1291, ts_51⟩ (ci := 11) rfl e4 t5 (FX12_push_ok o3) xP_q (by decide) (by decide) rfl rfl ?_)
  refine xe_iload dX12_works_423 rfl ?_
  obtain ⟨z7, hF⟩ := bz_inv hF
  exact xe_ireturn dX12_works_425 (xPZ_ret z7 hF)
def BX12_works_414 (x0 : Option Nat) (x6 : Int32) (h0 : Hp) : Option (Int32 × Hp) :=
  BX12_works_415 x0 x6 0 h0
set_option maxRecDepth 100000 in
set_option maxHeartbeats 4000000 in
theorem BX12_works_414_ok {G : xG} {l : Launch} {x0 : Option Nat} {x6 : Int32} {h0 h1 : Hp} {r : Int32} (hF : BX12_works_414 x0 x6 h0 = some (r, h1)) : xv G l mX12_works 3 0 0 414 [(0, false, va_rf x0), (6, false, .int x6)] [] h0 (xPZ r h1) := by
  unfold BX12_works_414 at hF
  refine xe_iconst (v := 0) dX12_works_414 (by decide) ?_
  exact xv.lv (BX12_works_415_ok hF) (xsub_cons rfl (xsub_cons rfl xsub_nil))
def BX12_works_386 (x0 : Option Nat) (x5 : Int32) (h0 : Hp) : Option (Int32 × Hp) :=
  rcv h0 x0 11 <|
  cl (FX12_push x0 4 h0) fun v1 h2 =>
  bz x5 (some (x5, h2))
set_option maxRecDepth 100000 in
set_option maxHeartbeats 4000000 in
theorem BX12_works_386_ok {G : xG} {l : Launch} {x0 : Option Nat} {x5 : Int32} {h0 h1 : Hp} {r : Int32} (hF : BX12_works_386 x0 x5 h0 = some (r, h1)) : xv G l mX12_works 3 0 0 386 [(0, false, va_rf x0), (5, false, .int x5)] [] h0 (xPZ r h1) := by
  unfold BX12_works_386 at hF
  refine xe_aload_n dX12_works_386 rfl rfl ?_
  refine xe_iconst (v := 4) dX12_works_387 (by decide) ?_
  obtain ⟨a6, e4, t5, hF⟩ := rcv_inv hF
  obtain ⟨v1, h2, o3, hF⟩ := cl_inv hF
  refine xz (xq_callV (As := [.int _]) (rest := []) dX12_works_388 mk_X12_push ⟨tw_1289, tw_1291, ts_51⟩ (ci := 11) rfl e4 t5 (FX12_push_ok o3) xP_q (by decide) (by decide) rfl rfl ?_)
  refine xe_iload dX12_works_391 rfl ?_
  obtain ⟨z7, hF⟩ := bz_inv hF
  exact xe_ireturn dX12_works_393 (xPZ_ret z7 hF)
def BX12_works_361 : Nat → Option Nat → Int32 → Int32 → Int32 → Hp → Option (Int32 × Hp)
  | 0, _, _, _, _, _ => none
  | n + 1, x0, x4, x5, x8, h0 =>
    if (x8 : Int32) < x4 then
      if (x5 : Int32) = 0 then
        BX12_works_386 x0 x5 h0
      else
        rcv h0 x0 11 <|
        cl (FX12_pop x0 0 h0) fun v3 h4 =>
        BX12_works_361 n x0 x4 v3 (x8 + 1) h4
    else
      BX12_works_386 x0 x5 h0
set_option maxRecDepth 100000 in
set_option maxHeartbeats 4000000 in
theorem BX12_works_361_ok {G : xG} {l : Launch} : ∀ (n : Nat) {x0 : Option Nat} {x4 : Int32} {x5 : Int32} {x8 : Int32} {h0 h1 : Hp} {r : Int32} (hF : BX12_works_361 n x0 x4 x5 x8 h0 = some (r, h1)), xv G l mX12_works 3 0 0 361 [(0, false, va_rf x0), (4, false, .int x4), (5, false, .int x5), (8, false, .int x8)] [] h0 (xPZ r h1) := by
  intro n
  induction n with
  | zero => intro x0 x4 x5 x8 h0 h1 r hF; cases hF
  | succ n ih =>
    intro x0 x4 x5 x8 h0 h1 r hF
    unfold BX12_works_361 at hF
    refine xe_iload dX12_works_361 rfl ?_
    refine xe_iload dX12_works_363 rfl ?_
    refine xe_icmp_ge (tgt := 386) dX12_works_365 (by decide) (fun c1 => ?_) (fun c1 => ?_)
    · replace hF := if_p c1 hF
      refine xe_iload dX12_works_368 rfl ?_
      refine xe_if_eq (tgt := 386) dX12_works_370 (by decide) (fun c2 => ?_) (fun c2 => ?_)
      · replace hF := if_p c2 hF
        exact xv.lv (BX12_works_386_ok hF) (xsub_cons rfl (xsub_cons rfl xsub_nil))
      · replace hF := if_n c2 hF
        refine xe_aload_n dX12_works_373 rfl rfl ?_
        refine xe_iconst (v := 0) dX12_works_374 (by decide) ?_
        obtain ⟨a8, e6, t7, hF⟩ := rcv_inv hF
        obtain ⟨v3, h4, o5, hF⟩ := cl_inv hF
        refine xz (xq_callV (As := [.int _]) (rest := []) dX12_works_375 mk_X12_pop ⟨tw_1293, tw_1295, ts_52⟩ (ci := 11) rfl e6 t7 (FX12_pop_ok o5) xPZ_q (by decide) (by decide) rfl rfl ?_)
        refine xe_istore dX12_works_378 (by decide) ?_
        refine xe_iinc (v := _ + 1) dX12_works_380 rfl rfl (by decide) ?_
        refine xe_goto (tgt := 361) dX12_works_383 (by decide) ?_
        exact xv.lv (ih hF) (xsub_cons rfl (xsub_cons rfl (xsub_cons rfl (xsub_cons rfl xsub_nil))))
    · replace hF := if_n c1 hF
      exact xv.lv (BX12_works_386_ok hF) (xsub_cons rfl (xsub_cons rfl xsub_nil))
def BX12_works_352 (x0 : Option Nat) (h0 : Hp) : Option (Int32 × Hp) :=
  rcv h0 x0 11 <|
  cl (FX12_pop x0 4 h0) fun v1 h2 =>
  bz v1 (some (v1, h2))
set_option maxRecDepth 100000 in
set_option maxHeartbeats 4000000 in
theorem BX12_works_352_ok {G : xG} {l : Launch} {x0 : Option Nat} {h0 h1 : Hp} {r : Int32} (hF : BX12_works_352 x0 h0 = some (r, h1)) : xv G l mX12_works 3 0 0 352 [(0, false, va_rf x0)] [] h0 (xPZ r h1) := by
  unfold BX12_works_352 at hF
  refine xe_aload_n dX12_works_352 rfl rfl ?_
  refine xe_iconst (v := 4) dX12_works_353 (by decide) ?_
  obtain ⟨a6, e4, t5, hF⟩ := rcv_inv hF
  obtain ⟨v1, h2, o3, hF⟩ := cl_inv hF
  refine xz (xq_callV (As := [.int _]) (rest := []) dX12_works_354 mk_X12_pop ⟨tw_1293, tw_1295, ts_52⟩ (ci := 11) rfl e4 t5 (FX12_pop_ok o3) xPZ_q (by decide) (by decide) rfl rfl ?_)
  obtain ⟨z7, hF⟩ := bz_inv hF
  exact xe_ireturn dX12_works_357 (xPZ_ret z7 hF)
def BX12_works_346 (x0 : Option Nat) (h0 : Hp) : Option (Int32 × Hp) :=
  rcv h0 x0 11 <|
  cl (FX12_pop x0 0 h0) fun v1 h2 =>
  bz v1 (some (v1, h2))
set_option maxRecDepth 100000 in
set_option maxHeartbeats 4000000 in
theorem BX12_works_346_ok {G : xG} {l : Launch} {x0 : Option Nat} {h0 h1 : Hp} {r : Int32} (hF : BX12_works_346 x0 h0 = some (r, h1)) : xv G l mX12_works 3 0 0 346 [(0, false, va_rf x0)] [] h0 (xPZ r h1) := by
  unfold BX12_works_346 at hF
  refine xe_aload_n dX12_works_346 rfl rfl ?_
  refine xe_iconst (v := 0) dX12_works_347 (by decide) ?_
  obtain ⟨a6, e4, t5, hF⟩ := rcv_inv hF
  obtain ⟨v1, h2, o3, hF⟩ := cl_inv hF
  refine xz (xq_callV (As := [.int _]) (rest := []) dX12_works_348 mk_X12_pop ⟨tw_1293, tw_1295, ts_52⟩ (ci := 11) rfl e4 t5 (FX12_pop_ok o3) xPZ_q (by decide) (by decide) rfl rfl ?_)
  obtain ⟨z7, hF⟩ := bz_inv hF
  exact xe_ireturn dX12_works_351 (xPZ_ret z7 hF)
def BX12_works_336 (x0 : Option Nat) (s0 : Int32) (h0 : Hp) : Option (Int32 × Hp) :=
  rcv h0 x0 11 <|
  cl (FX12_push x0 0 h0) fun v1 h2 =>
  bz s0 (some (s0, h2))
set_option maxRecDepth 100000 in
set_option maxHeartbeats 4000000 in
theorem BX12_works_336_ok {G : xG} {l : Launch} {x0 : Option Nat} {s0 : Int32} {h0 h1 : Hp} {r : Int32} (hF : BX12_works_336 x0 s0 h0 = some (r, h1)) : xv G l mX12_works 3 0 0 336 [(0, false, va_rf x0)] [.int s0] h0 (xPZ r h1) := by
  unfold BX12_works_336 at hF
  refine xe_istore dX12_works_336 (by decide) ?_
  refine xe_aload_n dX12_works_338 rfl rfl ?_
  refine xe_iconst (v := 0) dX12_works_339 (by decide) ?_
  obtain ⟨a6, e4, t5, hF⟩ := rcv_inv hF
  obtain ⟨v1, h2, o3, hF⟩ := cl_inv hF
  refine xz (xq_callV (As := [.int _]) (rest := []) dX12_works_340 mk_X12_push ⟨tw_1289, tw_1291, ts_51⟩ (ci := 11) rfl e4 t5 (FX12_push_ok o3) xP_q (by decide) (by decide) rfl rfl ?_)
  refine xe_iload dX12_works_343 rfl ?_
  obtain ⟨z7, hF⟩ := bz_inv hF
  exact xe_ireturn dX12_works_345 (xPZ_ret z7 hF)
def BX12_works_335 (x0 : Option Nat) (h0 : Hp) : Option (Int32 × Hp) :=
  BX12_works_336 x0 0 h0
set_option maxRecDepth 100000 in
set_option maxHeartbeats 4000000 in
theorem BX12_works_335_ok {G : xG} {l : Launch} {x0 : Option Nat} {h0 h1 : Hp} {r : Int32} (hF : BX12_works_335 x0 h0 = some (r, h1)) : xv G l mX12_works 3 0 0 335 [(0, false, va_rf x0)] [] h0 (xPZ r h1) := by
  unfold BX12_works_335 at hF
  refine xe_iconst (v := 0) dX12_works_335 (by decide) ?_
  exact xv.lv (BX12_works_336_ok hF) (xsub_cons rfl xsub_nil)
def BX12_works_311 (x0 : Option Nat) (s0 : Int32) (h0 : Hp) : Option (Int32 × Hp) :=
  rcv h0 x0 11 <|
  cl (FX12_pop x0 s0 h0) fun v1 h2 =>
  if (v1 : Int32) = 0 then
    BX12_works_335 x0 h2
  else
    rcv h2 x0 11 <|
    cl (FX12_pop x0 s0 h2) fun v8 h9 =>
    if (v8 : Int32) = 0 then
      BX12_works_335 x0 h9
    else
      BX12_works_336 x0 1 h9
set_option maxRecDepth 100000 in
set_option maxHeartbeats 4000000 in
theorem BX12_works_311_ok {G : xG} {l : Launch} {x0 : Option Nat} {s0 : Int32} {h0 h1 : Hp} {r : Int32} (hF : BX12_works_311 x0 s0 h0 = some (r, h1)) : xv G l mX12_works 3 0 0 311 [(0, false, va_rf x0)] [.int s0] h0 (xPZ r h1) := by
  unfold BX12_works_311 at hF
  refine xe_istore dX12_works_311 (by decide) ?_
  refine xe_aload_n dX12_works_313 rfl rfl ?_
  refine xe_iload dX12_works_314 rfl ?_
  obtain ⟨a6, e4, t5, hF⟩ := rcv_inv hF
  obtain ⟨v1, h2, o3, hF⟩ := cl_inv hF
  refine xz (xq_callV (As := [.int _]) (rest := []) dX12_works_316 mk_X12_pop ⟨tw_1293, tw_1295, ts_52⟩ (ci := 11) rfl e4 t5 (FX12_pop_ok o3) xPZ_q (by decide) (by decide) rfl rfl ?_)
  refine xe_if_eq (tgt := 335) dX12_works_319 (by decide) (fun c7 => ?_) (fun c7 => ?_)
  · replace hF := if_p c7 hF
    exact xv.lv (BX12_works_335_ok hF) (xsub_cons rfl xsub_nil)
  · replace hF := if_n c7 hF
    refine xe_aload_n dX12_works_322 rfl rfl ?_
    refine xe_iload dX12_works_323 rfl ?_
    obtain ⟨a13, e11, t12, hF⟩ := rcv_inv hF
    obtain ⟨v8, h9, o10, hF⟩ := cl_inv hF
    refine xz (xq_callV (As := [.int _]) (rest := []) dX12_works_325 mk_X12_pop ⟨tw_1293, tw_1295, ts_52⟩ (ci := 11) rfl e11 t12 (FX12_pop_ok o10) xPZ_q (by decide) (by decide) rfl rfl ?_)
    refine xe_if_eq (tgt := 335) dX12_works_328 (by decide) (fun c14 => ?_) (fun c14 => ?_)
    · replace hF := if_p c14 hF
      exact xv.lv (BX12_works_335_ok hF) (xsub_cons rfl xsub_nil)
    · replace hF := if_n c14 hF
      refine xe_iconst (v := 1) dX12_works_331 (by decide) ?_
      refine xe_goto (tgt := 336) dX12_works_332 (by decide) ?_
      exact xv.lv (BX12_works_336_ok hF) (xsub_cons rfl xsub_nil)
def BX12_works_287 (x5 : Int32) (s0 : Option Nat) (s1 : Int32) (h0 : Hp) : Option (Int32 × Hp) :=
  rcv h0 s0 11 <|
  cl (FX12_push s0 s1 h0) fun v1 h2 =>
  bz x5 (some (x5, h2))
set_option maxRecDepth 100000 in
set_option maxHeartbeats 4000000 in
theorem BX12_works_287_ok {G : xG} {l : Launch} {x5 : Int32} {s0 : Option Nat} {s1 : Int32} {h0 h1 : Hp} {r : Int32} (hF : BX12_works_287 x5 s0 s1 h0 = some (r, h1)) : xv G l mX12_works 3 0 0 287 [(5, false, .int x5)] [.int s1, va_rf s0] h0 (xPZ r h1) := by
  unfold BX12_works_287 at hF
  obtain ⟨a6, e4, t5, hF⟩ := rcv_inv hF
  obtain ⟨v1, h2, o3, hF⟩ := cl_inv hF
  refine xz (xq_callV (As := [.int _]) (rest := []) dX12_works_287 mk_X12_push ⟨tw_1289, tw_1291, ts_51⟩ (ci := 11) rfl e4 t5 (FX12_push_ok o3) xP_q (by decide) (by decide) rfl rfl ?_)
  refine xe_iload dX12_works_290 rfl ?_
  obtain ⟨z7, hF⟩ := bz_inv hF
  exact xe_ireturn dX12_works_292 (xPZ_ret z7 hF)
def BX12_works_271 (x0 : Option Nat) (x3 : Int32) (s0 : Option Nat) (s1 : Int32) (h0 : Hp) : Option (Int32 × Hp) :=
  rcv h0 s0 11 <|
  cl (FX12_pop s0 s1 h0) fun v1 h2 =>
  if (x3 : Int32) = 4 then
    BX12_works_287 v1 x0 1 h2
  else
    BX12_works_287 v1 x0 0 h2
set_option maxRecDepth 100000 in
set_option maxHeartbeats 4000000 in
theorem BX12_works_271_ok {G : xG} {l : Launch} {x0 : Option Nat} {x3 : Int32} {s0 : Option Nat} {s1 : Int32} {h0 h1 : Hp} {r : Int32} (hF : BX12_works_271 x0 x3 s0 s1 h0 = some (r, h1)) : xv G l mX12_works 3 0 0 271 [(0, false, va_rf x0), (3, false, .int x3)] [.int s1, va_rf s0] h0 (xPZ r h1) := by
  unfold BX12_works_271 at hF
  obtain ⟨a6, e4, t5, hF⟩ := rcv_inv hF
  obtain ⟨v1, h2, o3, hF⟩ := cl_inv hF
  refine xz (xq_callV (As := [.int _]) (rest := []) dX12_works_271 mk_X12_pop ⟨tw_1293, tw_1295, ts_52⟩ (ci := 11) rfl e4 t5 (FX12_pop_ok o3) xPZ_q (by decide) (by decide) rfl rfl ?_)
  refine xe_istore dX12_works_274 (by decide) ?_
  refine xe_aload_n dX12_works_276 rfl rfl ?_
  refine xe_iload_n dX12_works_277 rfl rfl ?_
  refine xe_iconst (v := 4) dX12_works_278 (by decide) ?_
  refine xe_icmp_ne (tgt := 286) dX12_works_279 (by decide) (fun c7 => ?_) (fun c7 => ?_)
  · replace hF := if_p c7 hF
    refine xe_iconst (v := 1) dX12_works_282 (by decide) ?_
    refine xe_goto (tgt := 287) dX12_works_283 (by decide) ?_
    exact xv.lv (BX12_works_287_ok hF) (xsub_cons rfl xsub_nil)
  · replace hF := if_n c7 hF
    refine xe_iconst (v := 0) dX12_works_286 (by decide) ?_
    exact xv.lv (BX12_works_287_ok hF) (xsub_cons rfl xsub_nil)
def BX12_works_249 (x0 : Option Nat) (x4 : Int32) (s0 : Int32) (h0 : Hp) : Option (Int32 × Hp) :=
  rcv h0 x0 11 <|
  cl (FX12_push x0 x4 h0) fun v1 h2 =>
  bz s0 (some (s0, h2))
set_option maxRecDepth 100000 in
set_option maxHeartbeats 4000000 in
theorem BX12_works_249_ok {G : xG} {l : Launch} {x0 : Option Nat} {x4 : Int32} {s0 : Int32} {h0 h1 : Hp} {r : Int32} (hF : BX12_works_249 x0 x4 s0 h0 = some (r, h1)) : xv G l mX12_works 3 0 0 249 [(0, false, va_rf x0), (4, false, .int x4)] [.int s0] h0 (xPZ r h1) := by
  unfold BX12_works_249 at hF
  refine xe_istore dX12_works_249 (by decide) ?_
  refine xe_aload_n dX12_works_251 rfl rfl ?_
  refine xe_iload dX12_works_252 rfl ?_
  obtain ⟨a6, e4, t5, hF⟩ := rcv_inv hF
  obtain ⟨v1, h2, o3, hF⟩ := cl_inv hF
  refine xz (xq_callV (As := [.int _]) (rest := []) dX12_works_254 mk_X12_push ⟨tw_1289, tw_1291, ts_51⟩ (ci := 11) rfl e4 t5 (FX12_push_ok o3) xP_q (by decide) (by decide) rfl rfl ?_)
  refine xe_iload dX12_works_257 rfl ?_
  obtain ⟨z7, hF⟩ := bz_inv hF
  exact xe_ireturn dX12_works_259 (xPZ_ret z7 hF)
def BX12_works_248 (x0 : Option Nat) (x4 : Int32) (h0 : Hp) : Option (Int32 × Hp) :=
  BX12_works_249 x0 x4 0 h0
set_option maxRecDepth 100000 in
set_option maxHeartbeats 4000000 in
theorem BX12_works_248_ok {G : xG} {l : Launch} {x0 : Option Nat} {x4 : Int32} {h0 h1 : Hp} {r : Int32} (hF : BX12_works_248 x0 x4 h0 = some (r, h1)) : xv G l mX12_works 3 0 0 248 [(0, false, va_rf x0), (4, false, .int x4)] [] h0 (xPZ r h1) := by
  unfold BX12_works_248 at hF
  refine xe_iconst (v := 0) dX12_works_248 (by decide) ?_
  exact xv.lv (BX12_works_249_ok hF) (xsub_cons rfl (xsub_cons rfl xsub_nil))
def BX12_works_228 (x0 : Option Nat) (x4 : Int32) (s0 : Int32) (h0 : Hp) : Option (Int32 × Hp) :=
  if (s0 : Int32) = 0 then
    BX12_works_248 x0 x4 h0
  else
    rcv h0 x0 11 <|
    cl (FX12_pop x0 x4 h0) fun v2 h3 =>
    if (v2 : Int32) = 0 then
      BX12_works_248 x0 x4 h3
    else
      BX12_works_249 x0 x4 1 h3
set_option maxRecDepth 100000 in
set_option maxHeartbeats 4000000 in
theorem BX12_works_228_ok {G : xG} {l : Launch} {x0 : Option Nat} {x4 : Int32} {s0 : Int32} {h0 h1 : Hp} {r : Int32} (hF : BX12_works_228 x0 x4 s0 h0 = some (r, h1)) : xv G l mX12_works 3 0 0 228 [(0, false, va_rf x0), (4, false, .int x4)] [.int s0] h0 (xPZ r h1) := by
  unfold BX12_works_228 at hF
  refine xe_istore dX12_works_228 (by decide) ?_
  refine xe_iload dX12_works_230 rfl ?_
  refine xe_if_eq (tgt := 248) dX12_works_232 (by decide) (fun c1 => ?_) (fun c1 => ?_)
  · replace hF := if_p c1 hF
    exact xv.lv (BX12_works_248_ok hF) (xsub_cons rfl (xsub_cons rfl xsub_nil))
  · replace hF := if_n c1 hF
    refine xe_aload_n dX12_works_235 rfl rfl ?_
    refine xe_iload dX12_works_236 rfl ?_
    obtain ⟨a7, e5, t6, hF⟩ := rcv_inv hF
    obtain ⟨v2, h3, o4, hF⟩ := cl_inv hF
    refine xz (xq_callV (As := [.int _]) (rest := []) dX12_works_238 mk_X12_pop ⟨tw_1293, tw_1295, ts_52⟩ (ci := 11) rfl e5 t6 (FX12_pop_ok o4) xPZ_q (by decide) (by decide) rfl rfl ?_)
    refine xe_if_eq (tgt := 248) dX12_works_241 (by decide) (fun c8 => ?_) (fun c8 => ?_)
    · replace hF := if_p c8 hF
      exact xv.lv (BX12_works_248_ok hF) (xsub_cons rfl (xsub_cons rfl xsub_nil))
    · replace hF := if_n c8 hF
      refine xe_iconst (v := 1) dX12_works_244 (by decide) ?_
      refine xe_goto (tgt := 249) dX12_works_245 (by decide) ?_
      exact xv.lv (BX12_works_249_ok hF) (xsub_cons rfl (xsub_cons rfl xsub_nil))
def BX12_works_223 (x0 : Option Nat) (x4 : Int32) (h0 : Hp) : Option (Int32 × Hp) :=
  BX12_works_228 x0 x4 1 h0
set_option maxRecDepth 100000 in
set_option maxHeartbeats 4000000 in
theorem BX12_works_223_ok {G : xG} {l : Launch} {x0 : Option Nat} {x4 : Int32} {h0 h1 : Hp} {r : Int32} (hF : BX12_works_223 x0 x4 h0 = some (r, h1)) : xv G l mX12_works 3 0 0 223 [(0, false, va_rf x0), (4, false, .int x4)] [] h0 (xPZ r h1) := by
  unfold BX12_works_223 at hF
  refine xe_iconst (v := 1) dX12_works_223 (by decide) ?_
  refine xe_goto (tgt := 228) dX12_works_224 (by decide) ?_
  exact xv.lv (BX12_works_228_ok hF) (xsub_cons rfl (xsub_cons rfl xsub_nil))
def BX12_works_217 (x0 : Option Nat) (x4 : Int32) (s0 : Option Nat) (s1 : Int32) (h0 : Hp) : Option (Int32 × Hp) :=
  rcv h0 s0 11 <|
  cl (FX12_pop s0 s1 h0) fun v1 h2 =>
  if (v1 : Int32) = 0 then
    BX12_works_228 x0 x4 0 h2
  else
    BX12_works_223 x0 x4 h2
set_option maxRecDepth 100000 in
set_option maxHeartbeats 4000000 in
theorem BX12_works_217_ok {G : xG} {l : Launch} {x0 : Option Nat} {x4 : Int32} {s0 : Option Nat} {s1 : Int32} {h0 h1 : Hp} {r : Int32} (hF : BX12_works_217 x0 x4 s0 s1 h0 = some (r, h1)) : xv G l mX12_works 3 0 0 217 [(0, false, va_rf x0), (4, false, .int x4)] [.int s1, va_rf s0] h0 (xPZ r h1) := by
  unfold BX12_works_217 at hF
  obtain ⟨a6, e4, t5, hF⟩ := rcv_inv hF
  obtain ⟨v1, h2, o3, hF⟩ := cl_inv hF
  refine xz (xq_callV (As := [.int _]) (rest := []) dX12_works_217 mk_X12_pop ⟨tw_1293, tw_1295, ts_52⟩ (ci := 11) rfl e4 t5 (FX12_pop_ok o3) xPZ_q (by decide) (by decide) rfl rfl ?_)
  refine xe_if_eq (tgt := 227) dX12_works_220 (by decide) (fun c7 => ?_) (fun c7 => ?_)
  · replace hF := if_p c7 hF
    refine xe_iconst (v := 0) dX12_works_227 (by decide) ?_
    exact xv.lv (BX12_works_228_ok hF) (xsub_cons rfl (xsub_cons rfl xsub_nil))
  · replace hF := if_n c7 hF
    exact xv.lv (BX12_works_223_ok hF) (xsub_cons rfl (xsub_cons rfl xsub_nil))
def BX12_works_176 (x0 : Option Nat) (x2 : Int32) (h0 : Hp) : Option (Int32 × Hp) :=
  rcv h0 x0 11 <|
  cl (FX12_push x0 x2 h0) fun v1 h2 =>
  bz 1 (some (1, h2))
set_option maxRecDepth 100000 in
set_option maxHeartbeats 4000000 in
theorem BX12_works_176_ok {G : xG} {l : Launch} {x0 : Option Nat} {x2 : Int32} {h0 h1 : Hp} {r : Int32} (hF : BX12_works_176 x0 x2 h0 = some (r, h1)) : xv G l mX12_works 3 0 0 176 [(0, false, va_rf x0), (2, false, .int x2)] [] h0 (xPZ r h1) := by
  unfold BX12_works_176 at hF
  refine xe_aload_n dX12_works_176 rfl rfl ?_
  refine xe_iload_n dX12_works_177 rfl rfl ?_
  obtain ⟨a6, e4, t5, hF⟩ := rcv_inv hF
  obtain ⟨v1, h2, o3, hF⟩ := cl_inv hF
  refine xz (xq_callV (As := [.int _]) (rest := []) dX12_works_178 mk_X12_push ⟨tw_1289, tw_1291, ts_51⟩ (ci := 11) rfl e4 t5 (FX12_push_ok o3) xP_q (by decide) (by decide) rfl rfl ?_)
  refine xe_iconst (v := 1) dX12_works_181 (by decide) ?_
  obtain ⟨z7, hF⟩ := bz_inv hF
  exact xe_ireturn dX12_works_182 (xPZ_ret z7 hF)
def BX12_works_15 (x0 : Option Nat) (x2 : Int32) (x3 : Int32) (x4 : Int32) (x5 : Int32) (s0 : Int32) (h0 : Hp) : Option (Int32 × Hp) :=
  if (x2 : Int32) = 0 then
    BX12_works_176 x0 x2 h0
  else
  if (x2 : Int32) = 1 then
    BX12_works_176 x0 x2 h0
  else
  if (x2 : Int32) = 2 then
    BX12_works_176 x0 x2 h0
  else
  if (x2 : Int32) = 3 then
    BX12_works_176 x0 x2 h0
  else
  if (x2 : Int32) = 4 then
    BX12_works_176 x0 x2 h0
  else
  if (x2 : Int32) = 5 then
    rcv h0 x0 11 <|
    cl (FX12_push x0 x4 h0) fun v7 h8 =>
    bz 1 (some (1, h8))
  else
  if (x2 : Int32) = 6 then
    rcv h0 x0 11 <|
    cl (FX12_pop x0 x4 h0) fun v15 h16 =>
    bz v15 (some (v15, h16))
  else
  if (x2 : Int32) = 17 then
    if (x3 : Int32) = 11 then
      BX12_works_223 x0 x4 h0
    else
      if (x3 : Int32) < 8 then
        BX12_works_217 x0 x4 x0 x4 h0
      else
        BX12_works_217 x0 x4 x0 0 h0
  else
  if (x2 : Int32) = 18 then
    if (x3 : Int32) = 3 then
      BX12_works_271 x0 x3 x0 1 h0
    else
      BX12_works_271 x0 x3 x0 0 h0
  else
  if (x2 : Int32) = 19 then
    if (x3 : Int32) = 0 then
      BX12_works_311 x0 1 h0
    else
      if (x3 : Int32) < 3 then
        BX12_works_311 x0 2 h0
      else
        BX12_works_311 x0 3 h0
  else
  if (x2 : Int32) = 21 then
    BX12_works_346 x0 h0
  else
  if (x2 : Int32) = 22 then
    BX12_works_352 x0 h0
  else
  if (x2 : Int32) = 23 then
    BX12_works_346 x0 h0
  else
  if (x2 : Int32) = 24 then
    BX12_works_361 100000 x0 x4 x5 0 h0
  else
  if (x2 : Int32) = 25 then
    rcv h0 x0 11 <|
    cl (FX12_pop x0 0 h0) fun v35 h36 =>
    if (v35 : Int32) = 0 then
      BX12_works_414 x0 s0 h36
    else
      rcv h36 x0 11 <|
      cl (FX12_pop x0 4 h36) fun v42 h43 =>
      if (v42 : Int32) = 0 then
        BX12_works_414 x0 s0 h43
      else
        BX12_works_415 x0 s0 1 h43
  else
  if (x2 : Int32) = 26 then
    rcv h0 x0 11 <|
    cl (FX12_pop x0 s0 h0) fun v50 h51 =>
    if (v50 : Int32) = 0 then
      bz 0 (some (0, h51))
    else
      rcv h51 x0 11 <|
      cl (FX12_pop x0 0 h51) fun v58 h59 =>
      if (v58 : Int32) = 0 then
        bz 0 (some (0, h59))
      else
        rcv h59 x0 11 <|
        cl (FX12_pop x0 4 h59) fun v66 h67 =>
        if (v66 : Int32) = 0 then
          bz 0 (some (0, h67))
        else
          bz 1 (some (1, h67))
  else
  if (x2 : Int32) = 27 then
    BX12_works_457 x0 h0
  else
  if (x2 : Int32) = 28 then
    BX12_works_457 x0 h0
  else
  if (x2 : Int32) = 29 then
    rcv h0 x0 11 <|
    cl (FX12_pop x0 4 h0) fun v78 h79 =>
    rcv h79 x0 11 <|
    cl (FX12_push x0 4 h79) fun v84 h85 =>
    bz v78 (some (v78, h85))
  else
  if (x2 : Int32) = 30 then
    rcv h0 x0 11 <|
    cl (FX12_push x0 4 h0) fun v92 h93 =>
    bz 1 (some (1, h93))
  else
  if (x2 : Int32) = 31 then
    BX12_works_352 x0 h0
  else
  if (x2 : Int32) = 32 then
    BX12_works_352 x0 h0
  else
  if (x2 : Int32) = 33 then
    BX12_works_352 x0 h0
  else
  if (x2 : Int32) = 34 then
    if (x3 : Int32) = 5 then
      bz 1 (some (1, h0))
    else
      rcv h0 x0 11 <|
      cl (FX12_pop x0 x3 h0) fun v105 h106 =>
      if (v105 : Int32) = 0 then
        bz 0 (some (0, h106))
      else
        bz 1 (some (1, h106))
  else
  if (x2 : Int32) = 35 then
    gR h0 x0 11 2 fun v115 =>
    aI h0 v115 .int x3 fun v119 =>
    BX12_works_523 100000 x0 x3 x5 (v119 - 1) h0
  else
  bz 1 (some (1, h0))
set_option maxRecDepth 100000 in
set_option maxHeartbeats 4000000 in
theorem BX12_works_15_ok {G : xG} {l : Launch} {x0 : Option Nat} {x2 : Int32} {x3 : Int32} {x4 : Int32} {x5 : Int32} {s0 : Int32} {h0 h1 : Hp} {r : Int32} (hF : BX12_works_15 x0 x2 x3 x4 x5 s0 h0 = some (r, h1)) : xv G l mX12_works 3 0 0 15 [(0, false, va_rf x0), (2, false, .int x2), (3, false, .int x3), (4, false, .int x4), (5, false, .int x5)] [.int s0] h0 (xPZ r h1) := by
  unfold BX12_works_15 at hF
  refine xe_istore dX12_works_15 (by decide) ?_
  refine xe_iload_n dX12_works_17 rfl rfl ?_
  refine xs_case (j := 0) (tgt := 176) dX12_works_18 (by decide) (by decide) rfl (by decide) (fun c1 => ?_) (fun c1 => ?_)
  · replace hF := if_p c1 hF
    exact xv.lv (BX12_works_176_ok hF) (xsub_cons rfl (xsub_cons rfl xsub_nil))
  replace hF := if_n c1 hF
  refine xs_case (j := 1) (tgt := 176) dX12_works_18 (by decide) (by decide) rfl (by decide) (fun c2 => ?_) (fun c2 => ?_)
  · replace hF := if_p c2 hF
    exact xv.lv (BX12_works_176_ok hF) (xsub_cons rfl (xsub_cons rfl xsub_nil))
  replace hF := if_n c2 hF
  refine xs_case (j := 2) (tgt := 176) dX12_works_18 (by decide) (by decide) rfl (by decide) (fun c3 => ?_) (fun c3 => ?_)
  · replace hF := if_p c3 hF
    exact xv.lv (BX12_works_176_ok hF) (xsub_cons rfl (xsub_cons rfl xsub_nil))
  replace hF := if_n c3 hF
  refine xs_case (j := 3) (tgt := 176) dX12_works_18 (by decide) (by decide) rfl (by decide) (fun c4 => ?_) (fun c4 => ?_)
  · replace hF := if_p c4 hF
    exact xv.lv (BX12_works_176_ok hF) (xsub_cons rfl (xsub_cons rfl xsub_nil))
  replace hF := if_n c4 hF
  refine xs_case (j := 4) (tgt := 176) dX12_works_18 (by decide) (by decide) rfl (by decide) (fun c5 => ?_) (fun c5 => ?_)
  · replace hF := if_p c5 hF
    exact xv.lv (BX12_works_176_ok hF) (xsub_cons rfl (xsub_cons rfl xsub_nil))
  replace hF := if_n c5 hF
  refine xs_case (j := 5) (tgt := 183) dX12_works_18 (by decide) (by decide) rfl (by decide) (fun c6 => ?_) (fun c6 => ?_)
  · replace hF := if_p c6 hF
    refine xe_aload_n dX12_works_183 rfl rfl ?_
    refine xe_iload dX12_works_184 rfl ?_
    obtain ⟨a12, e10, t11, hF⟩ := rcv_inv hF
    obtain ⟨v7, h8, o9, hF⟩ := cl_inv hF
    refine xz (xq_callV (As := [.int _]) (rest := []) dX12_works_186 mk_X12_push ⟨tw_1289, tw_1291, ts_51⟩ (ci := 11) rfl e10 t11 (FX12_push_ok o9) xP_q (by decide) (by decide) rfl rfl ?_)
    refine xe_iconst (v := 1) dX12_works_189 (by decide) ?_
    obtain ⟨z13, hF⟩ := bz_inv hF
    exact xe_ireturn dX12_works_190 (xPZ_ret z13 hF)
  replace hF := if_n c6 hF
  refine xs_case (j := 6) (tgt := 191) dX12_works_18 (by decide) (by decide) rfl (by decide) (fun c14 => ?_) (fun c14 => ?_)
  · replace hF := if_p c14 hF
    refine xe_aload_n dX12_works_191 rfl rfl ?_
    refine xe_iload dX12_works_192 rfl ?_
    obtain ⟨a20, e18, t19, hF⟩ := rcv_inv hF
    obtain ⟨v15, h16, o17, hF⟩ := cl_inv hF
    refine xz (xq_callV (As := [.int _]) (rest := []) dX12_works_194 mk_X12_pop ⟨tw_1293, tw_1295, ts_52⟩ (ci := 11) rfl e18 t19 (FX12_pop_ok o17) xPZ_q (by decide) (by decide) rfl rfl ?_)
    obtain ⟨z21, hF⟩ := bz_inv hF
    exact xe_ireturn dX12_works_197 (xPZ_ret z21 hF)
  replace hF := if_n c14 hF
  refine xs_case (j := 17) (tgt := 198) dX12_works_18 (by decide) (by decide) rfl (by decide) (fun c22 => ?_) (fun c22 => ?_)
  · replace hF := if_p c22 hF
    refine xe_iload_n dX12_works_198 rfl rfl ?_
    refine xe_bipush (v := 11) dX12_works_199 (by decide) ?_
    refine xe_icmp_eq (tgt := 223) dX12_works_201 (by decide) (fun c23 => ?_) (fun c23 => ?_)
    · replace hF := if_p c23 hF
      exact xv.lv (BX12_works_223_ok hF) (xsub_cons rfl (xsub_cons rfl xsub_nil))
    · replace hF := if_n c23 hF
      refine xe_aload_n dX12_works_204 rfl rfl ?_
      refine xe_iload_n dX12_works_205 rfl rfl ?_
      refine xe_bipush (v := 8) dX12_works_206 (by decide) ?_
      refine xe_icmp_ge (tgt := 216) dX12_works_208 (by decide) (fun c24 => ?_) (fun c24 => ?_)
      · replace hF := if_p c24 hF
        refine xe_iload dX12_works_211 rfl ?_
        refine xe_goto (tgt := 217) dX12_works_213 (by decide) ?_
        exact xv.lv (BX12_works_217_ok hF) (xsub_cons rfl (xsub_cons rfl xsub_nil))
      · replace hF := if_n c24 hF
        refine xe_iconst (v := 0) dX12_works_216 (by decide) ?_
        exact xv.lv (BX12_works_217_ok hF) (xsub_cons rfl (xsub_cons rfl xsub_nil))
  replace hF := if_n c22 hF
  refine xs_case (j := 18) (tgt := 260) dX12_works_18 (by decide) (by decide) rfl (by decide) (fun c25 => ?_) (fun c25 => ?_)
  · replace hF := if_p c25 hF
    refine xe_aload_n dX12_works_260 rfl rfl ?_
    refine xe_iload_n dX12_works_261 rfl rfl ?_
    refine xe_iconst (v := 3) dX12_works_262 (by decide) ?_
    refine xe_icmp_ne (tgt := 270) dX12_works_263 (by decide) (fun c26 => ?_) (fun c26 => ?_)
    · replace hF := if_p c26 hF
      refine xe_iconst (v := 1) dX12_works_266 (by decide) ?_
      refine xe_goto (tgt := 271) dX12_works_267 (by decide) ?_
      exact xv.lv (BX12_works_271_ok hF) (xsub_cons rfl (xsub_cons rfl xsub_nil))
    · replace hF := if_n c26 hF
      refine xe_iconst (v := 0) dX12_works_270 (by decide) ?_
      exact xv.lv (BX12_works_271_ok hF) (xsub_cons rfl (xsub_cons rfl xsub_nil))
  replace hF := if_n c25 hF
  refine xs_case (j := 19) (tgt := 293) dX12_works_18 (by decide) (by decide) rfl (by decide) (fun c27 => ?_) (fun c27 => ?_)
  · replace hF := if_p c27 hF
    refine xe_iload_n dX12_works_293 rfl rfl ?_
    refine xe_if_ne (tgt := 301) dX12_works_294 (by decide) (fun c28 => ?_) (fun c28 => ?_)
    · replace hF := if_p c28 hF
      refine xe_iconst (v := 1) dX12_works_297 (by decide) ?_
      refine xe_goto (tgt := 311) dX12_works_298 (by decide) ?_
      exact xv.lv (BX12_works_311_ok hF) (xsub_cons rfl xsub_nil)
    · replace hF := if_n c28 hF
      refine xe_iload_n dX12_works_301 rfl rfl ?_
      refine xe_iconst (v := 3) dX12_works_302 (by decide) ?_
      refine xe_icmp_ge (tgt := 310) dX12_works_303 (by decide) (fun c29 => ?_) (fun c29 => ?_)
      · replace hF := if_p c29 hF
        refine xe_iconst (v := 2) dX12_works_306 (by decide) ?_
        refine xe_goto (tgt := 311) dX12_works_307 (by decide) ?_
        exact xv.lv (BX12_works_311_ok hF) (xsub_cons rfl xsub_nil)
      · replace hF := if_n c29 hF
        refine xe_iconst (v := 3) dX12_works_310 (by decide) ?_
        exact xv.lv (BX12_works_311_ok hF) (xsub_cons rfl xsub_nil)
  replace hF := if_n c27 hF
  refine xs_case (j := 21) (tgt := 346) dX12_works_18 (by decide) (by decide) rfl (by decide) (fun c30 => ?_) (fun c30 => ?_)
  · replace hF := if_p c30 hF
    exact xv.lv (BX12_works_346_ok hF) (xsub_cons rfl xsub_nil)
  replace hF := if_n c30 hF
  refine xs_case (j := 22) (tgt := 352) dX12_works_18 (by decide) (by decide) rfl (by decide) (fun c31 => ?_) (fun c31 => ?_)
  · replace hF := if_p c31 hF
    exact xv.lv (BX12_works_352_ok hF) (xsub_cons rfl xsub_nil)
  replace hF := if_n c31 hF
  refine xs_case (j := 23) (tgt := 346) dX12_works_18 (by decide) (by decide) rfl (by decide) (fun c32 => ?_) (fun c32 => ?_)
  · replace hF := if_p c32 hF
    exact xv.lv (BX12_works_346_ok hF) (xsub_cons rfl xsub_nil)
  replace hF := if_n c32 hF
  refine xs_case (j := 24) (tgt := 358) dX12_works_18 (by decide) (by decide) rfl (by decide) (fun c33 => ?_) (fun c33 => ?_)
  · replace hF := if_p c33 hF
    refine xe_iconst (v := 0) dX12_works_358 (by decide) ?_
    refine xe_istore dX12_works_359 (by decide) ?_
    exact xv.lv (BX12_works_361_ok _ hF) (xsub_cons rfl (xsub_cons rfl (xsub_cons rfl (xsub_cons rfl xsub_nil))))
  replace hF := if_n c33 hF
  refine xs_case (j := 25) (tgt := 394) dX12_works_18 (by decide) (by decide) rfl (by decide) (fun c34 => ?_) (fun c34 => ?_)
  · replace hF := if_p c34 hF
    refine xe_aload_n dX12_works_394 rfl rfl ?_
    refine xe_iconst (v := 0) dX12_works_395 (by decide) ?_
    obtain ⟨a40, e38, t39, hF⟩ := rcv_inv hF
    obtain ⟨v35, h36, o37, hF⟩ := cl_inv hF
    refine xz (xq_callV (As := [.int _]) (rest := []) dX12_works_396 mk_X12_pop ⟨tw_1293, tw_1295, ts_52⟩ (ci := 11) rfl e38 t39 (FX12_pop_ok o37) xPZ_q (by decide) (by decide) rfl rfl ?_)
    refine xe_if_eq (tgt := 414) dX12_works_399 (by decide) (fun c41 => ?_) (fun c41 => ?_)
    · replace hF := if_p c41 hF
      exact xv.lv (BX12_works_414_ok hF) (xsub_cons rfl (xsub_cons rfl xsub_nil))
    · replace hF := if_n c41 hF
      refine xe_aload_n dX12_works_402 rfl rfl ?_
      refine xe_iconst (v := 4) dX12_works_403 (by decide) ?_
      obtain ⟨a47, e45, t46, hF⟩ := rcv_inv hF
      obtain ⟨v42, h43, o44, hF⟩ := cl_inv hF
      refine xz (xq_callV (As := [.int _]) (rest := []) dX12_works_404 mk_X12_pop ⟨tw_1293, tw_1295, ts_52⟩ (ci := 11) rfl e45 t46 (FX12_pop_ok o44) xPZ_q (by decide) (by decide) rfl rfl ?_)
      refine xe_if_eq (tgt := 414) dX12_works_407 (by decide) (fun c48 => ?_) (fun c48 => ?_)
      · replace hF := if_p c48 hF
        exact xv.lv (BX12_works_414_ok hF) (xsub_cons rfl (xsub_cons rfl xsub_nil))
      · replace hF := if_n c48 hF
        refine xe_iconst (v := 1) dX12_works_410 (by decide) ?_
        refine xe_goto (tgt := 415) dX12_works_411 (by decide) ?_
        exact xv.lv (BX12_works_415_ok hF) (xsub_cons rfl (xsub_cons rfl xsub_nil))
  replace hF := if_n c34 hF
  refine xs_case (j := 26) (tgt := 426) dX12_works_18 (by decide) (by decide) rfl (by decide) (fun c49 => ?_) (fun c49 => ?_)
  · replace hF := if_p c49 hF
    refine xe_aload_n dX12_works_426 rfl rfl ?_
    refine xe_iload dX12_works_427 rfl ?_
    obtain ⟨a55, e53, t54, hF⟩ := rcv_inv hF
    obtain ⟨v50, h51, o52, hF⟩ := cl_inv hF
    refine xz (xq_callV (As := [.int _]) (rest := []) dX12_works_429 mk_X12_pop ⟨tw_1293, tw_1295, ts_52⟩ (ci := 11) rfl e53 t54 (FX12_pop_ok o52) xPZ_q (by decide) (by decide) rfl rfl ?_)
    refine xe_if_eq (tgt := 455) dX12_works_432 (by decide) (fun c56 => ?_) (fun c56 => ?_)
    · replace hF := if_p c56 hF
      refine xe_iconst (v := 0) dX12_works_455 (by decide) ?_
      obtain ⟨z57, hF⟩ := bz_inv hF
      exact xe_ireturn dX12_works_456 (xPZ_ret z57 hF)
    · replace hF := if_n c56 hF
      refine xe_aload_n dX12_works_435 rfl rfl ?_
      refine xe_iconst (v := 0) dX12_works_436 (by decide) ?_
      obtain ⟨a63, e61, t62, hF⟩ := rcv_inv hF
      obtain ⟨v58, h59, o60, hF⟩ := cl_inv hF
      refine xz (xq_callV (As := [.int _]) (rest := []) dX12_works_437 mk_X12_pop ⟨tw_1293, tw_1295, ts_52⟩ (ci := 11) rfl e61 t62 (FX12_pop_ok o60) xPZ_q (by decide) (by decide) rfl rfl ?_)
      refine xe_if_eq (tgt := 455) dX12_works_440 (by decide) (fun c64 => ?_) (fun c64 => ?_)
      · replace hF := if_p c64 hF
        refine xe_iconst (v := 0) dX12_works_455 (by decide) ?_
        obtain ⟨z65, hF⟩ := bz_inv hF
        exact xe_ireturn dX12_works_456 (xPZ_ret z65 hF)
      · replace hF := if_n c64 hF
        refine xe_aload_n dX12_works_443 rfl rfl ?_
        refine xe_iconst (v := 4) dX12_works_444 (by decide) ?_
        obtain ⟨a71, e69, t70, hF⟩ := rcv_inv hF
        obtain ⟨v66, h67, o68, hF⟩ := cl_inv hF
        refine xz (xq_callV (As := [.int _]) (rest := []) dX12_works_445 mk_X12_pop ⟨tw_1293, tw_1295, ts_52⟩ (ci := 11) rfl e69 t70 (FX12_pop_ok o68) xPZ_q (by decide) (by decide) rfl rfl ?_)
        refine xe_if_eq (tgt := 455) dX12_works_448 (by decide) (fun c72 => ?_) (fun c72 => ?_)
        · replace hF := if_p c72 hF
          refine xe_iconst (v := 0) dX12_works_455 (by decide) ?_
          obtain ⟨z73, hF⟩ := bz_inv hF
          exact xe_ireturn dX12_works_456 (xPZ_ret z73 hF)
        · replace hF := if_n c72 hF
          refine xe_iconst (v := 1) dX12_works_451 (by decide) ?_
          refine xe_goto (tgt := 456) dX12_works_452 (by decide) ?_
          obtain ⟨z74, hF⟩ := bz_inv hF
          exact xe_ireturn dX12_works_456 (xPZ_ret z74 hF)
  replace hF := if_n c49 hF
  refine xs_case (j := 27) (tgt := 457) dX12_works_18 (by decide) (by decide) rfl (by decide) (fun c75 => ?_) (fun c75 => ?_)
  · replace hF := if_p c75 hF
    exact xv.lv (BX12_works_457_ok hF) (xsub_cons rfl xsub_nil)
  replace hF := if_n c75 hF
  refine xs_case (j := 28) (tgt := 457) dX12_works_18 (by decide) (by decide) rfl (by decide) (fun c76 => ?_) (fun c76 => ?_)
  · replace hF := if_p c76 hF
    exact xv.lv (BX12_works_457_ok hF) (xsub_cons rfl xsub_nil)
  replace hF := if_n c76 hF
  refine xs_case (j := 29) (tgt := 472) dX12_works_18 (by decide) (by decide) rfl (by decide) (fun c77 => ?_) (fun c77 => ?_)
  · replace hF := if_p c77 hF
    refine xe_aload_n dX12_works_472 rfl rfl ?_
    refine xe_iconst (v := 4) dX12_works_473 (by decide) ?_
    obtain ⟨a83, e81, t82, hF⟩ := rcv_inv hF
    obtain ⟨v78, h79, o80, hF⟩ := cl_inv hF
    refine xz (xq_callV (As := [.int _]) (rest := []) dX12_works_474 mk_X12_pop ⟨tw_1293, tw_1295, ts_52⟩ (ci := 11) rfl e81 t82 (FX12_pop_ok o80) xPZ_q (by decide) (by decide) rfl rfl ?_)
    refine xe_istore dX12_works_477 (by decide) ?_
    refine xe_aload_n dX12_works_479 rfl rfl ?_
    refine xe_iconst (v := 4) dX12_works_480 (by decide) ?_
    obtain ⟨a89, e87, t88, hF⟩ := rcv_inv hF
    obtain ⟨v84, h85, o86, hF⟩ := cl_inv hF
    refine xz (xq_callV (As := [.int _]) (rest := []) dX12_works_481 mk_X12_push ⟨tw_1289, tw_1291, ts_51⟩ (ci := 11) rfl e87 t88 (FX12_push_ok o86) xP_q (by decide) (by decide) rfl rfl ?_)
    refine xe_iload dX12_works_484 rfl ?_
    obtain ⟨z90, hF⟩ := bz_inv hF
    exact xe_ireturn dX12_works_486 (xPZ_ret z90 hF)
  replace hF := if_n c77 hF
  refine xs_case (j := 30) (tgt := 487) dX12_works_18 (by decide) (by decide) rfl (by decide) (fun c91 => ?_) (fun c91 => ?_)
  · replace hF := if_p c91 hF
    refine xe_aload_n dX12_works_487 rfl rfl ?_
    refine xe_iconst (v := 4) dX12_works_488 (by decide) ?_
    obtain ⟨a97, e95, t96, hF⟩ := rcv_inv hF
    obtain ⟨v92, h93, o94, hF⟩ := cl_inv hF
    refine xz (xq_callV (As := [.int _]) (rest := []) dX12_works_489 mk_X12_push ⟨tw_1289, tw_1291, ts_51⟩ (ci := 11) rfl e95 t96 (FX12_push_ok o94) xP_q (by decide) (by decide) rfl rfl ?_)
    refine xe_iconst (v := 1) dX12_works_492 (by decide) ?_
    obtain ⟨z98, hF⟩ := bz_inv hF
    exact xe_ireturn dX12_works_493 (xPZ_ret z98 hF)
  replace hF := if_n c91 hF
  refine xs_case (j := 31) (tgt := 352) dX12_works_18 (by decide) (by decide) rfl (by decide) (fun c99 => ?_) (fun c99 => ?_)
  · replace hF := if_p c99 hF
    exact xv.lv (BX12_works_352_ok hF) (xsub_cons rfl xsub_nil)
  replace hF := if_n c99 hF
  refine xs_case (j := 32) (tgt := 352) dX12_works_18 (by decide) (by decide) rfl (by decide) (fun c100 => ?_) (fun c100 => ?_)
  · replace hF := if_p c100 hF
    exact xv.lv (BX12_works_352_ok hF) (xsub_cons rfl xsub_nil)
  replace hF := if_n c100 hF
  refine xs_case (j := 33) (tgt := 352) dX12_works_18 (by decide) (by decide) rfl (by decide) (fun c101 => ?_) (fun c101 => ?_)
  · replace hF := if_p c101 hF
    exact xv.lv (BX12_works_352_ok hF) (xsub_cons rfl xsub_nil)
  replace hF := if_n c101 hF
  refine xs_case (j := 34) (tgt := 494) dX12_works_18 (by decide) (by decide) rfl (by decide) (fun c102 => ?_) (fun c102 => ?_)
  · replace hF := if_p c102 hF
    refine xe_iload_n dX12_works_494 rfl rfl ?_
    refine xe_iconst (v := 5) dX12_works_495 (by decide) ?_
    refine xe_icmp_eq (tgt := 507) dX12_works_496 (by decide) (fun c103 => ?_) (fun c103 => ?_)
    · replace hF := if_p c103 hF
      refine xe_iconst (v := 1) dX12_works_507 (by decide) ?_
      refine xe_goto (tgt := 512) dX12_works_508 (by decide) ?_
      obtain ⟨z104, hF⟩ := bz_inv hF
      exact xe_ireturn dX12_works_512 (xPZ_ret z104 hF)
    · replace hF := if_n c103 hF
      refine xe_aload_n dX12_works_499 rfl rfl ?_
      refine xe_iload_n dX12_works_500 rfl rfl ?_
      obtain ⟨a110, e108, t109, hF⟩ := rcv_inv hF
      obtain ⟨v105, h106, o107, hF⟩ := cl_inv hF
      refine xz (xq_callV (As := [.int _]) (rest := []) dX12_works_501 mk_X12_pop ⟨tw_1293, tw_1295, ts_52⟩ (ci := 11) rfl e108 t109 (FX12_pop_ok o107) xPZ_q (by decide) (by decide) rfl rfl ?_)
      refine xe_if_eq (tgt := 511) dX12_works_504 (by decide) (fun c111 => ?_) (fun c111 => ?_)
      · replace hF := if_p c111 hF
        refine xe_iconst (v := 0) dX12_works_511 (by decide) ?_
        obtain ⟨z112, hF⟩ := bz_inv hF
        exact xe_ireturn dX12_works_512 (xPZ_ret z112 hF)
      · replace hF := if_n c111 hF
        refine xe_iconst (v := 1) dX12_works_507 (by decide) ?_
        refine xe_goto (tgt := 512) dX12_works_508 (by decide) ?_
        obtain ⟨z113, hF⟩ := bz_inv hF
        exact xe_ireturn dX12_works_512 (xPZ_ret z113 hF)
  replace hF := if_n c102 hF
  refine xs_case (j := 35) (tgt := 513) dX12_works_18 (by decide) (by decide) rfl (by decide) (fun c114 => ?_) (fun c114 => ?_)
  · replace hF := if_p c114 hF
    refine xe_aload_n dX12_works_513 rfl rfl ?_
    obtain ⟨a116, e117, t118, hF⟩ := gR_inv hF
    refine xq_getR dX12_works_514 fl_SeldomOpsModel_13 xk_11 e117 t118 rfl ?_
    refine xe_iload_n dX12_works_517 rfl rfl ?_
    obtain ⟨a120, n121, e122, t123, b124, hF⟩ := aI_inv hF
    refine xq_iald dX12_works_518 e122 t123 b124 ?_
    refine xe_iconst (v := 1) dX12_works_519 (by decide) ?_
    refine xe_isub dX12_works_520 ?_
    refine xe_istore dX12_works_521 (by decide) ?_
    exact xv.lv (BX12_works_523_ok _ hF) (xsub_cons rfl (xsub_cons rfl (xsub_cons rfl (xsub_cons rfl xsub_nil))))
  replace hF := if_n c114 hF
  refine xs_rest (tgt := 580) [0, 1, 2, 3, 4, 5, 6, 17, 18, 19, 21, 22, 23, 24, 25, 26, 27, 28, 29, 30, 31, 32, 33, 34, 35] dX12_works_18 (by decide) (List.forall_mem_cons.mpr ⟨c1, List.forall_mem_cons.mpr ⟨c2, List.forall_mem_cons.mpr ⟨c3, List.forall_mem_cons.mpr ⟨c4, List.forall_mem_cons.mpr ⟨c5, List.forall_mem_cons.mpr ⟨c6, List.forall_mem_cons.mpr ⟨c14, List.forall_mem_cons.mpr ⟨c22, List.forall_mem_cons.mpr ⟨c25, List.forall_mem_cons.mpr ⟨c27, List.forall_mem_cons.mpr ⟨c30, List.forall_mem_cons.mpr ⟨c31, List.forall_mem_cons.mpr ⟨c32, List.forall_mem_cons.mpr ⟨c33, List.forall_mem_cons.mpr ⟨c34, List.forall_mem_cons.mpr ⟨c49, List.forall_mem_cons.mpr ⟨c75, List.forall_mem_cons.mpr ⟨c76, List.forall_mem_cons.mpr ⟨c77, List.forall_mem_cons.mpr ⟨c91, List.forall_mem_cons.mpr ⟨c99, List.forall_mem_cons.mpr ⟨c100, List.forall_mem_cons.mpr ⟨c101, List.forall_mem_cons.mpr ⟨c102, List.forall_mem_cons.mpr ⟨c114, fun _ h => by cases h⟩⟩⟩⟩⟩⟩⟩⟩⟩⟩⟩⟩⟩⟩⟩⟩⟩⟩⟩⟩⟩⟩⟩⟩⟩) (by decide) ?_
  refine xe_iconst (v := 1) dX12_works_580 (by decide) ?_
  obtain ⟨z125, hF⟩ := bz_inv hF
  exact xe_ireturn dX12_works_581 (xPZ_ret z125 hF)
def FX12_works (p0 : Option Nat) (p1 : Int32) (p2 : Int32) (p3 : Int32) (p4 : Int32) (h0 : Hp) : Option (Int32 × Hp) :=
  if (p4 : Int32) < 5 then
    BX12_works_15 p0 p2 p3 p4 1 p4 h0
  else
    BX12_works_15 p0 p2 p3 p4 1 0 h0
set_option maxRecDepth 100000 in
set_option maxHeartbeats 4000000 in
theorem FX12_works_ok {G : xG} {l : Launch} {p0 : Option Nat} {p1 : Int32} {p2 : Int32} {p3 : Int32} {p4 : Int32} {h0 h1 : Hp} {r : Int32} (hF : FX12_works p0 p1 p2 p3 p4 h0 = some (r, h1)) : xc G l mX12_works 3 0 0 [va_rf p0, .int p1, .int p2, .int p3, .int p4] h0 (xPZ r h1) := by
  refine xo_Z [.inr (.inr _), .inl _, .inl _, .inl _, .inl _] (by decide) (Nat.le_of_ble_eq_true rfl) rfl ?_
  show xv _ _ _ _ _ _ _ [(0, false, va_rf p0), (1, false, .int p1), (2, false, .int p2), (3, false, .int p3), (4, false, .int p4)] _ _ _
  unfold FX12_works at hF
  refine xe_iconst (v := 1) dX12_works_0 (by decide) ?_
  refine xe_istore dX12_works_1 (by decide) ?_
  refine xe_iload dX12_works_3 rfl ?_
  refine xe_iconst (v := 5) dX12_works_5 (by decide) ?_
  refine xe_icmp_lt (tgt := 13) dX12_works_6 (by decide) (fun c1 => ?_) (fun c1 => ?_)
  · replace hF := if_p c1 hF
    refine xe_iload dX12_works_13 rfl ?_
    exact xv.lv (BX12_works_15_ok hF) (xsub_cons rfl (xsub_cons rfl (xsub_cons rfl (xsub_cons rfl (xsub_cons rfl xsub_nil)))))
  · replace hF := if_n c1 hF
    refine xe_iconst (v := 0) dX12_works_9 (by decide) ?_
    refine xe_goto (tgt := 15) dX12_works_10 (by decide) ?_
    exact xv.lv (BX12_works_15_ok hF) (xsub_cons rfl (xsub_cons rfl (xsub_cons rfl (xsub_cons rfl (xsub_cons rfl xsub_nil)))))
/-! SeldomOpsModel.done(II)I -/
def BX12_done_121 (x0 : Option Nat) (x1 : Int32) (x2 : Int32) (h0 : Hp) : Option (Int32 × Hp) :=
  rcv h0 x0 11 <|
  cl (FX12_wrong x0 x1 x2 3 h0) fun v1 h2 =>
  some (v1, h2)
set_option maxRecDepth 100000 in
set_option maxHeartbeats 4000000 in
theorem BX12_done_121_ok {G : xG} {l : Launch} {x0 : Option Nat} {x1 : Int32} {x2 : Int32} {h0 h1 : Hp} {r : Int32} (hF : BX12_done_121 x0 x1 x2 h0 = some (r, h1)) : xv G l mX12_done 4 0 0 121 [(0, false, va_rf x0), (1, false, .int x1), (2, false, .int x2)] [] h0 (xP mkI r h1) := by
  unfold BX12_done_121 at hF
  refine xe_aload_n dX12_done_121 rfl rfl ?_
  refine xe_iload_n dX12_done_122 rfl rfl ?_
  refine xe_iload_n dX12_done_123 rfl rfl ?_
  refine xe_iconst (v := 3) dX12_done_124 (by decide) ?_
  obtain ⟨a6, e4, t5, hF⟩ := rcv_inv hF
  obtain ⟨v1, h2, o3, hF⟩ := cl_inv hF
  refine xz (xq_callV (As := [.int _, .int _, .int _]) (rest := []) dX12_done_125 mk_X12_wrong ⟨tw_1231, tw_1233, ts_39⟩ (ci := 11) rfl e4 t5 (FX12_wrong_ok o3) xP_q (by decide) (by decide) rfl rfl ?_)
  exact xe_ireturn dX12_done_128 (xP_ret (mk := mkI) hF)
def BX12_done_163 (x0 : Option Nat) (x1 : Int32) (x2 : Int32) (h0 : Hp) : Option (Int32 × Hp) :=
  rcv h0 x0 11 <|
  cl (FX12_wrong x0 x1 x2 5 h0) fun v1 h2 =>
  some (v1, h2)
set_option maxRecDepth 100000 in
set_option maxHeartbeats 4000000 in
theorem BX12_done_163_ok {G : xG} {l : Launch} {x0 : Option Nat} {x1 : Int32} {x2 : Int32} {h0 h1 : Hp} {r : Int32} (hF : BX12_done_163 x0 x1 x2 h0 = some (r, h1)) : xv G l mX12_done 4 0 0 163 [(0, false, va_rf x0), (1, false, .int x1), (2, false, .int x2)] [] h0 (xP mkI r h1) := by
  unfold BX12_done_163 at hF
  refine xe_aload_n dX12_done_163 rfl rfl ?_
  refine xe_iload_n dX12_done_164 rfl rfl ?_
  refine xe_iload_n dX12_done_165 rfl rfl ?_
  refine xe_iconst (v := 5) dX12_done_166 (by decide) ?_
  obtain ⟨a6, e4, t5, hF⟩ := rcv_inv hF
  obtain ⟨v1, h2, o3, hF⟩ := cl_inv hF
  refine xz (xq_callV (As := [.int _, .int _, .int _]) (rest := []) dX12_done_167 mk_X12_wrong ⟨tw_1231, tw_1233, ts_39⟩ (ci := 11) rfl e4 t5 (FX12_wrong_ok o3) xP_q (by decide) (by decide) rfl rfl ?_)
  exact xe_ireturn dX12_done_170 (xP_ret (mk := mkI) hF)
def BX12_done_290 (x0 : Option Nat) (x1 : Int32) (x2 : Int32) (x4 : Int32) (x5 : Int32) (x7 : Int32) (h0 : Hp) : Option (Int32 × Hp) :=
  rcv h0 x0 11 <|
  cl (FX12_keep x0 h0) fun v1 h2 =>
  rcv h2 x0 11 <|
  cl (FX12_sendOn x0 x1 x2 x4 x5 x7 h2) fun v7 h8 =>
  some (v7, h8)
set_option maxRecDepth 100000 in
set_option maxHeartbeats 4000000 in
theorem BX12_done_290_ok {G : xG} {l : Launch} {x0 : Option Nat} {x1 : Int32} {x2 : Int32} {x4 : Int32} {x5 : Int32} {x7 : Int32} {h0 h1 : Hp} {r : Int32} (hF : BX12_done_290 x0 x1 x2 x4 x5 x7 h0 = some (r, h1)) : xv G l mX12_done 4 0 0 290 [(0, false, va_rf x0), (1, false, .int x1), (2, false, .int x2), (4, false, .int x4), (5, false, .int x5), (7, false, .int x7)] [] h0 (xP mkI r h1) := by
  unfold BX12_done_290 at hF
  refine xe_aload_n dX12_done_290 rfl rfl ?_
  obtain ⟨a6, e4, t5, hF⟩ := rcv_inv hF
  obtain ⟨v1, h2, o3, hF⟩ := cl_inv hF
  refine xz (xq_callV (As := []) (rest := []) dX12_done_291 mk_X12_keep ⟨tw_1301, tw_1303, ts_54⟩ (ci := 11) rfl e4 t5 (FX12_keep_ok o3) xP_q (by decide) (by decide) rfl rfl ?_)
  refine xe_aload_n dX12_done_294 rfl rfl ?_
  refine xe_iload_n dX12_done_295 rfl rfl ?_
  refine xe_iload_n dX12_done_296 rfl rfl ?_
  refine xe_iload dX12_done_297 rfl ?_
  refine xe_iload dX12_done_299 rfl ?_
  refine xe_iload dX12_done_301 rfl ?_
  obtain ⟨a12, e10, t11, hF⟩ := rcv_inv hF
  obtain ⟨v7, h8, o9, hF⟩ := cl_inv hF
  refine xz (xq_callV (As := [.int _, .int _, .int _, .int _, .int _]) (rest := []) dX12_done_303 mk_X12_sendOn ⟨tw_1305, tw_1307, ts_55⟩ (ci := 11) rfl e10 t11 (FX12_sendOn_ok o9) xP_q (by decide) (by decide) rfl rfl ?_)
  exact xe_ireturn dX12_done_306 (xP_ret (mk := mkI) hF)
def BX12_done_275 (x0 : Option Nat) (x1 : Int32) (x2 : Int32) (x4 : Int32) (x5 : Int32) (x6 : Int32) (x7 : Int32) (h0 : Hp) : Option (Int32 × Hp) :=
  if (x4 : Int32) = 6 then
    rcv h0 x0 11 <|
    cl (FX12_store x0 x5 x6 h0) fun v2 h3 =>
    BX12_done_290 x0 x1 x2 x4 x5 x7 h3
  else
    BX12_done_290 x0 x1 x2 x4 x5 x7 h0
set_option maxRecDepth 100000 in
set_option maxHeartbeats 4000000 in
theorem BX12_done_275_ok {G : xG} {l : Launch} {x0 : Option Nat} {x1 : Int32} {x2 : Int32} {x4 : Int32} {x5 : Int32} {x6 : Int32} {x7 : Int32} {h0 h1 : Hp} {r : Int32} (hF : BX12_done_275 x0 x1 x2 x4 x5 x6 x7 h0 = some (r, h1)) : xv G l mX12_done 4 0 0 275 [(0, false, va_rf x0), (1, false, .int x1), (2, false, .int x2), (4, false, .int x4), (5, false, .int x5), (6, false, .int x6), (7, false, .int x7)] [] h0 (xP mkI r h1) := by
  unfold BX12_done_275 at hF
  refine xe_iload dX12_done_275 rfl ?_
  refine xe_bipush (v := 6) dX12_done_277 (by decide) ?_
  refine xe_icmp_ne (tgt := 290) dX12_done_279 (by decide) (fun c1 => ?_) (fun c1 => ?_)
  · replace hF := if_p c1 hF
    refine xe_aload_n dX12_done_282 rfl rfl ?_
    refine xe_iload dX12_done_283 rfl ?_
    refine xe_iload dX12_done_285 rfl ?_
    obtain ⟨a7, e5, t6, hF⟩ := rcv_inv hF
    obtain ⟨v2, h3, o4, hF⟩ := cl_inv hF
    refine xz (xq_callV (As := [.int _, .int _]) (rest := []) dX12_done_287 mk_X12_store ⟨tw_1235, tw_1237, ts_40⟩ (ci := 11) rfl e5 t6 (FX12_store_ok o4) xP_q (by decide) (by decide) rfl rfl ?_)
    exact xv.lv (BX12_done_290_ok hF) (xsub_cons rfl (xsub_cons rfl (xsub_cons rfl (xsub_cons rfl (xsub_cons rfl (xsub_cons rfl xsub_nil))))))
  · replace hF := if_n c1 hF
    exact xv.lv (BX12_done_290_ok hF) (xsub_cons rfl (xsub_cons rfl (xsub_cons rfl (xsub_cons rfl (xsub_cons rfl (xsub_cons rfl xsub_nil))))))
def BX12_done_248 (x0 : Option Nat) (x1 : Int32) (x2 : Int32) (x4 : Int32) (x5 : Int32) (x6 : Int32) (s0 : Int32) (h0 : Hp) : Option (Int32 × Hp) :=
  if (s0 : Int32) = 0 then
    BX12_done_275 x0 x1 x2 x4 x5 x6 s0 h0
  else
    gR h0 x0 11 5 fun v2 =>
    aI h0 v2 .int x1 fun v6 =>
    if ((x2 + 1) : Int32) = v6 then
      rcv h0 x0 11 <|
      cl (FX12_wrong x0 x1 x2 1 h0) fun v13 h14 =>
      some (v13, h14)
    else
      BX12_done_275 x0 x1 x2 x4 x5 x6 s0 h0
set_option maxRecDepth 100000 in
set_option maxHeartbeats 4000000 in
theorem BX12_done_248_ok {G : xG} {l : Launch} {x0 : Option Nat} {x1 : Int32} {x2 : Int32} {x4 : Int32} {x5 : Int32} {x6 : Int32} {s0 : Int32} {h0 h1 : Hp} {r : Int32} (hF : BX12_done_248 x0 x1 x2 x4 x5 x6 s0 h0 = some (r, h1)) : xv G l mX12_done 4 0 0 248 [(0, false, va_rf x0), (1, false, .int x1), (2, false, .int x2), (4, false, .int x4), (5, false, .int x5), (6, false, .int x6)] [.int s0] h0 (xP mkI r h1) := by
  unfold BX12_done_248 at hF
  refine xe_istore dX12_done_248 (by decide) ?_
  refine xe_iload dX12_done_250 rfl ?_
  refine xe_if_eq (tgt := 275) dX12_done_252 (by decide) (fun c1 => ?_) (fun c1 => ?_)
  · replace hF := if_p c1 hF
    exact xv.lv (BX12_done_275_ok hF) (xsub_cons rfl (xsub_cons rfl (xsub_cons rfl (xsub_cons rfl (xsub_cons rfl (xsub_cons rfl (xsub_cons rfl xsub_nil)))))))
  · replace hF := if_n c1 hF
    refine xe_iload_n dX12_done_255 rfl rfl ?_
    refine xe_iconst (v := 1) dX12_done_256 (by decide) ?_
    refine xe_iadd dX12_done_257 ?_
    refine xe_aload_n dX12_done_258 rfl rfl ?_
    obtain ⟨a3, e4, t5, hF⟩ := gR_inv hF
    refine xq_getR dX12_done_259 fl_SeldomOpsModel_22 xk_11 e4 t5 rfl ?_
    refine xe_iload_n dX12_done_262 rfl rfl ?_
    obtain ⟨a7, n8, e9, t10, b11, hF⟩ := aI_inv hF
    refine xq_iald dX12_done_263 e9 t10 b11 ?_
    refine xe_icmp_ne (tgt := 275) dX12_done_264 (by decide) (fun c12 => ?_) (fun c12 => ?_)
    · replace hF := if_p c12 hF
      refine xe_aload_n dX12_done_267 rfl rfl ?_
      refine xe_iload_n dX12_done_268 rfl rfl ?_
      refine xe_iload_n dX12_done_269 rfl rfl ?_
      refine xe_iconst (v := 1) dX12_done_270 (by decide) ?_
      obtain ⟨a18, e16, t17, hF⟩ := rcv_inv hF
      obtain ⟨v13, h14, o15, hF⟩ := cl_inv hF
      refine xz (xq_callV (As := [.int _, .int _, .int _]) (rest := []) dX12_done_271 mk_X12_wrong ⟨tw_1231, tw_1233, ts_39⟩ (ci := 11) rfl e16 t17 (FX12_wrong_ok o15) xP_q (by decide) (by decide) rfl rfl ?_)
      exact xe_ireturn dX12_done_274 (xP_ret (mk := mkI) hF)
    · replace hF := if_n c12 hF
      exact xv.lv (BX12_done_275_ok hF) (xsub_cons rfl (xsub_cons rfl (xsub_cons rfl (xsub_cons rfl (xsub_cons rfl (xsub_cons rfl (xsub_cons rfl xsub_nil)))))))
def BX12_done_247 (x0 : Option Nat) (x1 : Int32) (x2 : Int32) (x4 : Int32) (x5 : Int32) (x6 : Int32) (h0 : Hp) : Option (Int32 × Hp) :=
  BX12_done_248 x0 x1 x2 x4 x5 x6 0 h0
set_option maxRecDepth 100000 in
set_option maxHeartbeats 4000000 in
theorem BX12_done_247_ok {G : xG} {l : Launch} {x0 : Option Nat} {x1 : Int32} {x2 : Int32} {x4 : Int32} {x5 : Int32} {x6 : Int32} {h0 h1 : Hp} {r : Int32} (hF : BX12_done_247 x0 x1 x2 x4 x5 x6 h0 = some (r, h1)) : xv G l mX12_done 4 0 0 247 [(0, false, va_rf x0), (1, false, .int x1), (2, false, .int x2), (4, false, .int x4), (5, false, .int x5), (6, false, .int x6)] [] h0 (xP mkI r h1) := by
  unfold BX12_done_247 at hF
  refine xe_iconst (v := 0) dX12_done_247 (by decide) ?_
  exact xv.lv (BX12_done_248_ok hF) (xsub_cons rfl (xsub_cons rfl (xsub_cons rfl (xsub_cons rfl (xsub_cons rfl (xsub_cons rfl xsub_nil))))))
def BX12_done_198 (x0 : Option Nat) (x1 : Int32) (x2 : Int32) (x4 : Int32) (x5 : Int32) (x6 : Int32) (h0 : Hp) : Option (Int32 × Hp) :=
  gI h0 x0 11 29 fun v1 =>
  if (12 : Int32) < v1 then
    rcv h0 x0 11 <|
    cl (FX12_wrong x0 x1 x2 4 h0) fun v6 h7 =>
    some (v6, h7)
  else
    if (x4 : Int32) = 20 then
      BX12_done_247 x0 x1 x2 x4 x5 x6 h0
    else
      if (x4 : Int32) = 23 then
        BX12_done_247 x0 x1 x2 x4 x5 x6 h0
      else
        if (x4 : Int32) = 31 then
          BX12_done_247 x0 x1 x2 x4 x5 x6 h0
        else
          if (x4 : Int32) = 34 then
            BX12_done_247 x0 x1 x2 x4 x5 x6 h0
          else
            BX12_done_248 x0 x1 x2 x4 x5 x6 1 h0
set_option maxRecDepth 100000 in
set_option maxHeartbeats 4000000 in
theorem BX12_done_198_ok {G : xG} {l : Launch} {x0 : Option Nat} {x1 : Int32} {x2 : Int32} {x4 : Int32} {x5 : Int32} {x6 : Int32} {h0 h1 : Hp} {r : Int32} (hF : BX12_done_198 x0 x1 x2 x4 x5 x6 h0 = some (r, h1)) : xv G l mX12_done 4 0 0 198 [(0, false, va_rf x0), (1, false, .int x1), (2, false, .int x2), (4, false, .int x4), (5, false, .int x5), (6, false, .int x6)] [] h0 (xP mkI r h1) := by
  unfold BX12_done_198 at hF
  refine xe_aload_n dX12_done_198 rfl rfl ?_
  obtain ⟨a2, e3, t4, hF⟩ := gI_inv hF
  refine xq_getI dX12_done_199 fl_SeldomOpsModel_212 xk_11 e3 t4 rfl ?_
  refine xe_bipush (v := 12) dX12_done_202 (by decide) ?_
  refine xe_icmp_le (tgt := 215) dX12_done_204 (by decide) (fun c5 => ?_) (fun c5 => ?_)
  · replace hF := if_p c5 hF
    refine xe_aload_n dX12_done_207 rfl rfl ?_
    refine xe_iload_n dX12_done_208 rfl rfl ?_
    refine xe_iload_n dX12_done_209 rfl rfl ?_
    refine xe_iconst (v := 4) dX12_done_210 (by decide) ?_
    obtain ⟨a11, e9, t10, hF⟩ := rcv_inv hF
    obtain ⟨v6, h7, o8, hF⟩ := cl_inv hF
    refine xz (xq_callV (As := [.int _, .int _, .int _]) (rest := []) dX12_done_211 mk_X12_wrong ⟨tw_1231, tw_1233, ts_39⟩ (ci := 11) rfl e9 t10 (FX12_wrong_ok o8) xP_q (by decide) (by decide) rfl rfl ?_)
    exact xe_ireturn dX12_done_214 (xP_ret (mk := mkI) hF)
  · replace hF := if_n c5 hF
    refine xe_iload dX12_done_215 rfl ?_
    refine xe_bipush (v := 20) dX12_done_217 (by decide) ?_
    refine xe_icmp_eq (tgt := 247) dX12_done_219 (by decide) (fun c12 => ?_) (fun c12 => ?_)
    · replace hF := if_p c12 hF
      exact xv.lv (BX12_done_247_ok hF) (xsub_cons rfl (xsub_cons rfl (xsub_cons rfl (xsub_cons rfl (xsub_cons rfl (xsub_cons rfl xsub_nil))))))
    · replace hF := if_n c12 hF
      refine xe_iload dX12_done_222 rfl ?_
      refine xe_bipush (v := 23) dX12_done_224 (by decide) ?_
      refine xe_icmp_eq (tgt := 247) dX12_done_226 (by decide) (fun c13 => ?_) (fun c13 => ?_)
      · replace hF := if_p c13 hF
        exact xv.lv (BX12_done_247_ok hF) (xsub_cons rfl (xsub_cons rfl (xsub_cons rfl (xsub_cons rfl (xsub_cons rfl (xsub_cons rfl xsub_nil))))))
      · replace hF := if_n c13 hF
        refine xe_iload dX12_done_229 rfl ?_
        refine xe_bipush (v := 31) dX12_done_231 (by decide) ?_
        refine xe_icmp_eq (tgt := 247) dX12_done_233 (by decide) (fun c14 => ?_) (fun c14 => ?_)
        · replace hF := if_p c14 hF
          exact xv.lv (BX12_done_247_ok hF) (xsub_cons rfl (xsub_cons rfl (xsub_cons rfl (xsub_cons rfl (xsub_cons rfl (xsub_cons rfl xsub_nil))))))
        · replace hF := if_n c14 hF
          refine xe_iload dX12_done_236 rfl ?_
          refine xe_bipush (v := 34) dX12_done_238 (by decide) ?_
          refine xe_icmp_eq (tgt := 247) dX12_done_240 (by decide) (fun c15 => ?_) (fun c15 => ?_)
          · replace hF := if_p c15 hF
            exact xv.lv (BX12_done_247_ok hF) (xsub_cons rfl (xsub_cons rfl (xsub_cons rfl (xsub_cons rfl (xsub_cons rfl (xsub_cons rfl xsub_nil))))))
          · replace hF := if_n c15 hF
            refine xe_iconst (v := 1) dX12_done_243 (by decide) ?_
            refine xe_goto (tgt := 248) dX12_done_244 (by decide) ?_
            exact xv.lv (BX12_done_248_ok hF) (xsub_cons rfl (xsub_cons rfl (xsub_cons rfl (xsub_cons rfl (xsub_cons rfl (xsub_cons rfl xsub_nil))))))
def BX12_done_171 (x0 : Option Nat) (x1 : Int32) (x2 : Int32) (x4 : Int32) (x5 : Int32) (x6 : Int32) (h0 : Hp) : Option (Int32 × Hp) :=
  if (x4 : Int32) = 34 then
    gR h0 x0 11 1 fun v2 =>
    aI h0 v2 .int x1 fun v6 =>
    if (v6 : Int32) = x5 then
      BX12_done_198 x0 x1 x2 x4 x5 x6 h0
    else
      rcv h0 x0 11 <|
      cl (FX12_wrong x0 x1 x2 8 h0) fun v13 h14 =>
      some (v13, h14)
  else
    BX12_done_198 x0 x1 x2 x4 x5 x6 h0
set_option maxRecDepth 100000 in
set_option maxHeartbeats 4000000 in
theorem BX12_done_171_ok {G : xG} {l : Launch} {x0 : Option Nat} {x1 : Int32} {x2 : Int32} {x4 : Int32} {x5 : Int32} {x6 : Int32} {h0 h1 : Hp} {r : Int32} (hF : BX12_done_171 x0 x1 x2 x4 x5 x6 h0 = some (r, h1)) : xv G l mX12_done 4 0 0 171 [(0, false, va_rf x0), (1, false, .int x1), (2, false, .int x2), (4, false, .int x4), (5, false, .int x5), (6, false, .int x6)] [] h0 (xP mkI r h1) := by
  unfold BX12_done_171 at hF
  refine xe_iload dX12_done_171 rfl ?_
  refine xe_bipush (v := 34) dX12_done_173 (by decide) ?_
  refine xe_icmp_ne (tgt := 198) dX12_done_175 (by decide) (fun c1 => ?_) (fun c1 => ?_)
  · replace hF := if_p c1 hF
    refine xe_aload_n dX12_done_178 rfl rfl ?_
    obtain ⟨a3, e4, t5, hF⟩ := gR_inv hF
    refine xq_getR dX12_done_179 fl_SeldomOpsModel_7 xk_11 e4 t5 rfl ?_
    refine xe_iload_n dX12_done_182 rfl rfl ?_
    obtain ⟨a7, n8, e9, t10, b11, hF⟩ := aI_inv hF
    refine xq_iald dX12_done_183 e9 t10 b11 ?_
    refine xe_iload dX12_done_184 rfl ?_
    refine xe_icmp_eq (tgt := 198) dX12_done_186 (by decide) (fun c12 => ?_) (fun c12 => ?_)
    · replace hF := if_p c12 hF
      exact xv.lv (BX12_done_198_ok hF) (xsub_cons rfl (xsub_cons rfl (xsub_cons rfl (xsub_cons rfl (xsub_cons rfl (xsub_cons rfl xsub_nil))))))
    · replace hF := if_n c12 hF
      refine xe_aload_n dX12_done_189 rfl rfl ?_
      refine xe_iload_n dX12_done_190 rfl rfl ?_
      refine xe_iload_n dX12_done_191 rfl rfl ?_
      refine xe_bipush (v := 8) dX12_done_192 (by decide) ?_
      obtain ⟨a18, e16, t17, hF⟩ := rcv_inv hF
      obtain ⟨v13, h14, o15, hF⟩ := cl_inv hF
      refine xz (xq_callV (As := [.int _, .int _, .int _]) (rest := []) dX12_done_194 mk_X12_wrong ⟨tw_1231, tw_1233, ts_39⟩ (ci := 11) rfl e16 t17 (FX12_wrong_ok o15) xP_q (by decide) (by decide) rfl rfl ?_)
      exact xe_ireturn dX12_done_197 (xP_ret (mk := mkI) hF)
  · replace hF := if_n c1 hF
    exact xv.lv (BX12_done_198_ok hF) (xsub_cons rfl (xsub_cons rfl (xsub_cons rfl (xsub_cons rfl (xsub_cons rfl (xsub_cons rfl xsub_nil))))))
def BX12_done_146 (x0 : Option Nat) (x1 : Int32) (x2 : Int32) (x4 : Int32) (x5 : Int32) (x6 : Int32) (h0 : Hp) : Option (Int32 × Hp) :=
  if (x4 : Int32) = 7 then
    gR h0 x0 11 31 fun v2 =>
    aI h0 v2 .int x5 fun v6 =>
    if (v6 : Int32) = 0 then
      BX12_done_171 x0 x1 x2 x4 x5 x6 h0
    else
      BX12_done_163 x0 x1 x2 h0
  else
    BX12_done_171 x0 x1 x2 x4 x5 x6 h0
set_option maxRecDepth 100000 in
set_option maxHeartbeats 4000000 in
theorem BX12_done_146_ok {G : xG} {l : Launch} {x0 : Option Nat} {x1 : Int32} {x2 : Int32} {x4 : Int32} {x5 : Int32} {x6 : Int32} {h0 h1 : Hp} {r : Int32} (hF : BX12_done_146 x0 x1 x2 x4 x5 x6 h0 = some (r, h1)) : xv G l mX12_done 4 0 0 146 [(0, false, va_rf x0), (1, false, .int x1), (2, false, .int x2), (4, false, .int x4), (5, false, .int x5), (6, false, .int x6)] [] h0 (xP mkI r h1) := by
  unfold BX12_done_146 at hF
  refine xe_iload dX12_done_146 rfl ?_
  refine xe_bipush (v := 7) dX12_done_148 (by decide) ?_
  refine xe_icmp_ne (tgt := 171) dX12_done_150 (by decide) (fun c1 => ?_) (fun c1 => ?_)
  · replace hF := if_p c1 hF
    refine xe_aload_n dX12_done_153 rfl rfl ?_
    obtain ⟨a3, e4, t5, hF⟩ := gR_inv hF
    refine xq_getR dX12_done_154 fl_SeldomOpsModel_93 xk_11 e4 t5 rfl ?_
    refine xe_iload dX12_done_157 rfl ?_
    obtain ⟨a7, n8, e9, t10, b11, hF⟩ := aI_inv hF
    refine xq_iald dX12_done_159 e9 t10 b11 ?_
    refine xe_if_eq (tgt := 171) dX12_done_160 (by decide) (fun c12 => ?_) (fun c12 => ?_)
    · replace hF := if_p c12 hF
      exact xv.lv (BX12_done_171_ok hF) (xsub_cons rfl (xsub_cons rfl (xsub_cons rfl (xsub_cons rfl (xsub_cons rfl (xsub_cons rfl xsub_nil))))))
    · replace hF := if_n c12 hF
      exact xv.lv (BX12_done_163_ok hF) (xsub_cons rfl (xsub_cons rfl (xsub_cons rfl xsub_nil)))
  · replace hF := if_n c1 hF
    exact xv.lv (BX12_done_171_ok hF) (xsub_cons rfl (xsub_cons rfl (xsub_cons rfl (xsub_cons rfl (xsub_cons rfl (xsub_cons rfl xsub_nil))))))
def BX12_done_129 (x0 : Option Nat) (x1 : Int32) (x2 : Int32) (x4 : Int32) (x5 : Int32) (x6 : Int32) (h0 : Hp) : Option (Int32 × Hp) :=
  if (x4 : Int32) = 5 then
    rcv h0 x0 11 <|
    cl (FX12_isIn x0 x5 x6 h0) fun v2 h3 =>
    if (v2 : Int32) = 0 then
      BX12_done_163 x0 x1 x2 h3
    else
      BX12_done_146 x0 x1 x2 x4 x5 x6 h3
  else
    BX12_done_146 x0 x1 x2 x4 x5 x6 h0
set_option maxRecDepth 100000 in
set_option maxHeartbeats 4000000 in
theorem BX12_done_129_ok {G : xG} {l : Launch} {x0 : Option Nat} {x1 : Int32} {x2 : Int32} {x4 : Int32} {x5 : Int32} {x6 : Int32} {h0 h1 : Hp} {r : Int32} (hF : BX12_done_129 x0 x1 x2 x4 x5 x6 h0 = some (r, h1)) : xv G l mX12_done 4 0 0 129 [(0, false, va_rf x0), (1, false, .int x1), (2, false, .int x2), (4, false, .int x4), (5, false, .int x5), (6, false, .int x6)] [] h0 (xP mkI r h1) := by
  unfold BX12_done_129 at hF
  refine xe_iload dX12_done_129 rfl ?_
  refine xe_iconst (v := 5) dX12_done_131 (by decide) ?_
  refine xe_icmp_ne (tgt := 146) dX12_done_132 (by decide) (fun c1 => ?_) (fun c1 => ?_)
  · replace hF := if_p c1 hF
    refine xe_aload_n dX12_done_135 rfl rfl ?_
    refine xe_iload dX12_done_136 rfl ?_
    refine xe_iload dX12_done_138 rfl ?_
    obtain ⟨a7, e5, t6, hF⟩ := rcv_inv hF
    obtain ⟨v2, h3, o4, hF⟩ := cl_inv hF
    refine xz (xq_callV (As := [.int _, .int _]) (rest := []) dX12_done_140 mk_X12_isIn ⟨tw_1297, tw_1299, ts_53⟩ (ci := 11) rfl e5 t6 (FX12_isIn_ok o4) xPZ_q (by decide) (by decide) rfl rfl ?_)
    refine xe_if_eq (tgt := 163) dX12_done_143 (by decide) (fun c8 => ?_) (fun c8 => ?_)
    · replace hF := if_p c8 hF
      exact xv.lv (BX12_done_163_ok hF) (xsub_cons rfl (xsub_cons rfl (xsub_cons rfl xsub_nil)))
    · replace hF := if_n c8 hF
      exact xv.lv (BX12_done_146_ok hF) (xsub_cons rfl (xsub_cons rfl (xsub_cons rfl (xsub_cons rfl (xsub_cons rfl (xsub_cons rfl xsub_nil))))))
  · replace hF := if_n c1 hF
    exact xv.lv (BX12_done_146_ok hF) (xsub_cons rfl (xsub_cons rfl (xsub_cons rfl (xsub_cons rfl (xsub_cons rfl (xsub_cons rfl xsub_nil))))))
def FX12_done (p0 : Option Nat) (p1 : Int32) (p2 : Int32) (h0 : Hp) : Option (Int32 × Hp) :=
  gR h0 p0 11 6 fun v1 =>
  aI h0 v1 .int ((60 * p1) + p2) fun v5 =>
  gR h0 p0 11 7 fun v11 =>
  aI h0 v11 .int ((60 * p1) + p2) fun v15 =>
  gR h0 p0 11 8 fun v21 =>
  aI h0 v21 .int ((60 * p1) + p2) fun v25 =>
  rcv h0 p0 11 <|
  cl (FX12_load p0 p1 p2 h0) fun v31 h32 =>
  rcv h32 p0 11 <|
  cl (FX12_isOdd p0 v5 v15 v25 h32) fun v37 h38 =>
  if (v37 : Int32) = 0 then
    rcv h38 p0 11 <|
    cl (FX12_isLost p0 p1 p2 v5 v15 h38) fun v44 h45 =>
    if (v44 : Int32) = 0 then
      cl (FX12_in (Int32.toInt64 v5) 8 16 h45) fun v51 h52 =>
      if (v51 : Int32) = 0 then
        rcv h52 p0 11 <|
        cl (FX12_works p0 p1 v5 v15 v25 h52) fun v55 h56 =>
        if (v55 : Int32) = 0 then
          BX12_done_121 p0 p1 p2 h56
        else
          BX12_done_129 p0 p1 p2 v5 v15 v25 h56
      else
        rcv h52 p0 11 <|
        cl (FX12_moves p0 v5 h52) fun v62 h63 =>
        if (v62 : Int32) = 0 then
          BX12_done_121 p0 p1 p2 h63
        else
          BX12_done_129 p0 p1 p2 v5 v15 v25 h63
    else
      rcv h45 p0 11 <|
      cl (FX12_wrong p0 p1 p2 2 h45) fun v69 h70 =>
      some (v69, h70)
  else
    rcv h38 p0 11 <|
    cl (FX12_wrong p0 p1 p2 7 h38) fun v75 h76 =>
    some (v75, h76)
set_option maxRecDepth 100000 in
set_option maxHeartbeats 4000000 in
theorem FX12_done_ok {G : xG} {l : Launch} {p0 : Option Nat} {p1 : Int32} {p2 : Int32} {h0 h1 : Hp} {r : Int32} (hF : FX12_done p0 p1 p2 h0 = some (r, h1)) : xc G l mX12_done 4 0 0 [va_rf p0, .int p1, .int p2] h0 (xP mkI r h1) := by
  refine xo_I [.inr (.inr _), .inl _, .inl _] (by decide) (Nat.le_of_ble_eq_true rfl) rfl ?_
  show xv _ _ _ _ _ _ _ [(0, false, va_rf p0), (1, false, .int p1), (2, false, .int p2)] _ _ _
  unfold FX12_done at hF
  refine xe_bipush (v := 60) dX12_done_0 (by decide) ?_
  refine xe_iload_n dX12_done_2 rfl rfl ?_
  refine xe_imul dX12_done_3 ?_
  refine xe_iload_n dX12_done_4 rfl rfl ?_
  refine xe_iadd dX12_done_5 ?_
  refine xe_istore_n dX12_done_6 rfl (by decide) ?_
  refine xe_aload_n dX12_done_7 rfl rfl ?_
  obtain ⟨a2, e3, t4, hF⟩ := gR_inv hF
  refine xq_getR dX12_done_8 fl_SeldomOpsModel_25 xk_11 e3 t4 rfl ?_
  refine xe_iload_n dX12_done_11 rfl rfl ?_
  obtain ⟨a6, n7, e8, t9, b10, hF⟩ := aI_inv hF
  refine xq_iald dX12_done_12 e8 t9 b10 ?_
  refine xe_istore dX12_done_13 (by decide) ?_
  refine xe_aload_n dX12_done_15 rfl rfl ?_
  obtain ⟨a12, e13, t14, hF⟩ := gR_inv hF
  refine xq_getR dX12_done_16 fl_SeldomOpsModel_28 xk_11 e13 t14 rfl ?_
  refine xe_iload_n dX12_done_19 rfl rfl ?_
  obtain ⟨a16, n17, e18, t19, b20, hF⟩ := aI_inv hF
  refine xq_iald dX12_done_20 e18 t19 b20 ?_
  refine xe_istore dX12_done_21 (by decide) ?_
  refine xe_aload_n dX12_done_23 rfl rfl ?_
  obtain ⟨a22, e23, t24, hF⟩ := gR_inv hF
  refine xq_getR dX12_done_24 fl_SeldomOpsModel_31 xk_11 e23 t24 rfl ?_
  refine xe_iload_n dX12_done_27 rfl rfl ?_
  obtain ⟨a26, n27, e28, t29, b30, hF⟩ := aI_inv hF
  refine xq_iald dX12_done_28 e28 t29 b30 ?_
  refine xe_istore dX12_done_29 (by decide) ?_
  refine xe_aload_n dX12_done_31 rfl rfl ?_
  refine xe_iload_n dX12_done_32 rfl rfl ?_
  refine xe_iload_n dX12_done_33 rfl rfl ?_
  obtain ⟨a36, e34, t35, hF⟩ := rcv_inv hF
  obtain ⟨v31, h32, o33, hF⟩ := cl_inv hF
  refine xz (xq_callV (As := [.int _, .int _]) (rest := []) dX12_done_34 mk_X12_load ⟨tw_1247, tw_1249, ts_43⟩ (ci := 11) rfl e34 t35 (FX12_load_ok o33) xP_q (by decide) (by decide) rfl rfl ?_)
  refine xe_aload_n dX12_done_37 rfl rfl ?_
  refine xe_iload dX12_done_38 rfl ?_
  refine xe_iload dX12_done_40 rfl ?_
  refine xe_iload dX12_done_42 rfl ?_
  obtain ⟨a42, e40, t41, hF⟩ := rcv_inv hF
  obtain ⟨v37, h38, o39, hF⟩ := cl_inv hF
  refine xz (xq_callV (As := [.int _, .int _, .int _]) (rest := []) dX12_done_44 mk_X12_isOdd ⟨tw_1251, tw_1253, ts_44⟩ (ci := 11) rfl e40 t41 (FX12_isOdd_ok o39) xPZ_q (by decide) (by decide) rfl rfl ?_)
  refine xe_if_eq (tgt := 59) dX12_done_47 (by decide) (fun c43 => ?_) (fun c43 => ?_)
  · replace hF := if_p c43 hF
    refine xe_aload_n dX12_done_59 rfl rfl ?_
    refine xe_iload_n dX12_done_60 rfl rfl ?_
    refine xe_iload_n dX12_done_61 rfl rfl ?_
    refine xe_iload dX12_done_62 rfl ?_
    refine xe_iload dX12_done_64 rfl ?_
    obtain ⟨a49, e47, t48, hF⟩ := rcv_inv hF
    obtain ⟨v44, h45, o46, hF⟩ := cl_inv hF
    refine xz (xq_callV (As := [.int _, .int _, .int _, .int _]) (rest := []) dX12_done_66 mk_X12_isLost ⟨tw_1262, tw_1264, ts_45⟩ (ci := 11) rfl e47 t48 (FX12_isLost_ok o46) xPZ_q (by decide) (by decide) rfl rfl ?_)
    refine xe_if_eq (tgt := 80) dX12_done_69 (by decide) (fun c50 => ?_) (fun c50 => ?_)
    · replace hF := if_p c50 hF
      refine xe_iload dX12_done_80 rfl ?_
      refine xe_i2l dX12_done_82 ?_
      refine xe_ldc2 (v := 8) dX12_done_83 tw_1259 ?_
      refine xe_ldc2 (v := 16) dX12_done_86 tw_1272 ?_
      obtain ⟨v51, h52, o53, hF⟩ := cl_inv hF
      refine xz (xq_callS (As := [.long _, .long _, .long _]) (rest := []) dX12_done_89 mk_X12_in ⟨tw_1174, tw_1175⟩ (FX12_in_ok o53) xPZ_q (by decide) (by decide) rfl rfl ?_)
      refine xe_if_eq (tgt := 107) dX12_done_92 (by decide) (fun c54 => ?_) (fun c54 => ?_)
      · replace hF := if_p c54 hF
        refine xe_aload_n dX12_done_107 rfl rfl ?_
        refine xe_iload_n dX12_done_108 rfl rfl ?_
        refine xe_iload dX12_done_109 rfl ?_
        refine xe_iload dX12_done_111 rfl ?_
        refine xe_iload dX12_done_113 rfl ?_
        obtain ⟨a60, e58, t59, hF⟩ := rcv_inv hF
        obtain ⟨v55, h56, o57, hF⟩ := cl_inv hF
        refine xz (xq_callV (As := [.int _, .int _, .int _, .int _]) (rest := []) dX12_done_115 mk_X12_works ⟨tw_1285, tw_1287, ts_50⟩ (ci := 11) rfl e58 t59 (FX12_works_ok o57) xPZ_q (by decide) (by decide) rfl rfl ?_)
        refine xe_if_ne (tgt := 129) dX12_done_118 (by decide) (fun c61 => ?_) (fun c61 => ?_)
        · replace hF := if_p c61 hF
          exact xv.lv (BX12_done_121_ok hF) (xsub_cons rfl (xsub_cons rfl (xsub_cons rfl xsub_nil)))
        · replace hF := if_n c61 hF
          exact xv.lv (BX12_done_129_ok hF) (xsub_cons rfl (xsub_cons rfl (xsub_cons rfl (xsub_cons rfl (xsub_cons rfl (xsub_cons rfl xsub_nil))))))
      · replace hF := if_n c54 hF
        refine xe_aload_n dX12_done_95 rfl rfl ?_
        refine xe_iload dX12_done_96 rfl ?_
        obtain ⟨a67, e65, t66, hF⟩ := rcv_inv hF
        obtain ⟨v62, h63, o64, hF⟩ := cl_inv hF
        refine xz (xq_callV (As := [.int _]) (rest := []) dX12_done_98 mk_X12_moves ⟨tw_1273, tw_1275, ts_47⟩ (ci := 11) rfl e65 t66 (FX12_moves_ok o64) xPZ_q (by decide) (by decide) rfl rfl ?_)
        refine xe_if_eq (tgt := 121) dX12_done_101 (by decide) (fun c68 => ?_) (fun c68 => ?_)
        · replace hF := if_p c68 hF
          exact xv.lv (BX12_done_121_ok hF) (xsub_cons rfl (xsub_cons rfl (xsub_cons rfl xsub_nil)))
        · replace hF := if_n c68 hF
          refine xe_goto (tgt := 129) dX12_done_104 (by decide) ?_
          exact xv.lv (BX12_done_129_ok hF) (xsub_cons rfl (xsub_cons rfl (xsub_cons rfl (xsub_cons rfl (xsub_cons rfl (xsub_cons rfl xsub_nil))))))
    · replace hF := if_n c50 hF
      refine xe_aload_n dX12_done_72 rfl rfl ?_
      refine xe_iload_n dX12_done_73 rfl rfl ?_
      refine xe_iload_n dX12_done_74 rfl rfl ?_
      refine xe_iconst (v := 2) dX12_done_75 (by decide) ?_
      obtain ⟨a74, e72, t73, hF⟩ := rcv_inv hF
      obtain ⟨v69, h70, o71, hF⟩ := cl_inv hF
      refine xz (xq_callV (As := [.int _, .int _, .int _]) (rest := []) dX12_done_76 mk_X12_wrong ⟨tw_1231, tw_1233, ts_39⟩ (ci := 11) rfl e72 t73 (FX12_wrong_ok o71) xP_q (by decide) (by decide) rfl rfl ?_)
      exact xe_ireturn dX12_done_79 (xP_ret (mk := mkI) hF)
  · replace hF := if_n c43 hF
    refine xe_aload_n dX12_done_50 rfl rfl ?_
    refine xe_iload_n dX12_done_51 rfl rfl ?_
    refine xe_iload_n dX12_done_52 rfl rfl ?_
    refine xe_bipush (v := 7) dX12_done_53 (by decide) ?_
    obtain ⟨a80, e78, t79, hF⟩ := rcv_inv hF
    obtain ⟨v75, h76, o77, hF⟩ := cl_inv hF
    refine xz (xq_callV (As := [.int _, .int _, .int _]) (rest := []) dX12_done_55 mk_X12_wrong ⟨tw_1231, tw_1233, ts_39⟩ (ci := 11) rfl e78 t79 (FX12_wrong_ok o77) xP_q (by decide) (by decide) rfl rfl ?_)
    exact xe_ireturn dX12_done_58 (xP_ret (mk := mkI) hF)
