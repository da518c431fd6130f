/-! SeldomOpsModel.newArray(III)V -/
def BX12_newArray_298 (k208 : Option Nat → Int32 → Int32 → Int32 → Int64 → Int64 → Int64 → Int32 → Int32 → Hp → Option (Unit × Hp)) (x0 : Option Nat) (x1 : Int32) (x2 : Int32) (x3 : Int32) (x4 : Int64) (x6 : Int64) (x10 : Int64) (x15 : Int32) (x16 : Int32) (h0 : Hp) : Option (Unit × Hp) :=
  k208 x0 x1 x2 x3 x4 x6 x10 x15 (x16 + 1) h0
set_option maxRecDepth 100000 in
set_option maxHeartbeats 4000000 in
theorem BX12_newArray_298_ok {G : xG} {l : Launch} {k208 : Option Nat → Int32 → Int32 → Int32 → Int64 → Int64 → Int64 → Int32 → Int32 → Hp → Option (Unit × Hp)} (hk208 : ∀ {x0 : Option Nat} {x1 : Int32} {x2 : Int32} {x3 : Int32} {x4 : Int64} {x6 : Int64} {x10 : Int64} {x15 : Int32} {x16 : Int32} {h0 h1 : Hp} {r : Unit}, k208 x0 x1 x2 x3 x4 x6 x10 x15 x16 h0 = some (r, h1) → xv G l mX12_newArray 4 0 0 208 [(0, false, va_rf x0), (1, false, .int x1), (2, false, .int x2), (3, false, .int x3), (4, true, .long x4), (6, true, .long x6), (10, true, .long x10), (15, false, .int x15), (16, false, .int x16)] [] h0 (xP mkV r h1)) {x0 : Option Nat} {x1 : Int32} {x2 : Int32} {x3 : Int32} {x4 : Int64} {x6 : Int64} {x10 : Int64} {x15 : Int32} {x16 : Int32} {h0 h1 : Hp} {r : Unit} (hF : BX12_newArray_298 k208 x0 x1 x2 x3 x4 x6 x10 x15 x16 h0 = some (r, h1)) : xv G l mX12_newArray 4 0 0 298 [(0, false, va_rf x0), (1, false, .int x1), (2, false, .int x2), (3, false, .int x3), (4, true, .long x4), (6, true, .long x6), (10, true, .long x10), (15, false, .int x15), (16, false, .int x16)] [] h0 (xP mkV r h1) := by
  unfold BX12_newArray_298 at hF
  refine xe_iinc (v := _ + 1) dX12_newArray_298 rfl rfl (by decide) ?_
  refine xe_goto (tgt := 208) dX12_newArray_301 (by decide) ?_
  exact xv.lv (hk208 hF) (xsub_cons rfl (xsub_cons rfl (xsub_cons rfl (xsub_cons rfl (xsub_cons rfl (xsub_cons rfl (xsub_cons rfl (xsub_cons rfl (xsub_cons rfl xsub_nil)))))))))
def BX12_newArray_251 : Nat → (Option Nat → Int32 → Int32 → Int32 → Int64 → Int64 → Int64 → Int32 → Int32 → Hp → Option (Unit × Hp)) → Option Nat → Int32 → Int32 → Int32 → Int64 → Int64 → Int64 → Int32 → Int32 → Int32 → Int32 → Hp → Option (Unit × Hp)
  | 0, _, _, _, _, _, _, _, _, _, _, _, _, _ => none
  | n + 1, k208, x0, x1, x2, x3, x4, x6, x10, x15, x16, x17, x18, h0 =>
    if ((Int32.toInt64 x18) : Int64) < x6 then
      if (2 : Int32) < x3 then
        gR h0 x0 11 45 fun v3 =>
        gR h0 x0 11 44 fun v7 =>
        aI h0 v7 .int x17 fun v11 =>
        rcv h0 x0 11 <|
        cl (FX12_newThing x0 (x2 - 16) (Int64.toInt32 x4) h0) fun v17 h18 =>
        sL h18 v3 (v11 + x18) (Int32.toInt64 v17) fun h23 =>
        BX12_newArray_251 n k208 x0 x1 x2 x3 x4 x6 x10 x15 x16 x17 (x18 + 1) h23
      else
        BX12_newArray_298 k208 x0 x1 x2 x3 x4 x6 x10 x15 x16 h0
    else
      BX12_newArray_298 k208 x0 x1 x2 x3 x4 x6 x10 x15 x16 h0
set_option maxRecDepth 100000 in
set_option maxHeartbeats 4000000 in
theorem BX12_newArray_251_ok {G : xG} {l : Launch} : ∀ (n : Nat) {k208 : Option Nat → Int32 → Int32 → Int32 → Int64 → Int64 → Int64 → Int32 → Int32 → Hp → Option (Unit × Hp)} (hk208 : ∀ {x0 : Option Nat} {x1 : Int32} {x2 : Int32} {x3 : Int32} {x4 : Int64} {x6 : Int64} {x10 : Int64} {x15 : Int32} {x16 : Int32} {h0 h1 : Hp} {r : Unit}, k208 x0 x1 x2 x3 x4 x6 x10 x15 x16 h0 = some (r, h1) → xv G l mX12_newArray 4 0 0 208 [(0, false, va_rf x0), (1, false, .int x1), (2, false, .int x2), (3, false, .int x3), (4, true, .long x4), (6, true, .long x6), (10, true, .long x10), (15, false, .int x15), (16, false, .int x16)] [] h0 (xP mkV r h1)) {x0 : Option Nat} {x1 : Int32} {x2 : Int32} {x3 : Int32} {x4 : Int64} {x6 : Int64} {x10 : Int64} {x15 : Int32} {x16 : Int32} {x17 : Int32} {x18 : Int32} {h0 h1 : Hp} {r : Unit} (hF : BX12_newArray_251 n k208 x0 x1 x2 x3 x4 x6 x10 x15 x16 x17 x18 h0 = some (r, h1)), xv G l mX12_newArray 4 0 0 251 [(0, false, va_rf x0), (1, false, .int x1), (2, false, .int x2), (3, false, .int x3), (4, true, .long x4), (6, true, .long x6), (10, true, .long x10), (15, false, .int x15), (16, false, .int x16), (17, false, .int x17), (18, false, .int x18)] [] h0 (xP mkV r h1) := by
  intro n
  induction n with
  | zero => intro k208 hk208 x0 x1 x2 x3 x4 x6 x10 x15 x16 x17 x18 h0 h1 r hF; cases hF
  | succ n ih =>
    intro k208 hk208 x0 x1 x2 x3 x4 x6 x10 x15 x16 x17 x18 h0 h1 r hF
    unfold BX12_newArray_251 at hF
    refine xe_iload dX12_newArray_251 rfl ?_
    refine xe_i2l dX12_newArray_253 ?_
    refine xe_lload dX12_newArray_254 rfl ?_
    refine xe_lcmp dX12_newArray_256 ?_
    refine xe_lif_ge (tgt := 298) dX12_newArray_257 (by decide) (fun c1 => ?_) (fun c1 => ?_)
    · replace hF := if_p c1 hF
      refine xe_iload_n dX12_newArray_260 rfl rfl ?_
      refine xe_iconst (v := 2) dX12_newArray_261 (by decide) ?_
      refine xe_icmp_le (tgt := 298) dX12_newArray_262 (by decide) (fun c2 => ?_) (fun c2 => ?_)
      · replace hF := if_p c2 hF
        refine xe_aload_n dX12_newArray_265 rfl rfl ?_
        obtain ⟨a4, e5, t6, hF⟩ := gR_inv hF
        refine xq_getR dX12_newArray_266 fl_SeldomOpsModel_127 xk_11 e5 t6 rfl ?_
        refine xe_aload_n dX12_newArray_269 rfl rfl ?_
        obtain ⟨a8, e9, t10, hF⟩ := gR_inv hF
        refine xq_getR dX12_newArray_270 fl_SeldomOpsModel_124 xk_11 e9 t10 rfl ?_
        refine xe_iload dX12_newArray_273 rfl ?_
        obtain ⟨a12, n13, e14, t15, b16, hF⟩ := aI_inv hF
        refine xq_iald dX12_newArray_275 e14 t15 b16 ?_
        refine xe_iload dX12_newArray_276 rfl ?_
        refine xe_iadd dX12_newArray_278 ?_
        refine xe_aload_n dX12_newArray_279 rfl rfl ?_
        refine xe_iload_n dX12_newArray_280 rfl rfl ?_
        refine xe_bipush (v := 16) dX12_newArray_281 (by decide) ?_
        refine xe_isub dX12_newArray_283 ?_
        refine xe_lload dX12_newArray_284 rfl ?_
        refine xe_l2i dX12_newArray_286 ?_
        obtain ⟨a22, e20, t21, hF⟩ := rcv_inv hF
        obtain ⟨v17, h18, o19, hF⟩ := cl_inv hF
        refine xz (xq_callV (As := [.int _, .int _]) (rest := [.int _, va_rf _]) dX12_newArray_287 mk_X12_newThing ⟨tw_1406, tw_1408, ts_69⟩ (ci := 11) rfl e20 t21 (FX12_newThing_ok o19) xP_q (by decide) (Nat.le_trans (cs_i (cs_r cs_0)) (by decide)) rfl rfl ?_)
        refine xe_i2l dX12_newArray_290 ?_
        obtain ⟨a24, n25, e26, t27, b28, hF⟩ := sL_inv hF
        refine xq_last dX12_newArray_291 e26 t27 b28 ?_
        refine xe_iinc (v := _ + 1) dX12_newArray_292 rfl rfl (by decide) ?_
        refine xe_goto (tgt := 251) dX12_newArray_295 (by decide) ?_
        exact xv.lv (ih hk208 hF) (xsub_cons rfl (xsub_cons rfl (xsub_cons rfl (xsub_cons rfl (xsub_cons rfl (xsub_cons rfl (xsub_cons rfl (xsub_cons rfl (xsub_cons rfl (xsub_cons rfl (xsub_cons rfl xsub_nil)))))))))))
      · replace hF := if_n c2 hF
        exact xv.lv (BX12_newArray_298_ok hk208 hF) (xsub_cons rfl (xsub_cons rfl (xsub_cons rfl (xsub_cons rfl (xsub_cons rfl (xsub_cons rfl (xsub_cons rfl (xsub_cons rfl (xsub_cons rfl xsub_nil)))))))))
    · replace hF := if_n c1 hF
      exact xv.lv (BX12_newArray_298_ok hk208 hF) (xsub_cons rfl (xsub_cons rfl (xsub_cons rfl (xsub_cons rfl (xsub_cons rfl (xsub_cons rfl (xsub_cons rfl (xsub_cons rfl (xsub_cons rfl xsub_nil)))))))))
def BX12_newArray_208 : Nat → Option Nat → Int32 → Int32 → Int32 → Int64 → Int64 → Int64 → Int32 → Int32 → Hp → Option (Unit × Hp)
  | 0, _, _, _, _, _, _, _, _, _, _ => none
  | n + 1, x0, x1, x2, x3, x4, x6, x10, x15, x16, h0 =>
    if ((Int32.toInt64 x16) : Int64) < x10 then
      rcv h0 x0 11 <|
      cl (FX12_newThing x0 (x2 - 8) (Int64.toInt32 x6) h0) fun v2 h3 =>
      gR h3 x0 11 45 fun v8 =>
      gR h3 x0 11 44 fun v12 =>
      aI h3 v12 .int x15 fun v16 =>
      sL h3 v8 (v16 + x16) (Int32.toInt64 v2) fun h22 =>
      BX12_newArray_251 100000 (BX12_newArray_208 n) x0 x1 x2 x3 x4 x6 x10 x15 x16 v2 0 h22
    else
      rcv h0 x0 11 <|
      cl (FX12_put x0 x1 4 (Int32.toInt64 x15) h0) fun v29 h30 =>
      some ((), h30)
set_option maxRecDepth 100000 in
set_option maxHeartbeats 4000000 in
theorem BX12_newArray_208_ok {G : xG} {l : Launch} : ∀ (n : Nat) {x0 : Option Nat} {x1 : Int32} {x2 : Int32} {x3 : Int32} {x4 : Int64} {x6 : Int64} {x10 : Int64} {x15 : Int32} {x16 : Int32} {h0 h1 : Hp} {r : Unit} (hF : BX12_newArray_208 n x0 x1 x2 x3 x4 x6 x10 x15 x16 h0 = some (r, h1)), xv G l mX12_newArray 4 0 0 208 [(0, false, va_rf x0), (1, false, .int x1), (2, false, .int x2), (3, false, .int x3), (4, true, .long x4), (6, true, .long x6), (10, true, .long x10), (15, false, .int x15), (16, false, .int x16)] [] h0 (xP mkV r h1) := by
  intro n
  induction n with
  | zero => intro x0 x1 x2 x3 x4 x6 x10 x15 x16 h0 h1 r hF; cases hF
  | succ n ih =>
    intro x0 x1 x2 x3 x4 x6 x10 x15 x16 h0 h1 r hF
    unfold BX12_newArray_208 at hF
    refine xe_iload dX12_newArray_208 rfl ?_
    refine xe_i2l dX12_newArray_210 ?_
    refine xe_lload dX12_newArray_211 rfl ?_
    refine xe_lcmp dX12_newArray_213 ?_
    refine xe_lif_ge (tgt := 304) dX12_newArray_214 (by decide) (fun c1 => ?_) (fun c1 => ?_)
    · replace hF := if_p c1 hF
      refine xe_aload_n dX12_newArray_217 rfl rfl ?_
      refine xe_iload_n dX12_newArray_218 rfl rfl ?_
      refine xe_bipush (v := 8) dX12_newArray_219 (by decide) ?_
      refine xe_isub dX12_newArray_221 ?_
      refine xe_lload dX12_newArray_222 rfl ?_
      refine xe_l2i dX12_newArray_224 ?_
      obtain ⟨a7, e5, t6, hF⟩ := rcv_inv hF
      obtain ⟨v2, h3, o4, hF⟩ := cl_inv hF
      refine xz (xq_callV (As := [.int _, .int _]) (rest := []) dX12_newArray_225 mk_X12_newThing ⟨tw_1406, tw_1408, ts_69⟩ (ci := 11) rfl e5 t6 (FX12_newThing_ok o4) xP_q (by decide) (by decide) rfl rfl ?_)
      refine xe_istore dX12_newArray_228 (by decide) ?_
      refine xe_aload_n dX12_newArray_230 rfl rfl ?_
      obtain ⟨a9, e10, t11, hF⟩ := gR_inv hF
      refine xq_getR dX12_newArray_231 fl_SeldomOpsModel_127 xk_11 e10 t11 rfl ?_
      refine xe_aload_n dX12_newArray_234 rfl rfl ?_
      obtain ⟨a13, e14, t15, hF⟩ := gR_inv hF
      refine xq_getR dX12_newArray_235 fl_SeldomOpsModel_124 xk_11 e14 t15 rfl ?_
      refine xe_iload dX12_newArray_238 rfl ?_
      obtain ⟨a17, n18, e19, t20, b21, hF⟩ := aI_inv hF
      refine xq_iald dX12_newArray_240 e19 t20 b21 ?_
      refine xe_iload dX12_newArray_241 rfl ?_
      refine xe_iadd dX12_newArray_243 ?_
      refine xe_iload dX12_newArray_244 rfl ?_
      refine xe_i2l dX12_newArray_246 ?_
      obtain ⟨a23, n24, e25, t26, b27, hF⟩ := sL_inv hF
      refine xq_last dX12_newArray_247 e25 t26 b27 ?_
      refine xe_iconst (v := 0) dX12_newArray_248 (by decide) ?_
      refine xe_istore dX12_newArray_249 (by decide) ?_
      exact xv.lv (BX12_newArray_251_ok _ ih hF) (xsub_cons rfl (xsub_cons rfl (xsub_cons rfl (xsub_cons rfl (xsub_cons rfl (xsub_cons rfl (xsub_cons rfl (xsub_cons rfl (xsub_cons rfl (xsub_cons rfl (xsub_cons rfl xsub_nil)))))))))))
    · replace hF := if_n c1 hF
      refine xe_aload_n dX12_newArray_304 rfl rfl ?_
      refine xe_iload_n dX12_newArray_305 rfl rfl ?_
      refine xe_iconst (v := 4) dX12_newArray_306 (by decide) ?_
      refine xe_iload dX12_newArray_307 rfl ?_
      refine xe_i2l dX12_newArray_309 ?_
      obtain ⟨a34, e32, t33, hF⟩ := rcv_inv hF
      obtain ⟨v29, h30, o31, hF⟩ := cl_inv hF
      refine xz (xq_callV (As := [.int _, .int _, .long _]) (rest := []) dX12_newArray_310 mk_X12_put ⟨tw_1351, tw_1353, ts_61⟩ (ci := 11) rfl e32 t33 (FX12_put_ok o31) xP_q (by decide) (by decide) rfl rfl ?_)
      exact xe_return dX12_newArray_313 (xP_ret (mk := mkV) hF)
def BX12_newArray_188 (x0 : Option Nat) (h0 : Hp) : Option (Unit × Hp) :=
  rcv h0 x0 11 <|
  cl (FX12_fail x0 7 h0) fun v1 h2 =>
  some ((), h2)
set_option maxRecDepth 100000 in
set_option maxHeartbeats 4000000 in
theorem BX12_newArray_188_ok {G : xG} {l : Launch} {x0 : Option Nat} {h0 h1 : Hp} {r : Unit} (hF : BX12_newArray_188 x0 h0 = some (r, h1)) : xv G l mX12_newArray 4 0 0 188 [(0, false, va_rf x0)] [] h0 (xP mkV r h1) := by
  unfold BX12_newArray_188 at hF
  refine xe_aload_n dX12_newArray_188 rfl rfl ?_
  refine xe_bipush (v := 7) dX12_newArray_189 (by decide) ?_
  obtain ⟨a6, e4, t5, hF⟩ := rcv_inv hF
  obtain ⟨v1, h2, o3, hF⟩ := cl_inv hF
  refine xz (xq_callV (As := [.int _]) (rest := []) dX12_newArray_191 mk_X12_fail ⟨tw_1363, tw_1365, ts_64⟩ (ci := 11) rfl e4 t5 (FX12_fail_ok o3) xP_q (by decide) (by decide) rfl rfl ?_)
  exact xe_return dX12_newArray_194 (xP_ret (mk := mkV) hF)
def BX12_newArray_165 (x0 : Option Nat) (x1 : Int32) (x2 : Int32) (x3 : Int32) (x4 : Int64) (x6 : Int64) (x8 : Int64) (x10 : Int64) (x12 : Int32) (s0 : Int64) (s1 : Int64) (h0 : Hp) : Option (Unit × Hp) :=
  if (x12 : Int32) = 0 then
    gI h0 x0 11 40 fun v2 =>
    if (60 : Int64) < ((Int32.toInt64 v2) + (s0 + s1)) then
      BX12_newArray_188 x0 h0
    else
      rcv h0 x0 11 <|
      cl (FX12_newThing x0 x2 (Int64.toInt32 x8) h0) fun v7 h8 =>
      BX12_newArray_208 100000 x0 x1 x2 x3 x4 x6 x10 v7 0 h8
  else
    BX12_newArray_188 x0 h0
set_option maxRecDepth 100000 in
set_option maxHeartbeats 4000000 in
theorem BX12_newArray_165_ok {G : xG} {l : Launch} {x0 : Option Nat} {x1 : Int32} {x2 : Int32} {x3 : Int32} {x4 : Int64} {x6 : Int64} {x8 : Int64} {x10 : Int64} {x12 : Int32} {s0 : Int64} {s1 : Int64} {h0 h1 : Hp} {r : Unit} (hF : BX12_newArray_165 x0 x1 x2 x3 x4 x6 x8 x10 x12 s0 s1 h0 = some (r, h1)) : xv G l mX12_newArray 4 0 0 165 [(0, false, va_rf x0), (1, false, .int x1), (2, false, .int x2), (3, false, .int x3), (4, true, .long x4), (6, true, .long x6), (8, true, .long x8), (10, true, .long x10), (12, false, .int x12)] [.long s1, .long s0] h0 (xP mkV r h1) := by
  unfold BX12_newArray_165 at hF
  refine xe_ladd dX12_newArray_165 ?_
  refine xe_lstore dX12_newArray_166 (by decide) ?_
  refine xe_iload dX12_newArray_168 rfl ?_
  refine xe_if_ne (tgt := 188) dX12_newArray_170 (by decide) (fun c1 => ?_) (fun c1 => ?_)
  · replace hF := if_p c1 hF
    refine xe_aload_n dX12_newArray_173 rfl rfl ?_
    obtain ⟨a3, e4, t5, hF⟩ := gI_inv hF
    refine xq_getI dX12_newArray_174 fl_SeldomOpsModel_296 xk_11 e4 t5 rfl ?_
    refine xe_i2l dX12_newArray_177 ?_
    refine xe_lload dX12_newArray_178 rfl ?_
    refine xe_ladd dX12_newArray_180 ?_
    refine xe_ldc2 (v := 60) dX12_newArray_181 tw_1207 ?_
    refine xe_lcmp dX12_newArray_184 ?_
    refine xe_lif_le (tgt := 195) dX12_newArray_185 (by decide) (fun c6 => ?_) (fun c6 => ?_)
    · replace hF := if_p c6 hF
      exact xv.lv (BX12_newArray_188_ok hF) (xsub_cons rfl xsub_nil)
    · replace hF := if_n c6 hF
      refine xe_aload_n dX12_newArray_195 rfl rfl ?_
      refine xe_iload_n dX12_newArray_196 rfl rfl ?_
      refine xe_lload dX12_newArray_197 rfl ?_
      refine xe_l2i dX12_newArray_199 ?_
      obtain ⟨a12, e10, t11, hF⟩ := rcv_inv hF
      obtain ⟨v7, h8, o9, hF⟩ := cl_inv hF
      refine xz (xq_callV (As := [.int _, .int _]) (rest := []) dX12_newArray_200 mk_X12_newThing ⟨tw_1406, tw_1408, ts_69⟩ (ci := 11) rfl e10 t11 (FX12_newThing_ok o9) xP_q (by decide) (by decide) rfl rfl ?_)
      refine xe_istore dX12_newArray_203 (by decide) ?_
      refine xe_iconst (v := 0) dX12_newArray_205 (by decide) ?_
      refine xe_istore dX12_newArray_206 (by decide) ?_
      exact xv.lv (BX12_newArray_208_ok _ hF) (xsub_cons rfl (xsub_cons rfl (xsub_cons rfl (xsub_cons rfl (xsub_cons rfl (xsub_cons rfl (xsub_cons rfl (xsub_cons rfl (xsub_cons rfl xsub_nil)))))))))
  · replace hF := if_n c1 hF
    exact xv.lv (BX12_newArray_188_ok hF) (xsub_cons rfl xsub_nil)
def BX12_newArray_164 (x0 : Option Nat) (x1 : Int32) (x2 : Int32) (x3 : Int32) (x4 : Int64) (x6 : Int64) (x8 : Int64) (x10 : Int64) (x12 : Int32) (s0 : Int64) (h0 : Hp) : Option (Unit × Hp) :=
  BX12_newArray_165 x0 x1 x2 x3 x4 x6 x8 x10 x12 s0 0 h0
set_option maxRecDepth 100000 in
set_option maxHeartbeats 4000000 in
theorem BX12_newArray_164_ok {G : xG} {l : Launch} {x0 : Option Nat} {x1 : Int32} {x2 : Int32} {x3 : Int32} {x4 : Int64} {x6 : Int64} {x8 : Int64} {x10 : Int64} {x12 : Int32} {s0 : Int64} {h0 h1 : Hp} {r : Unit} (hF : BX12_newArray_164 x0 x1 x2 x3 x4 x6 x8 x10 x12 s0 h0 = some (r, h1)) : xv G l mX12_newArray 4 0 0 164 [(0, false, va_rf x0), (1, false, .int x1), (2, false, .int x2), (3, false, .int x3), (4, true, .long x4), (6, true, .long x6), (8, true, .long x8), (10, true, .long x10), (12, false, .int x12)] [.long s0] h0 (xP mkV r h1) := by
  unfold BX12_newArray_164 at hF
  refine xe_lconst (v := 0) dX12_newArray_164 (by decide) ?_
  exact xv.lv (BX12_newArray_165_ok hF) (xsub_cons rfl (xsub_cons rfl (xsub_cons rfl (xsub_cons rfl (xsub_cons rfl (xsub_cons rfl (xsub_cons rfl (xsub_cons rfl (xsub_cons rfl xsub_nil)))))))))
def BX12_newArray_140 (x0 : Option Nat) (x1 : Int32) (x2 : Int32) (x3 : Int32) (x4 : Int64) (x6 : Int64) (x8 : Int64) (x10 : Int64) (s0 : Int32) (h0 : Hp) : Option (Unit × Hp) :=
  if (2 : Int32) < x3 then
    if (s0 : Int32) = 0 then
      BX12_newArray_165 x0 x1 x2 x3 x4 x6 x8 x10 s0 (1 + x10) (x10 * x6) h0
    else
      BX12_newArray_164 x0 x1 x2 x3 x4 x6 x8 x10 s0 (1 + x10) h0
  else
    BX12_newArray_164 x0 x1 x2 x3 x4 x6 x8 x10 s0 (1 + x10) h0
set_option maxRecDepth 100000 in
set_option maxHeartbeats 4000000 in
theorem BX12_newArray_140_ok {G : xG} {l : Launch} {x0 : Option Nat} {x1 : Int32} {x2 : Int32} {x3 : Int32} {x4 : Int64} {x6 : Int64} {x8 : Int64} {x10 : Int64} {s0 : Int32} {h0 h1 : Hp} {r : Unit} (hF : BX12_newArray_140 x0 x1 x2 x3 x4 x6 x8 x10 s0 h0 = some (r, h1)) : xv G l mX12_newArray 4 0 0 140 [(0, false, va_rf x0), (1, false, .int x1), (2, false, .int x2), (3, false, .int x3), (4, true, .long x4), (6, true, .long x6), (8, true, .long x8), (10, true, .long x10)] [.int s0] h0 (xP mkV r h1) := by
  unfold BX12_newArray_140 at hF
  refine xe_istore dX12_newArray_140 (by decide) ?_
  refine xe_lconst (v := 1) dX12_newArray_142 (by decide) ?_
  refine xe_lload dX12_newArray_143 rfl ?_
  refine xe_ladd dX12_newArray_145 ?_
  refine xe_iload_n dX12_newArray_146 rfl rfl ?_
  refine xe_iconst (v := 2) dX12_newArray_147 (by decide) ?_
  refine xe_icmp_le (tgt := 164) dX12_newArray_148 (by decide) (fun c1 => ?_) (fun c1 => ?_)
  · replace hF := if_p c1 hF
    refine xe_iload dX12_newArray_151 rfl ?_
    refine xe_if_ne (tgt := 164) dX12_newArray_153 (by decide) (fun c2 => ?_) (fun c2 => ?_)
    · replace hF := if_p c2 hF
      refine xe_lload dX12_newArray_156 rfl ?_
      refine xe_lload dX12_newArray_158 rfl ?_
      refine xe_lmul dX12_newArray_160 ?_
      refine xe_goto (tgt := 165) dX12_newArray_161 (by decide) ?_
      exact xv.lv (BX12_newArray_165_ok hF) (xsub_cons rfl (xsub_cons rfl (xsub_cons rfl (xsub_cons rfl (xsub_cons rfl (xsub_cons rfl (xsub_cons rfl (xsub_cons rfl (xsub_cons rfl xsub_nil)))))))))
    · replace hF := if_n c2 hF
      exact xv.lv (BX12_newArray_164_ok hF) (xsub_cons rfl (xsub_cons rfl (xsub_cons rfl (xsub_cons rfl (xsub_cons rfl (xsub_cons rfl (xsub_cons rfl (xsub_cons rfl (xsub_cons rfl xsub_nil)))))))))
  · replace hF := if_n c1 hF
    exact xv.lv (BX12_newArray_164_ok hF) (xsub_cons rfl (xsub_cons rfl (xsub_cons rfl (xsub_cons rfl (xsub_cons rfl (xsub_cons rfl (xsub_cons rfl (xsub_cons rfl (xsub_cons rfl xsub_nil)))))))))
def BX12_newArray_135 (x0 : Option Nat) (x1 : Int32) (x2 : Int32) (x3 : Int32) (x4 : Int64) (x6 : Int64) (x8 : Int64) (x10 : Int64) (h0 : Hp) : Option (Unit × Hp) :=
  BX12_newArray_140 x0 x1 x2 x3 x4 x6 x8 x10 1 h0
set_option maxRecDepth 100000 in
set_option maxHeartbeats 4000000 in
theorem BX12_newArray_135_ok {G : xG} {l : Launch} {x0 : Option Nat} {x1 : Int32} {x2 : Int32} {x3 : Int32} {x4 : Int64} {x6 : Int64} {x8 : Int64} {x10 : Int64} {h0 h1 : Hp} {r : Unit} (hF : BX12_newArray_135 x0 x1 x2 x3 x4 x6 x8 x10 h0 = some (r, h1)) : xv G l mX12_newArray 4 0 0 135 [(0, false, va_rf x0), (1, false, .int x1), (2, false, .int x2), (3, false, .int x3), (4, true, .long x4), (6, true, .long x6), (8, true, .long x8), (10, true, .long x10)] [] h0 (xP mkV r h1) := by
  unfold BX12_newArray_135 at hF
  refine xe_iconst (v := 1) dX12_newArray_135 (by decide) ?_
  refine xe_goto (tgt := 140) dX12_newArray_136 (by decide) ?_
  exact xv.lv (BX12_newArray_140_ok hF) (xsub_cons rfl (xsub_cons rfl (xsub_cons rfl (xsub_cons rfl (xsub_cons rfl (xsub_cons rfl (xsub_cons rfl (xsub_cons rfl xsub_nil))))))))
def BX12_newArray_139 (x0 : Option Nat) (x1 : Int32) (x2 : Int32) (x3 : Int32) (x4 : Int64) (x6 : Int64) (x8 : Int64) (x10 : Int64) (h0 : Hp) : Option (Unit × Hp) :=
  BX12_newArray_140 x0 x1 x2 x3 x4 x6 x8 x10 0 h0
set_option maxRecDepth 100000 in
set_option maxHeartbeats 4000000 in
theorem BX12_newArray_139_ok {G : xG} {l : Launch} {x0 : Option Nat} {x1 : Int32} {x2 : Int32} {x3 : Int32} {x4 : Int64} {x6 : Int64} {x8 : Int64} {x10 : Int64} {h0 h1 : Hp} {r : Unit} (hF : BX12_newArray_139 x0 x1 x2 x3 x4 x6 x8 x10 h0 = some (r, h1)) : xv G l mX12_newArray 4 0 0 139 [(0, false, va_rf x0), (1, false, .int x1), (2, false, .int x2), (3, false, .int x3), (4, true, .long x4), (6, true, .long x6), (8, true, .long x8), (10, true, .long x10)] [] h0 (xP mkV r h1) := by
  unfold BX12_newArray_139 at hF
  refine xe_iconst (v := 0) dX12_newArray_139 (by decide) ?_
  exact xv.lv (BX12_newArray_140_ok hF) (xsub_cons rfl (xsub_cons rfl (xsub_cons rfl (xsub_cons rfl (xsub_cons rfl (xsub_cons rfl (xsub_cons rfl (xsub_cons rfl xsub_nil))))))))
def BX12_newArray_107 (x0 : Option Nat) (x1 : Int32) (x2 : Int32) (x3 : Int32) (x4 : Int64) (x6 : Int64) (x8 : Int64) (x10 : Int64) (h0 : Hp) : Option (Unit × Hp) :=
  if (2 : Int32) < x3 then
    if (0 : Int64) < x10 then
      if (0 : Int64) < x6 then
        if (100 : Int64) < x4 then
          BX12_newArray_135 x0 x1 x2 x3 x4 x6 x8 x10 h0
        else
          BX12_newArray_139 x0 x1 x2 x3 x4 x6 x8 x10 h0
      else
        BX12_newArray_139 x0 x1 x2 x3 x4 x6 x8 x10 h0
    else
      BX12_newArray_139 x0 x1 x2 x3 x4 x6 x8 x10 h0
  else
    BX12_newArray_139 x0 x1 x2 x3 x4 x6 x8 x10 h0
set_option maxRecDepth 100000 in
set_option maxHeartbeats 4000000 in
theorem BX12_newArray_107_ok {G : xG} {l : Launch} {x0 : Option Nat} {x1 : Int32} {x2 : Int32} {x3 : Int32} {x4 : Int64} {x6 : Int64} {x8 : Int64} {x10 : Int64} {h0 h1 : Hp} {r : Unit} (hF : BX12_newArray_107 x0 x1 x2 x3 x4 x6 x8 x10 h0 = some (r, h1)) : xv G l mX12_newArray 4 0 0 107 [(0, false, va_rf x0), (1, false, .int x1), (2, false, .int x2), (3, false, .int x3), (4, true, .long x4), (6, true, .long x6), (8, true, .long x8), (10, true, .long x10)] [] h0 (xP mkV r h1) := by
  unfold BX12_newArray_107 at hF
  refine xe_iload_n dX12_newArray_107 rfl rfl ?_
  refine xe_iconst (v := 2) dX12_newArray_108 (by decide) ?_
  refine xe_icmp_le (tgt := 139) dX12_newArray_109 (by decide) (fun c1 => ?_) (fun c1 => ?_)
  · replace hF := if_p c1 hF
    refine xe_lload dX12_newArray_112 rfl ?_
    refine xe_lconst (v := 0) dX12_newArray_114 (by decide) ?_
    refine xe_lcmp dX12_newArray_115 ?_
    refine xe_lif_le (tgt := 139) dX12_newArray_116 (by decide) (fun c2 => ?_) (fun c2 => ?_)
    · replace hF := if_p c2 hF
      refine xe_lload dX12_newArray_119 rfl ?_
      refine xe_lconst (v := 0) dX12_newArray_121 (by decide) ?_
      refine xe_lcmp dX12_newArray_122 ?_
      refine xe_lif_le (tgt := 139) dX12_newArray_123 (by decide) (fun c3 => ?_) (fun c3 => ?_)
      · replace hF := if_p c3 hF
        refine xe_lload dX12_newArray_126 rfl ?_
        refine xe_ldc2 (v := 100) dX12_newArray_128 tw_1405 ?_
        refine xe_lcmp dX12_newArray_131 ?_
        refine xe_lif_le (tgt := 139) dX12_newArray_132 (by decide) (fun c4 => ?_) (fun c4 => ?_)
        · replace hF := if_p c4 hF
          exact xv.lv (BX12_newArray_135_ok hF) (xsub_cons rfl (xsub_cons rfl (xsub_cons rfl (xsub_cons rfl (xsub_cons rfl (xsub_cons rfl (xsub_cons rfl (xsub_cons rfl xsub_nil))))))))
        · replace hF := if_n c4 hF
          exact xv.lv (BX12_newArray_139_ok hF) (xsub_cons rfl (xsub_cons rfl (xsub_cons rfl (xsub_cons rfl (xsub_cons rfl (xsub_cons rfl (xsub_cons rfl (xsub_cons rfl xsub_nil))))))))
      · replace hF := if_n c3 hF
        exact xv.lv (BX12_newArray_139_ok hF) (xsub_cons rfl (xsub_cons rfl (xsub_cons rfl (xsub_cons rfl (xsub_cons rfl (xsub_cons rfl (xsub_cons rfl (xsub_cons rfl xsub_nil))))))))
    · replace hF := if_n c2 hF
      exact xv.lv (BX12_newArray_139_ok hF) (xsub_cons rfl (xsub_cons rfl (xsub_cons rfl (xsub_cons rfl (xsub_cons rfl (xsub_cons rfl (xsub_cons rfl (xsub_cons rfl xsub_nil))))))))
  · replace hF := if_n c1 hF
    exact xv.lv (BX12_newArray_139_ok hF) (xsub_cons rfl (xsub_cons rfl (xsub_cons rfl (xsub_cons rfl (xsub_cons rfl (xsub_cons rfl (xsub_cons rfl (xsub_cons rfl xsub_nil))))))))
def BX12_newArray_80 (x0 : Option Nat) (x1 : Int32) (x2 : Int32) (x3 : Int32) (x4 : Int64) (x6 : Int64) (x8 : Int64) (s0 : Int64) (h0 : Hp) : Option (Unit × Hp) :=
  if (100 : Int64) < x8 then
    BX12_newArray_135 x0 x1 x2 x3 x4 x6 x8 s0 h0
  else
    if (0 : Int64) < s0 then
      if (100 : Int64) < x6 then
        BX12_newArray_135 x0 x1 x2 x3 x4 x6 x8 s0 h0
      else
        BX12_newArray_107 x0 x1 x2 x3 x4 x6 x8 s0 h0
    else
      BX12_newArray_107 x0 x1 x2 x3 x4 x6 x8 s0 h0
set_option maxRecDepth 100000 in
set_option maxHeartbeats 4000000 in
theorem BX12_newArray_80_ok {G : xG} {l : Launch} {x0 : Option Nat} {x1 : Int32} {x2 : Int32} {x3 : Int32} {x4 : Int64} {x6 : Int64} {x8 : Int64} {s0 : Int64} {h0 h1 : Hp} {r : Unit} (hF : BX12_newArray_80 x0 x1 x2 x3 x4 x6 x8 s0 h0 = some (r, h1)) : xv G l mX12_newArray 4 0 0 80 [(0, false, va_rf x0), (1, false, .int x1), (2, false, .int x2), (3, false, .int x3), (4, true, .long x4), (6, true, .long x6), (8, true, .long x8)] [.long s0] h0 (xP mkV r h1) := by
  unfold BX12_newArray_80 at hF
  refine xe_lstore dX12_newArray_80 (by decide) ?_
  refine xe_lload dX12_newArray_82 rfl ?_
  refine xe_ldc2 (v := 100) dX12_newArray_84 tw_1405 ?_
  refine xe_lcmp dX12_newArray_87 ?_
  refine xe_lif_gt (tgt := 135) dX12_newArray_88 (by decide) (fun c1 => ?_) (fun c1 => ?_)
  · replace hF := if_p c1 hF
    exact xv.lv (BX12_newArray_135_ok hF) (xsub_cons rfl (xsub_cons rfl (xsub_cons rfl (xsub_cons rfl (xsub_cons rfl (xsub_cons rfl (xsub_cons rfl (xsub_cons rfl xsub_nil))))))))
  · replace hF := if_n c1 hF
    refine xe_lload dX12_newArray_91 rfl ?_
    refine xe_lconst (v := 0) dX12_newArray_93 (by decide) ?_
    refine xe_lcmp dX12_newArray_94 ?_
    refine xe_lif_le (tgt := 107) dX12_newArray_95 (by decide) (fun c2 => ?_) (fun c2 => ?_)
    · replace hF := if_p c2 hF
      refine xe_lload dX12_newArray_98 rfl ?_
      refine xe_ldc2 (v := 100) dX12_newArray_100 tw_1405 ?_
      refine xe_lcmp dX12_newArray_103 ?_
      refine xe_lif_gt (tgt := 135) dX12_newArray_104 (by decide) (fun c3 => ?_) (fun c3 => ?_)
      · replace hF := if_p c3 hF
        exact xv.lv (BX12_newArray_135_ok hF) (xsub_cons rfl (xsub_cons rfl (xsub_cons rfl (xsub_cons rfl (xsub_cons rfl (xsub_cons rfl (xsub_cons rfl (xsub_cons rfl xsub_nil))))))))
      · replace hF := if_n c3 hF
        exact xv.lv (BX12_newArray_107_ok hF) (xsub_cons rfl (xsub_cons rfl (xsub_cons rfl (xsub_cons rfl (xsub_cons rfl (xsub_cons rfl (xsub_cons rfl (xsub_cons rfl xsub_nil))))))))
    · replace hF := if_n c2 hF
      exact xv.lv (BX12_newArray_107_ok hF) (xsub_cons rfl (xsub_cons rfl (xsub_cons rfl (xsub_cons rfl (xsub_cons rfl (xsub_cons rfl (xsub_cons rfl (xsub_cons rfl xsub_nil))))))))
def BX12_newArray_63 (x0 : Option Nat) (h0 : Hp) : Option (Unit × Hp) :=
  rcv h0 x0 11 <|
  cl (FX12_fail x0 4 h0) fun v1 h2 =>
  some ((), h2)
set_option maxRecDepth 100000 in
set_option maxHeartbeats 4000000 in
theorem BX12_newArray_63_ok {G : xG} {l : Launch} {x0 : Option Nat} {h0 h1 : Hp} {r : Unit} (hF : BX12_newArray_63 x0 h0 = some (r, h1)) : xv G l mX12_newArray 4 0 0 63 [(0, false, va_rf x0)] [] h0 (xP mkV r h1) := by
  unfold BX12_newArray_63 at hF
  refine xe_aload_n dX12_newArray_63 rfl rfl ?_
  refine xe_iconst (v := 4) dX12_newArray_64 (by decide) ?_
  obtain ⟨a6, e4, t5, hF⟩ := rcv_inv hF
  obtain ⟨v1, h2, o3, hF⟩ := cl_inv hF
  refine xz (xq_callV (As := [.int _]) (rest := []) dX12_newArray_65 mk_X12_fail ⟨tw_1363, tw_1365, ts_64⟩ (ci := 11) rfl e4 t5 (FX12_fail_ok o3) xP_q (by decide) (by decide) rfl rfl ?_)
  exact xe_return dX12_newArray_68 (xP_ret (mk := mkV) hF)
def BX12_newArray_32 (x0 : Option Nat) (x1 : Int32) (x2 : Int32) (x3 : Int32) (x4 : Int64) (s0 : Int64) (h0 : Hp) : Option (Unit × Hp) :=
  rcv h0 x0 11 <|
  cl (FX12_takeInt x0 x1 h0) fun v1 h2 =>
  if ((Int32.toInt64 v1) : Int64) < 0 then
    BX12_newArray_63 x0 h2
  else
    if (s0 : Int64) < 0 then
      BX12_newArray_63 x0 h2
    else
      if (x4 : Int64) < 0 then
        BX12_newArray_63 x0 h2
      else
        if (1 : Int32) < x3 then
          BX12_newArray_80 x0 x1 x2 x3 x4 s0 (Int32.toInt64 v1) (Int32.toInt64 v1) h2
        else
          BX12_newArray_80 x0 x1 x2 x3 x4 s0 (Int32.toInt64 v1) 0 h2
set_option maxRecDepth 100000 in
set_option maxHeartbeats 4000000 in
theorem BX12_newArray_32_ok {G : xG} {l : Launch} {x0 : Option Nat} {x1 : Int32} {x2 : Int32} {x3 : Int32} {x4 : Int64} {s0 : Int64} {h0 h1 : Hp} {r : Unit} (hF : BX12_newArray_32 x0 x1 x2 x3 x4 s0 h0 = some (r, h1)) : xv G l mX12_newArray 4 0 0 32 [(0, false, va_rf x0), (1, false, .int x1), (2, false, .int x2), (3, false, .int x3), (4, true, .long x4)] [.long s0] h0 (xP mkV r h1) := by
  unfold BX12_newArray_32 at hF
  refine xe_lstore dX12_newArray_32 (by decide) ?_
  refine xe_aload_n dX12_newArray_34 rfl rfl ?_
  refine xe_iload_n dX12_newArray_35 rfl rfl ?_
  obtain ⟨a6, e4, t5, hF⟩ := rcv_inv hF
  obtain ⟨v1, h2, o3, hF⟩ := cl_inv hF
  refine xz (xq_callV (As := [.int _]) (rest := []) dX12_newArray_36 mk_X12_takeInt ⟨tw_1393, tw_1395, ts_66⟩ (ci := 11) rfl e4 t5 (FX12_takeInt_ok o3) xP_q (by decide) (by decide) rfl rfl ?_)
  refine xe_i2l dX12_newArray_39 ?_
  refine xe_lstore dX12_newArray_40 (by decide) ?_
  refine xe_lload dX12_newArray_42 rfl ?_
  refine xe_lconst (v := 0) dX12_newArray_44 (by decide) ?_
  refine xe_lcmp dX12_newArray_45 ?_
  refine xe_lif_lt (tgt := 63) dX12_newArray_46 (by decide) (fun c7 => ?_) (fun c7 => ?_)
  · replace hF := if_p c7 hF
    exact xv.lv (BX12_newArray_63_ok hF) (xsub_cons rfl xsub_nil)
  · replace hF := if_n c7 hF
    refine xe_lload dX12_newArray_49 rfl ?_
    refine xe_lconst (v := 0) dX12_newArray_51 (by decide) ?_
    refine xe_lcmp dX12_newArray_52 ?_
    refine xe_lif_lt (tgt := 63) dX12_newArray_53 (by decide) (fun c8 => ?_) (fun c8 => ?_)
    · replace hF := if_p c8 hF
      exact xv.lv (BX12_newArray_63_ok hF) (xsub_cons rfl xsub_nil)
    · replace hF := if_n c8 hF
      refine xe_lload dX12_newArray_56 rfl ?_
      refine xe_lconst (v := 0) dX12_newArray_58 (by decide) ?_
      refine xe_lcmp dX12_newArray_59 ?_
      refine xe_lif_ge (tgt := 69) dX12_newArray_60 (by decide) (fun c9 => ?_) (fun c9 => ?_)
      · replace hF := if_p c9 hF
        exact xv.lv (BX12_newArray_63_ok hF) (xsub_cons rfl xsub_nil)
      · replace hF := if_n c9 hF
        refine xe_iload_n dX12_newArray_69 rfl rfl ?_
        refine xe_iconst (v := 1) dX12_newArray_70 (by decide) ?_
        refine xe_icmp_le (tgt := 79) dX12_newArray_71 (by decide) (fun c10 => ?_) (fun c10 => ?_)
        · replace hF := if_p c10 hF
          refine xe_lload dX12_newArray_74 rfl ?_
          refine xe_goto (tgt := 80) dX12_newArray_76 (by decide) ?_
          exact xv.lv (BX12_newArray_80_ok hF) (xsub_cons rfl (xsub_cons rfl (xsub_cons rfl (xsub_cons rfl (xsub_cons rfl (xsub_cons rfl (xsub_cons rfl xsub_nil)))))))
        · replace hF := if_n c10 hF
          refine xe_lconst (v := 0) dX12_newArray_79 (by decide) ?_
          exact xv.lv (BX12_newArray_80_ok hF) (xsub_cons rfl (xsub_cons rfl (xsub_cons rfl (xsub_cons rfl (xsub_cons rfl (xsub_cons rfl (xsub_cons rfl xsub_nil)))))))
def BX12_newArray_15 (x0 : Option Nat) (x1 : Int32) (x2 : Int32) (x3 : Int32) (s0 : Int64) (h0 : Hp) : Option (Unit × Hp) :=
  if (1 : Int32) < x3 then
    rcv h0 x0 11 <|
    cl (FX12_takeInt x0 x1 h0) fun v2 h3 =>
    BX12_newArray_32 x0 x1 x2 x3 s0 (Int32.toInt64 v2) h3
  else
    BX12_newArray_32 x0 x1 x2 x3 s0 0 h0
set_option maxRecDepth 100000 in
set_option maxHeartbeats 4000000 in
theorem BX12_newArray_15_ok {G : xG} {l : Launch} {x0 : Option Nat} {x1 : Int32} {x2 : Int32} {x3 : Int32} {s0 : Int64} {h0 h1 : Hp} {r : Unit} (hF : BX12_newArray_15 x0 x1 x2 x3 s0 h0 = some (r, h1)) : xv G l mX12_newArray 4 0 0 15 [(0, false, va_rf x0), (1, false, .int x1), (2, false, .int x2), (3, false, .int x3)] [.long s0] h0 (xP mkV r h1) := by
  unfold BX12_newArray_15 at hF
  refine xe_lstore dX12_newArray_15 (by decide) ?_
  refine xe_iload_n dX12_newArray_17 rfl rfl ?_
  refine xe_iconst (v := 1) dX12_newArray_18 (by decide) ?_
  refine xe_icmp_le (tgt := 31) dX12_newArray_19 (by decide) (fun c1 => ?_) (fun c1 => ?_)
  · replace hF := if_p c1 hF
    refine xe_aload_n dX12_newArray_22 rfl rfl ?_
    refine xe_iload_n dX12_newArray_23 rfl rfl ?_
    obtain ⟨a7, e5, t6, hF⟩ := rcv_inv hF
    obtain ⟨v2, h3, o4, hF⟩ := cl_inv hF
    refine xz (xq_callV (As := [.int _]) (rest := []) dX12_newArray_24 mk_X12_takeInt ⟨tw_1393, tw_1395, ts_66⟩ (ci := 11) rfl e5 t6 (FX12_takeInt_ok o4) xP_q (by decide) (by decide) rfl rfl ?_)
    refine xe_i2l dX12_newArray_27 ?_
    refine xe_goto (tgt := 32) dX12_newArray_28 (by decide) ?_
    exact xv.lv (BX12_newArray_32_ok hF) (xsub_cons rfl (xsub_cons rfl (xsub_cons rfl (xsub_cons rfl (xsub_cons rfl xsub_nil)))))
  · replace hF := if_n c1 hF
    refine xe_lconst (v := 0) dX12_newArray_31 (by decide) ?_
    exact xv.lv (BX12_newArray_32_ok hF) (xsub_cons rfl (xsub_cons rfl (xsub_cons rfl (xsub_cons rfl (xsub_cons rfl xsub_nil)))))
def FX12_newArray (p0 : Option Nat) (p1 : Int32) (p2 : Int32) (p3 : Int32) (h0 : Hp) : Option (Unit × Hp) :=
  if (2 : Int32) < p3 then
    rcv h0 p0 11 <|
    cl (FX12_takeInt p0 p1 h0) fun v2 h3 =>
    BX12_newArray_15 p0 p1 p2 p3 (Int32.toInt64 v2) h3
  else
    BX12_newArray_15 p0 p1 p2 p3 0 h0
set_option maxRecDepth 100000 in
set_option maxHeartbeats 4000000 in
theorem FX12_newArray_ok {G : xG} {l : Launch} {p0 : Option Nat} {p1 : Int32} {p2 : Int32} {p3 : Int32} {h0 h1 : Hp} {r : Unit} (hF : FX12_newArray p0 p1 p2 p3 h0 = some (r, h1)) : xc G l mX12_newArray 4 0 0 [va_rf p0, .int p1, .int p2, .int p3] h0 (xP mkV r h1) := by
  refine xo_V [.inr (.inr _), .inl _, .inl _, .inl _] (by decide) (Nat.le_of_ble_eq_true rfl) rfl ?_
  show xv _ _ _ _ _ _ _ [(0, false, va_rf p0), (1, false, .int p1), (2, false, .int p2), (3, false, .int p3)] _ _ _
  unfold FX12_newArray at hF
  refine xe_iload_n dX12_newArray_0 rfl rfl ?_
  refine xe_iconst (v := 2) dX12_newArray_1 (by decide) ?_
  refine xe_icmp_le (tgt := 14) dX12_newArray_2 (by decide) (fun c1 => ?_) (fun c1 => ?_)
  · replace hF := if_p c1 hF
    refine xe_aload_n dX12_newArray_5 rfl rfl ?_
    refine xe_iload_n dX12_newArray_6 rfl rfl ?_
    obtain ⟨a7, e5, t6, hF⟩ := rcv_inv hF
    obtain ⟨v2, h3, o4, hF⟩ := cl_inv hF
    refine xz (xq_callV (As := [.int _]) (rest := []) dX12_newArray_7 mk_X12_takeInt ⟨tw_1393, tw_1395, ts_66⟩ (ci := 11) rfl e5 t6 (FX12_takeInt_ok o4) xP_q (by decide) (by decide) rfl rfl ?_)
    refine xe_i2l dX12_newArray_10 ?_
    refine xe_goto (tgt := 15) dX12_newArray_11 (by decide) ?_
    exact xv.lv (BX12_newArray_15_ok hF) (xsub_cons rfl (xsub_cons rfl (xsub_cons rfl (xsub_cons rfl xsub_nil))))
  · replace hF := if_n c1 hF
    refine xe_lconst (v := 0) dX12_newArray_14 (by decide) ?_
    exact xv.lv (BX12_newArray_15_ok hF) (xsub_cons rfl (xsub_cons rfl (xsub_cons rfl (xsub_cons rfl xsub_nil))))
/-! SeldomOpsModel.isArray(I)Z -/
def FX12_isArray (p0 : Option Nat) (p1 : Int32) (h0 : Hp) : Option (Int32 × Hp) :=
  gR h0 p0 11 41 fun v1 =>
  aI h0 v1 .int p1 fun v5 =>
  if (v5 : Int32) < 8 then
    bz 0 (some (0, h0))
  else
    bz 1 (some (1, h0))
set_option maxRecDepth 100000 in
set_option maxHeartbeats 4000000 in
theorem FX12_isArray_ok {G : xG} {l : Launch} {p0 : Option Nat} {p1 : Int32} {h0 h1 : Hp} {r : Int32} (hF : FX12_isArray p0 p1 h0 = some (r, h1)) : xc G l mX12_isArray 1 0 0 [va_rf p0, .int p1] h0 (xPZ r h1) := by
  refine xo_Z [.inr (.inr _), .inl _] (by decide) (Nat.le_of_ble_eq_true rfl) rfl ?_
  show xv _ _ _ _ _ _ _ [(0, false, va_rf p0), (1, false, .int p1)] _ _ _
  unfold FX12_isArray at hF
  refine xe_aload_n dX12_isArray_0 rfl rfl ?_
  obtain ⟨a2, e3, t4, hF⟩ := gR_inv hF
  refine xq_getR dX12_isArray_1 fl_SeldomOpsModel_115 xk_11 e3 t4 rfl ?_
  refine xe_iload_n dX12_isArray_4 rfl rfl ?_
  obtain ⟨a6, n7, e8, t9, b10, hF⟩ := aI_inv hF
  refine xq_iald dX12_isArray_5 e8 t9 b10 ?_
  refine xe_bipush (v := 8) dX12_isArray_6 (by decide) ?_
  refine xe_icmp_lt (tgt := 15) dX12_isArray_8 (by decide) (fun c11 => ?_) (fun c11 => ?_)
  · replace hF := if_p c11 hF
    refine xe_iconst (v := 0) dX12_isArray_15 (by decide) ?_
    obtain ⟨z12, hF⟩ := bz_inv hF
    exact xe_ireturn dX12_isArray_16 (xPZ_ret z12 hF)
  · replace hF := if_n c11 hF
    refine xe_iconst (v := 1) dX12_isArray_11 (by decide) ?_
    refine xe_goto (tgt := 16) dX12_isArray_12 (by decide) ?_
    obtain ⟨z13, hF⟩ := bz_inv hF
    exact xe_ireturn dX12_isArray_16 (xPZ_ret z13 hF)
/-! SeldomOpsModel.cellOf(III)V -/
def BX12_cellOf_212 (x0 : Option Nat) (x3 : Int32) (x5 : Int64) (x10 : Int32) (h0 : Hp) : Option (Unit × Hp) :=
  gR h0 x0 11 45 fun v1 =>
  if (x3 : Int32) = 5 then
    cl (FX12_narrow x5 0 h0) fun v6 h7 =>
    sL h7 v1 x10 v6 fun h9 =>
    some ((), h9)
  else
    if (x3 : Int32) = 6 then
      cl (FX12_narrow x5 1 h0) fun v17 h18 =>
      sL h18 v1 x10 v17 fun h20 =>
      some ((), h20)
    else
      if (x3 : Int32) = 7 then
        cl (FX12_narrow x5 2 h0) fun v28 h29 =>
        sL h29 v1 x10 v28 fun h31 =>
        some ((), h31)
      else
        sL h0 v1 x10 x5 fun h38 =>
        some ((), h38)
set_option maxRecDepth 100000 in
set_option maxHeartbeats 4000000 in
theorem BX12_cellOf_212_ok {G : xG} {l : Launch} {x0 : Option Nat} {x3 : Int32} {x5 : Int64} {x10 : Int32} {h0 h1 : Hp} {r : Unit} (hF : BX12_cellOf_212 x0 x3 x5 x10 h0 = some (r, h1)) : xv G l mX12_cellOf 4 0 0 212 [(0, false, va_rf x0), (3, false, .int x3), (5, true, .long x5), (10, false, .int x10)] [] h0 (xP mkV r h1) := by
  unfold BX12_cellOf_212 at hF
  refine xe_aload_n dX12_cellOf_212 rfl rfl ?_
  obtain ⟨a2, e3, t4, hF⟩ := gR_inv hF
  refine xq_getR dX12_cellOf_213 fl_SeldomOpsModel_127 xk_11 e3 t4 rfl ?_
  refine xe_iload dX12_cellOf_216 rfl ?_
  refine xe_iload_n dX12_cellOf_218 rfl rfl ?_
  refine xe_iconst (v := 5) dX12_cellOf_219 (by decide) ?_
  refine xe_icmp_ne (tgt := 232) dX12_cellOf_220 (by decide) (fun c5 => ?_) (fun c5 => ?_)
  · replace hF := if_p c5 hF
    refine xe_lload dX12_cellOf_223 rfl ?_
    refine xe_iconst (v := 0) dX12_cellOf_225 (by decide) ?_
    obtain ⟨v6, h7, o8, hF⟩ := cl_inv hF
    refine xz (xq_callS (As := [.long _, .int _]) (rest := [.int _, va_rf _]) dX12_cellOf_226 mk_X12_narrow ⟨tw_1370, tw_1371⟩ (FX12_narrow_ok o8) xP_q (by decide) (Nat.le_trans (cs_i (cs_r cs_0)) (by decide)) rfl rfl ?_)
    refine xe_goto (tgt := 264) dX12_cellOf_229 (by decide) ?_
    obtain ⟨a10, n11, e12, t13, b14, hF⟩ := sL_inv hF
    refine xq_last dX12_cellOf_264 e12 t13 b14 ?_
    exact xe_return dX12_cellOf_265 (xP_ret (mk := mkV) hF)
  · replace hF := if_n c5 hF
    refine xe_iload_n dX12_cellOf_232 rfl rfl ?_
    refine xe_bipush (v := 6) dX12_cellOf_233 (by decide) ?_
    refine xe_icmp_ne (tgt := 247) dX12_cellOf_235 (by decide) (fun c16 => ?_) (fun c16 => ?_)
    · replace hF := if_p c16 hF
      refine xe_lload dX12_cellOf_238 rfl ?_
      refine xe_iconst (v := 1) dX12_cellOf_240 (by decide) ?_
      obtain ⟨v17, h18, o19, hF⟩ := cl_inv hF
      refine xz (xq_callS (As := [.long _, .int _]) (rest := [.int _, va_rf _]) dX12_cellOf_241 mk_X12_narrow ⟨tw_1370, tw_1371⟩ (FX12_narrow_ok o19) xP_q (by decide) (Nat.le_trans (cs_i (cs_r cs_0)) (by decide)) rfl rfl ?_)
      refine xe_goto (tgt := 264) dX12_cellOf_244 (by decide) ?_
      obtain ⟨a21, n22, e23, t24, b25, hF⟩ := sL_inv hF
      refine xq_last dX12_cellOf_264 e23 t24 b25 ?_
      exact xe_return dX12_cellOf_265 (xP_ret (mk := mkV) hF)
    · replace hF := if_n c16 hF
      refine xe_iload_n dX12_cellOf_247 rfl rfl ?_
      refine xe_bipush (v := 7) dX12_cellOf_248 (by decide) ?_
      refine xe_icmp_ne (tgt := 262) dX12_cellOf_250 (by decide) (fun c27 => ?_) (fun c27 => ?_)
      · replace hF := if_p c27 hF
        refine xe_lload dX12_cellOf_253 rfl ?_
        refine xe_iconst (v := 2) dX12_cellOf_255 (by decide) ?_
        obtain ⟨v28, h29, o30, hF⟩ := cl_inv hF
        refine xz (xq_callS (As := [.long _, .int _]) (rest := [.int _, va_rf _]) dX12_cellOf_256 mk_X12_narrow ⟨tw_1370, tw_1371⟩ (FX12_narrow_ok o30) xP_q (by decide) (Nat.le_trans (cs_i (cs_r cs_0)) (by decide)) rfl rfl ?_)
        refine xe_goto (tgt := 264) dX12_cellOf_259 (by decide) ?_
        obtain ⟨a32, n33, e34, t35, b36, hF⟩ := sL_inv hF
        refine xq_last dX12_cellOf_264 e34 t35 b36 ?_
        exact xe_return dX12_cellOf_265 (xP_ret (mk := mkV) hF)
      · replace hF := if_n c27 hF
        refine xe_lload dX12_cellOf_262 rfl ?_
        obtain ⟨a39, n40, e41, t42, b43, hF⟩ := sL_inv hF
        refine xq_last dX12_cellOf_264 e41 t42 b43 ?_
        exact xe_return dX12_cellOf_265 (xP_ret (mk := mkV) hF)
def BX12_cellOf_98 (x0 : Option Nat) (x1 : Int32) (x2 : Int32) (x3 : Int32) (x4 : Int32) (x5 : Int64) (x7 : Int32) (x8 : Int32) (s0 : Int32) (h0 : Hp) : Option (Unit × Hp) :=
  if (s0 : Int32) = x3 then
    gR h0 x0 11 42 fun v2 =>
    aI h0 v2 .int x8 fun v6 =>
    cl (FX12_in (Int32.toInt64 x7) 0 (Int32.toInt64 (v6 - 1)) h0) fun v12 h13 =>
    if (v12 : Int32) = 0 then
      rcv h13 x0 11 <|
      cl (FX12_fail x0 2 h13) fun v16 h17 =>
      some ((), h17)
    else
      gR h13 x0 11 44 fun v22 =>
      aI h13 v22 .int x8 fun v26 =>
      if (x2 : Int32) = 25 then
        gR h13 x0 11 45 fun v33 =>
        aL h13 v33 (v26 + x7) fun v37 =>
        rcv h13 x0 11 <|
        cl (FX12_put x0 x1 x4 v37 h13) fun v43 h44 =>
        some ((), h44)
      else
        if (x3 : Int32) = 4 then
          if (x5 : Int64) = (-1) then
            BX12_cellOf_212 x0 x3 x5 (v26 + x7) h13
          else
            gR h13 x0 11 41 fun v51 =>
            aI h13 v51 .int (Int64.toInt32 x5) fun v55 =>
            gR h13 x0 11 41 fun v61 =>
            aI h13 v61 .int x8 fun v65 =>
            if (v55 : Int32) = (v65 - 8) then
              BX12_cellOf_212 x0 x3 x5 (v26 + x7) h13
            else
              rcv h13 x0 11 <|
              cl (FX12_fail x0 3 h13) fun v72 h73 =>
              some ((), h73)
        else
          BX12_cellOf_212 x0 x3 x5 (v26 + x7) h13
  else
    rcv h0 x0 11 <|
    cl (FX12_fail x0 5 h0) fun v78 h79 =>
    some ((), h79)
set_option maxRecDepth 100000 in
set_option maxHeartbeats 4000000 in
theorem BX12_cellOf_98_ok {G : xG} {l : Launch} {x0 : Option Nat} {x1 : Int32} {x2 : Int32} {x3 : Int32} {x4 : Int32} {x5 : Int64} {x7 : Int32} {x8 : Int32} {s0 : Int32} {h0 h1 : Hp} {r : Unit} (hF : BX12_cellOf_98 x0 x1 x2 x3 x4 x5 x7 x8 s0 h0 = some (r, h1)) : xv G l mX12_cellOf 4 0 0 98 [(0, false, va_rf x0), (1, false, .int x1), (2, false, .int x2), (3, false, .int x3), (4, false, .int x4), (5, true, .long x5), (7, false, .int x7), (8, false, .int x8)] [.int s0] h0 (xP mkV r h1) := by
  unfold BX12_cellOf_98 at hF
  refine xe_istore dX12_cellOf_98 (by decide) ?_
  refine xe_iload dX12_cellOf_100 rfl ?_
  refine xe_iload_n dX12_cellOf_102 rfl rfl ?_
  refine xe_icmp_eq (tgt := 112) dX12_cellOf_103 (by decide) (fun c1 => ?_) (fun c1 => ?_)
  · replace hF := if_p c1 hF
    refine xe_iload dX12_cellOf_112 rfl ?_
    refine xe_i2l dX12_cellOf_114 ?_
    refine xe_lconst (v := 0) dX12_cellOf_115 (by decide) ?_
    refine xe_aload_n dX12_cellOf_116 rfl rfl ?_
    obtain ⟨a3, e4, t5, hF⟩ := gR_inv hF
    refine xq_getR dX12_cellOf_117 fl_SeldomOpsModel_118 xk_11 e4 t5 rfl ?_
    refine xe_iload dX12_cellOf_120 rfl ?_
    obtain ⟨a7, n8, e9, t10, b11, hF⟩ := aI_inv hF
    refine xq_iald dX12_cellOf_122 e9 t10 b11 ?_
    refine xe_iconst (v := 1) dX12_cellOf_123 (by decide) ?_
    refine xe_isub dX12_cellOf_124 ?_
    refine xe_i2l dX12_cellOf_125 ?_
    obtain ⟨v12, h13, o14, hF⟩ := cl_inv hF
    refine xz (xq_callS (As := [.long _, .long _, .long _]) (rest := []) dX12_cellOf_126 mk_X12_in ⟨tw_1174, tw_1175⟩ (FX12_in_ok o14) xPZ_q (by decide) (by decide) rfl rfl ?_)
    refine xe_if_ne (tgt := 138) dX12_cellOf_129 (by decide) (fun c15 => ?_) (fun c15 => ?_)
    · replace hF := if_p c15 hF
      refine xe_aload_n dX12_cellOf_132 rfl rfl ?_
      refine xe_iconst (v := 2) dX12_cellOf_133 (by decide) ?_
      obtain ⟨a21, e19, t20, hF⟩ := rcv_inv hF
      obtain ⟨v16, h17, o18, hF⟩ := cl_inv hF
      refine xz (xq_callV (As := [.int _]) (rest := []) dX12_cellOf_134 mk_X12_fail ⟨tw_1363, tw_1365, ts_64⟩ (ci := 11) rfl e19 t20 (FX12_fail_ok o18) xP_q (by decide) (by decide) rfl rfl ?_)
      exact xe_return dX12_cellOf_137 (xP_ret (mk := mkV) hF)
    · replace hF := if_n c15 hF
      refine xe_aload_n dX12_cellOf_138 rfl rfl ?_
      obtain ⟨a23, e24, t25, hF⟩ := gR_inv hF
      refine xq_getR dX12_cellOf_139 fl_SeldomOpsModel_124 xk_11 e24 t25 rfl ?_
      refine xe_iload dX12_cellOf_142 rfl ?_
      obtain ⟨a27, n28, e29, t30, b31, hF⟩ := aI_inv hF
      refine xq_iald dX12_cellOf_144 e29 t30 b31 ?_
      refine xe_iload dX12_cellOf_145 rfl ?_
      refine xe_iadd dX12_cellOf_147 ?_
      refine xe_istore dX12_cellOf_148 (by decide) ?_
      refine xe_iload_n dX12_cellOf_150 rfl rfl ?_
      refine xe_bipush (v := 25) dX12_cellOf_151 (by decide) ?_
      refine xe_icmp_ne (tgt := 171) dX12_cellOf_153 (by decide) (fun c32 => ?_) (fun c32 => ?_)
      · replace hF := if_p c32 hF
        refine xe_aload_n dX12_cellOf_156 rfl rfl ?_
        refine xe_iload_n dX12_cellOf_157 rfl rfl ?_
        refine xe_iload dX12_cellOf_158 rfl ?_
        refine xe_aload_n dX12_cellOf_160 rfl rfl ?_
        obtain ⟨a34, e35, t36, hF⟩ := gR_inv hF
        refine xq_getR dX12_cellOf_161 fl_SeldomOpsModel_127 xk_11 e35 t36 rfl ?_
        refine xe_iload dX12_cellOf_164 rfl ?_
        obtain ⟨a38, n39, e40, t41, b42, hF⟩ := aL_inv hF
        refine xq_lald dX12_cellOf_166 e40 t41 b42 ?_
        obtain ⟨a48, e46, t47, hF⟩ := rcv_inv hF
        obtain ⟨v43, h44, o45, hF⟩ := cl_inv hF
        refine xz (xq_callV (As := [.int _, .int _, .long _]) (rest := []) dX12_cellOf_167 mk_X12_put ⟨tw_1351, tw_1353, ts_61⟩ (ci := 11) rfl e46 t47 (FX12_put_ok o45) xP_q (by decide) (by decide) rfl rfl ?_)
        exact xe_return dX12_cellOf_170 (xP_ret (mk := mkV) hF)
      · replace hF := if_n c32 hF
        refine xe_iload_n dX12_cellOf_171 rfl rfl ?_
        refine xe_iconst (v := 4) dX12_cellOf_172 (by decide) ?_
        refine xe_icmp_ne (tgt := 212) dX12_cellOf_173 (by decide) (fun c49 => ?_) (fun c49 => ?_)
        · replace hF := if_p c49 hF
          refine xe_lload dX12_cellOf_176 rfl ?_
          refine xe_ldc2 (v := (-1)) dX12_cellOf_178 tw_1209 ?_
          refine xe_lcmp dX12_cellOf_181 ?_
          refine xe_lif_eq (tgt := 212) dX12_cellOf_182 (by decide) (fun c50 => ?_) (fun c50 => ?_)
          · replace hF := if_p c50 hF
            exact xv.lv (BX12_cellOf_212_ok hF) (xsub_cons rfl (xsub_cons rfl (xsub_cons rfl (xsub_cons rfl xsub_nil))))
          · replace hF := if_n c50 hF
            refine xe_aload_n dX12_cellOf_185 rfl rfl ?_
            obtain ⟨a52, e53, t54, hF⟩ := gR_inv hF
            refine xq_getR dX12_cellOf_186 fl_SeldomOpsModel_115 xk_11 e53 t54 rfl ?_
            refine xe_lload dX12_cellOf_189 rfl ?_
            refine xe_l2i dX12_cellOf_191 ?_
            obtain ⟨a56, n57, e58, t59, b60, hF⟩ := aI_inv hF
            refine xq_iald dX12_cellOf_192 e58 t59 b60 ?_
            refine xe_aload_n dX12_cellOf_193 rfl rfl ?_
            obtain ⟨a62, e63, t64, hF⟩ := gR_inv hF
            refine xq_getR dX12_cellOf_194 fl_SeldomOpsModel_115 xk_11 e63 t64 rfl ?_
            refine xe_iload dX12_cellOf_197 rfl ?_
            obtain ⟨a66, n67, e68, t69, b70, hF⟩ := aI_inv hF
            refine xq_iald dX12_cellOf_199 e68 t69 b70 ?_
            refine xe_bipush (v := 8) dX12_cellOf_200 (by decide) ?_
            refine xe_isub dX12_cellOf_202 ?_
            refine xe_icmp_eq (tgt := 212) dX12_cellOf_203 (by decide) (fun c71 => ?_) (fun c71 => ?_)
            · replace hF := if_p c71 hF
              exact xv.lv (BX12_cellOf_212_ok hF) (xsub_cons rfl (xsub_cons rfl (xsub_cons rfl (xsub_cons rfl xsub_nil))))
            · replace hF := if_n c71 hF
              refine xe_aload_n dX12_cellOf_206 rfl rfl ?_
              refine xe_iconst (v := 3) dX12_cellOf_207 (by decide) ?_
              obtain ⟨a77, e75, t76, hF⟩ := rcv_inv hF
              obtain ⟨v72, h73, o74, hF⟩ := cl_inv hF
              refine xz (xq_callV (As := [.int _]) (rest := []) dX12_cellOf_208 mk_X12_fail ⟨tw_1363, tw_1365, ts_64⟩ (ci := 11) rfl e75 t76 (FX12_fail_ok o74) xP_q (by decide) (by decide) rfl rfl ?_)
              exact xe_return dX12_cellOf_211 (xP_ret (mk := mkV) hF)
        · replace hF := if_n c49 hF
          exact xv.lv (BX12_cellOf_212_ok hF) (xsub_cons rfl (xsub_cons rfl (xsub_cons rfl (xsub_cons rfl xsub_nil))))
  · replace hF := if_n c1 hF
    refine xe_aload_n dX12_cellOf_106 rfl rfl ?_
    refine xe_iconst (v := 5) dX12_cellOf_107 (by decide) ?_
    obtain ⟨a83, e81, t82, hF⟩ := rcv_inv hF
    obtain ⟨v78, h79, o80, hF⟩ := cl_inv hF
    refine xz (xq_callV (As := [.int _]) (rest := []) dX12_cellOf_108 mk_X12_fail ⟨tw_1363, tw_1365, ts_64⟩ (ci := 11) rfl e81 t82 (FX12_fail_ok o80) xP_q (by decide) (by decide) rfl rfl ?_)
    exact xe_return dX12_cellOf_111 (xP_ret (mk := mkV) hF)
def BX12_cellOf_29 (x0 : Option Nat) (x1 : Int32) (x2 : Int32) (x3 : Int32) (x4 : Int32) (s0 : Int64) (h0 : Hp) : Option (Unit × Hp) :=
  rcv h0 x0 11 <|
  cl (FX12_takeInt x0 x1 h0) fun v1 h2 =>
  rcv h2 x0 11 <|
  cl (FX12_take x0 x1 4 h2) fun v7 h8 =>
  if ((Int64.toInt32 v7) : Int32) = (-1) then
    rcv h8 x0 11 <|
    cl (FX12_fail x0 1 h8) fun v14 h15 =>
    some ((), h15)
  else
    rcv h8 x0 11 <|
    cl (FX12_isArray x0 (Int64.toInt32 v7) h8) fun v20 h21 =>
    if (v20 : Int32) = 0 then
      BX12_cellOf_98 x0 x1 x2 x3 x4 s0 v1 (Int64.toInt32 v7) (-1) h21
    else
      gR h21 x0 11 41 fun v27 =>
      aI h21 v27 .int (Int64.toInt32 v7) fun v31 =>
      if (v31 : Int32) < 16 then
        gR h21 x0 11 41 fun v38 =>
        aI h21 v38 .int (Int64.toInt32 v7) fun v42 =>
        BX12_cellOf_98 x0 x1 x2 x3 x4 s0 v1 (Int64.toInt32 v7) (v42 - v42 / 8 * 8) h21
      else
        BX12_cellOf_98 x0 x1 x2 x3 x4 s0 v1 (Int64.toInt32 v7) 4 h21
set_option maxRecDepth 100000 in
set_option maxHeartbeats 4000000 in
theorem BX12_cellOf_29_ok {G : xG} {l : Launch} {x0 : Option Nat} {x1 : Int32} {x2 : Int32} {x3 : Int32} {x4 : Int32} {s0 : Int64} {h0 h1 : Hp} {r : Unit} (hF : BX12_cellOf_29 x0 x1 x2 x3 x4 s0 h0 = some (r, h1)) : xv G l mX12_cellOf 4 0 0 29 [(0, false, va_rf x0), (1, false, .int x1), (2, false, .int x2), (3, false, .int x3), (4, false, .int x4)] [.long s0] h0 (xP mkV r h1) := by
  unfold BX12_cellOf_29 at hF
  refine xe_lstore dX12_cellOf_29 (by decide) ?_
  refine xe_aload_n dX12_cellOf_31 rfl rfl ?_
  refine xe_iload_n dX12_cellOf_32 rfl rfl ?_
  obtain ⟨a6, e4, t5, hF⟩ := rcv_inv hF
  obtain ⟨v1, h2, o3, hF⟩ := cl_inv hF
  refine xz (xq_callV (As := [.int _]) (rest := []) dX12_cellOf_33 mk_X12_takeInt ⟨tw_1393, tw_1395, ts_66⟩ (ci := 11) rfl e4 t5 (FX12_takeInt_ok o3) xP_q (by decide) (by decide) rfl rfl ?_)
  refine xe_istore dX12_cellOf_36 (by decide) ?_
  refine xe_aload_n dX12_cellOf_38 rfl rfl ?_
  refine xe_iload_n dX12_cellOf_39 rfl rfl ?_
  refine xe_iconst (v := 4) dX12_cellOf_40 (by decide) ?_
  obtain ⟨a12, e10, t11, hF⟩ := rcv_inv hF
  obtain ⟨v7, h8, o9, hF⟩ := cl_inv hF
  refine xz (xq_callV (As := [.int _, .int _]) (rest := []) dX12_cellOf_41 mk_X12_take ⟨tw_1355, tw_1357, ts_62⟩ (ci := 11) rfl e10 t11 (FX12_take_ok o9) xP_q (by decide) (by decide) rfl rfl ?_)
  refine xe_l2i dX12_cellOf_44 ?_
  refine xe_istore dX12_cellOf_45 (by decide) ?_
  refine xe_iload dX12_cellOf_47 rfl ?_
  refine xe_iconst (v := (-1)) dX12_cellOf_49 (by decide) ?_
  refine xe_icmp_ne (tgt := 59) dX12_cellOf_50 (by decide) (fun c13 => ?_) (fun c13 => ?_)
  · replace hF := if_p c13 hF
    refine xe_aload_n dX12_cellOf_53 rfl rfl ?_
    refine xe_iconst (v := 1) dX12_cellOf_54 (by decide) ?_
    obtain ⟨a19, e17, t18, hF⟩ := rcv_inv hF
    obtain ⟨v14, h15, o16, hF⟩ := cl_inv hF
    refine xz (xq_callV (As := [.int _]) (rest := []) dX12_cellOf_55 mk_X12_fail ⟨tw_1363, tw_1365, ts_64⟩ (ci := 11) rfl e17 t18 (FX12_fail_ok o16) xP_q (by decide) (by decide) rfl rfl ?_)
    exact xe_return dX12_cellOf_58 (xP_ret (mk := mkV) hF)
  · replace hF := if_n c13 hF
    refine xe_aload_n dX12_cellOf_59 rfl rfl ?_
    refine xe_iload dX12_cellOf_60 rfl ?_
    obtain ⟨a25, e23, t24, hF⟩ := rcv_inv hF
    obtain ⟨v20, h21, o22, hF⟩ := cl_inv hF
    refine xz (xq_callV (As := [.int _]) (rest := []) dX12_cellOf_62 mk_X12_isArray ⟨tw_1414, tw_1416, ts_71⟩ (ci := 11) rfl e23 t24 (FX12_isArray_ok o22) xPZ_q (by decide) (by decide) rfl rfl ?_)
    refine xe_if_ne (tgt := 72) dX12_cellOf_65 (by decide) (fun c26 => ?_) (fun c26 => ?_)
    · replace hF := if_p c26 hF
      refine xe_iconst (v := (-1)) dX12_cellOf_68 (by decide) ?_
      refine xe_goto (tgt := 98) dX12_cellOf_69 (by decide) ?_
      exact xv.lv (BX12_cellOf_98_ok hF) (xsub_cons rfl (xsub_cons rfl (xsub_cons rfl (xsub_cons rfl (xsub_cons rfl (xsub_cons rfl (xsub_cons rfl (xsub_cons rfl xsub_nil))))))))
    · replace hF := if_n c26 hF
      refine xe_aload_n dX12_cellOf_72 rfl rfl ?_
      obtain ⟨a28, e29, t30, hF⟩ := gR_inv hF
      refine xq_getR dX12_cellOf_73 fl_SeldomOpsModel_115 xk_11 e29 t30 rfl ?_
      refine xe_iload dX12_cellOf_76 rfl ?_
      obtain ⟨a32, n33, e34, t35, b36, hF⟩ := aI_inv hF
      refine xq_iald dX12_cellOf_78 e34 t35 b36 ?_
      refine xe_bipush (v := 16) dX12_cellOf_79 (by decide) ?_
      refine xe_icmp_lt (tgt := 88) dX12_cellOf_81 (by decide) (fun c37 => ?_) (fun c37 => ?_)
      · replace hF := if_p c37 hF
        refine xe_aload_n dX12_cellOf_88 rfl rfl ?_
        obtain ⟨a39, e40, t41, hF⟩ := gR_inv hF
        refine xq_getR dX12_cellOf_89 fl_SeldomOpsModel_115 xk_11 e40 t41 rfl ?_
        refine xe_iload dX12_cellOf_92 rfl ?_
        obtain ⟨a43, n44, e45, t46, b47, hF⟩ := aI_inv hF
        refine xq_iald dX12_cellOf_94 e45 t46 b47 ?_
        refine xe_bipush (v := 8) dX12_cellOf_95 (by decide) ?_
        refine xe_irem dX12_cellOf_97 (by decide) ?_
        exact xv.lv (BX12_cellOf_98_ok hF) (xsub_cons rfl (xsub_cons rfl (xsub_cons rfl (xsub_cons rfl (xsub_cons rfl (xsub_cons rfl (xsub_cons rfl (xsub_cons rfl xsub_nil))))))))
      · replace hF := if_n c37 hF
        refine xe_iconst (v := 4) dX12_cellOf_84 (by decide) ?_
        refine xe_goto (tgt := 98) dX12_cellOf_85 (by decide) ?_
        exact xv.lv (BX12_cellOf_98_ok hF) (xsub_cons rfl (xsub_cons rfl (xsub_cons rfl (xsub_cons rfl (xsub_cons rfl (xsub_cons rfl (xsub_cons rfl (xsub_cons rfl xsub_nil))))))))
def BX12_cellOf_10 (x0 : Option Nat) (x1 : Int32) (x2 : Int32) (x3 : Int32) (s0 : Int32) (h0 : Hp) : Option (Unit × Hp) :=
  if (x2 : Int32) = 26 then
    rcv h0 x0 11 <|
    cl (FX12_take x0 x1 s0 h0) fun v2 h3 =>
    BX12_cellOf_29 x0 x1 x2 x3 s0 v2 h3
  else
    BX12_cellOf_29 x0 x1 x2 x3 s0 0 h0
set_option maxRecDepth 100000 in
set_option maxHeartbeats 4000000 in
theorem BX12_cellOf_10_ok {G : xG} {l : Launch} {x0 : Option Nat} {x1 : Int32} {x2 : Int32} {x3 : Int32} {s0 : Int32} {h0 h1 : Hp} {r : Unit} (hF : BX12_cellOf_10 x0 x1 x2 x3 s0 h0 = some (r, h1)) : xv G l mX12_cellOf 4 0 0 10 [(0, false, va_rf x0), (1, false, .int x1), (2, false, .int x2), (3, false, .int x3)] [.int s0] h0 (xP mkV r h1) := by
  unfold BX12_cellOf_10 at hF
  refine xe_istore dX12_cellOf_10 (by decide) ?_
  refine xe_iload_n dX12_cellOf_12 rfl rfl ?_
  refine xe_bipush (v := 26) dX12_cellOf_13 (by decide) ?_
  refine xe_icmp_ne (tgt := 28) dX12_cellOf_15 (by decide) (fun c1 => ?_) (fun c1 => ?_)
  · replace hF := if_p c1 hF
    refine xe_aload_n dX12_cellOf_18 rfl rfl ?_
    refine xe_iload_n dX12_cellOf_19 rfl rfl ?_
    refine xe_iload dX12_cellOf_20 rfl ?_
    obtain ⟨a7, e5, t6, hF⟩ := rcv_inv hF
    obtain ⟨v2, h3, o4, hF⟩ := cl_inv hF
    refine xz (xq_callV (As := [.int _, .int _]) (rest := []) dX12_cellOf_22 mk_X12_take ⟨tw_1355, tw_1357, ts_62⟩ (ci := 11) rfl e5 t6 (FX12_take_ok o4) xP_q (by decide) (by decide) rfl rfl ?_)
    refine xe_goto (tgt := 29) dX12_cellOf_25 (by decide) ?_
    exact xv.lv (BX12_cellOf_29_ok hF) (xsub_cons rfl (xsub_cons rfl (xsub_cons rfl (xsub_cons rfl (xsub_cons rfl xsub_nil)))))
  · replace hF := if_n c1 hF
    refine xe_lconst (v := 0) dX12_cellOf_28 (by decide) ?_
    exact xv.lv (BX12_cellOf_29_ok hF) (xsub_cons rfl (xsub_cons rfl (xsub_cons rfl (xsub_cons rfl (xsub_cons rfl xsub_nil)))))
def FX12_cellOf (p0 : Option Nat) (p1 : Int32) (p2 : Int32) (p3 : Int32) (h0 : Hp) : Option (Unit × Hp) :=
  if (p3 : Int32) < 5 then
    BX12_cellOf_10 p0 p1 p2 p3 p3 h0
  else
    BX12_cellOf_10 p0 p1 p2 p3 0 h0
set_option maxRecDepth 100000 in
set_option maxHeartbeats 4000000 in
theorem FX12_cellOf_ok {G : xG} {l : Launch} {p0 : Option Nat} {p1 : Int32} {p2 : Int32} {p3 : Int32} {h0 h1 : Hp} {r : Unit} (hF : FX12_cellOf p0 p1 p2 p3 h0 = some (r, h1)) : xc G l mX12_cellOf 4 0 0 [va_rf p0, .int p1, .int p2, .int p3] h0 (xP mkV r h1) := by
  refine xo_V [.inr (.inr _), .inl _, .inl _, .inl _] (by decide) (Nat.le_of_ble_eq_true rfl) rfl ?_
  show xv _ _ _ _ _ _ _ [(0, false, va_rf p0), (1, false, .int p1), (2, false, .int p2), (3, false, .int p3)] _ _ _
  unfold FX12_cellOf at hF
  refine xe_iload_n dX12_cellOf_0 rfl rfl ?_
  refine xe_iconst (v := 5) dX12_cellOf_1 (by decide) ?_
  refine xe_icmp_lt (tgt := 9) dX12_cellOf_2 (by decide) (fun c1 => ?_) (fun c1 => ?_)
  · replace hF := if_p c1 hF
    refine xe_iload_n dX12_cellOf_9 rfl rfl ?_
    exact xv.lv (BX12_cellOf_10_ok hF) (xsub_cons rfl (xsub_cons rfl (xsub_cons rfl (xsub_cons rfl xsub_nil))))
  · replace hF := if_n c1 hF
    refine xe_iconst (v := 0) dX12_cellOf_5 (by decide) ?_
    refine xe_goto (tgt := 10) dX12_cellOf_6 (by decide) ?_
    exact xv.lv (BX12_cellOf_10_ok hF) (xsub_cons rfl (xsub_cons rfl (xsub_cons rfl (xsub_cons rfl xsub_nil))))
/-! SeldomOpsModel.thing3(IIII)V -/
def BX12_thing3_27 (x0 : Option Nat) (x1 : Int32) (x2 : Int32) (x4 : Int32) (h0 : Hp) : Option (Unit × Hp) :=
  rcv h0 x0 11 <|
  cl (FX12_cellOf x0 x1 x2 x4 h0) fun v1 h2 =>
  some ((), h2)
set_option maxRecDepth 100000 in
set_option maxHeartbeats 4000000 in
theorem BX12_thing3_27_ok {G : xG} {l : Launch} {x0 : Option Nat} {x1 : Int32} {x2 : Int32} {x4 : Int32} {h0 h1 : Hp} {r : Unit} (hF : BX12_thing3_27 x0 x1 x2 x4 h0 = some (r, h1)) : xv G l mX12_thing3 5 0 0 27 [(0, false, va_rf x0), (1, false, .int x1), (2, false, .int x2), (4, false, .int x4)] [] h0 (xP mkV r h1) := by
  unfold BX12_thing3_27 at hF
  refine xe_aload_n dX12_thing3_27 rfl rfl ?_
  refine xe_iload_n dX12_thing3_28 rfl rfl ?_
  refine xe_iload_n dX12_thing3_29 rfl rfl ?_
  refine xe_iload dX12_thing3_30 rfl ?_
  obtain ⟨a6, e4, t5, hF⟩ := rcv_inv hF
  obtain ⟨v1, h2, o3, hF⟩ := cl_inv hF
  refine xz (xq_callV (As := [.int _, .int _, .int _]) (rest := []) dX12_thing3_32 mk_X12_cellOf ⟨tw_1410, tw_1412, ts_70⟩ (ci := 11) rfl e4 t5 (FX12_cellOf_ok o3) xP_q (by decide) (by decide) rfl rfl ?_)
  exact xe_return dX12_thing3_35 (xP_ret (mk := mkV) hF)
def BX12_thing3_117 (s0 : Option Nat) (s1 : Int32) (s2 : Int32) (s3 : Int64) (h0 : Hp) : Option (Unit × Hp) :=
  rcv h0 s0 11 <|
  cl (FX12_put s0 s1 s2 s3 h0) fun v1 h2 =>
  some ((), h2)
set_option maxRecDepth 100000 in
set_option maxHeartbeats 4000000 in
theorem BX12_thing3_117_ok {G : xG} {l : Launch} {s0 : Option Nat} {s1 : Int32} {s2 : Int32} {s3 : Int64} {h0 h1 : Hp} {r : Unit} (hF : BX12_thing3_117 s0 s1 s2 s3 h0 = some (r, h1)) : xv G l mX12_thing3 5 0 0 117 [] [.long s3, .int s2, .int s1, va_rf s0] h0 (xP mkV r h1) := by
  unfold BX12_thing3_117 at hF
  obtain ⟨a6, e4, t5, hF⟩ := rcv_inv hF
  obtain ⟨v1, h2, o3, hF⟩ := cl_inv hF
  refine xz (xq_callV (As := [.int _, .int _, .long _]) (rest := []) dX12_thing3_117 mk_X12_put ⟨tw_1351, tw_1353, ts_61⟩ (ci := 11) rfl e4 t5 (FX12_put_ok o3) xP_q (by decide) (by decide) rfl rfl ?_)
  refine xe_goto (tgt := 357) dX12_thing3_120 (by decide) ?_
  exact xe_return dX12_thing3_357 (xP_ret (mk := mkV) hF)
def BX12_thing3_116 (s0 : Option Nat) (s1 : Int32) (s2 : Int32) (h0 : Hp) : Option (Unit × Hp) :=
  BX12_thing3_117 s0 s1 s2 0 h0
set_option maxRecDepth 100000 in
set_option maxHeartbeats 4000000 in
theorem BX12_thing3_116_ok {G : xG} {l : Launch} {s0 : Option Nat} {s1 : Int32} {s2 : Int32} {h0 h1 : Hp} {r : Unit} (hF : BX12_thing3_116 s0 s1 s2 h0 = some (r, h1)) : xv G l mX12_thing3 5 0 0 116 [] [.int s2, .int s1, va_rf s0] h0 (xP mkV r h1) := by
  unfold BX12_thing3_116 at hF
  refine xe_lconst (v := 0) dX12_thing3_116 (by decide) ?_
  exact xv.lv (BX12_thing3_117_ok hF) xsub_nil
def BX12_thing3_151 (x0 : Option Nat) (x1 : Int32) (x5 : Int32) (h0 : Hp) : Option (Unit × Hp) :=
  rcv h0 x0 11 <|
  cl (FX12_put x0 x1 4 (Int32.toInt64 x5) h0) fun v1 h2 =>
  some ((), h2)
set_option maxRecDepth 100000 in
set_option maxHeartbeats 4000000 in
theorem BX12_thing3_151_ok {G : xG} {l : Launch} {x0 : Option Nat} {x1 : Int32} {x5 : Int32} {h0 h1 : Hp} {r : Unit} (hF : BX12_thing3_151 x0 x1 x5 h0 = some (r, h1)) : xv G l mX12_thing3 5 0 0 151 [(0, false, va_rf x0), (1, false, .int x1), (5, false, .int x5)] [] h0 (xP mkV r h1) := by
  unfold BX12_thing3_151 at hF
  refine xe_aload_n dX12_thing3_151 rfl rfl ?_
  refine xe_iload_n dX12_thing3_152 rfl rfl ?_
  refine xe_iconst (v := 4) dX12_thing3_153 (by decide) ?_
  refine xe_iload dX12_thing3_154 rfl ?_
  refine xe_i2l dX12_thing3_156 ?_
  obtain ⟨a6, e4, t5, hF⟩ := rcv_inv hF
  obtain ⟨v1, h2, o3, hF⟩ := cl_inv hF
  refine xz (xq_callV (As := [.int _, .int _, .long _]) (rest := []) dX12_thing3_157 mk_X12_put ⟨tw_1351, tw_1353, ts_61⟩ (ci := 11) rfl e4 t5 (FX12_put_ok o3) xP_q (by decide) (by decide) rfl rfl ?_)
  refine xe_goto (tgt := 357) dX12_thing3_160 (by decide) ?_
  exact xe_return dX12_thing3_357 (xP_ret (mk := mkV) hF)
def BX12_thing3_197 (x0 : Option Nat) (x1 : Int32) (x5 : Int32) (h0 : Hp) : Option (Unit × Hp) :=
  gR h0 x0 11 42 fun v1 =>
  aI h0 v1 .int x5 fun v5 =>
  rcv h0 x0 11 <|
  cl (FX12_put x0 x1 0 (Int32.toInt64 v5) h0) fun v11 h12 =>
  some ((), h12)
set_option maxRecDepth 100000 in
set_option maxHeartbeats 4000000 in
theorem BX12_thing3_197_ok {G : xG} {l : Launch} {x0 : Option Nat} {x1 : Int32} {x5 : Int32} {h0 h1 : Hp} {r : Unit} (hF : BX12_thing3_197 x0 x1 x5 h0 = some (r, h1)) : xv G l mX12_thing3 5 0 0 197 [(0, false, va_rf x0), (1, false, .int x1), (5, false, .int x5)] [] h0 (xP mkV r h1) := by
  unfold BX12_thing3_197 at hF
  refine xe_aload_n dX12_thing3_197 rfl rfl ?_
  refine xe_iload_n dX12_thing3_198 rfl rfl ?_
  refine xe_iconst (v := 0) dX12_thing3_199 (by decide) ?_
  refine xe_aload_n dX12_thing3_200 rfl rfl ?_
  obtain ⟨a2, e3, t4, hF⟩ := gR_inv hF
  refine xq_getR dX12_thing3_201 fl_SeldomOpsModel_118 xk_11 e3 t4 rfl ?_
  refine xe_iload dX12_thing3_204 rfl ?_
  obtain ⟨a6, n7, e8, t9, b10, hF⟩ := aI_inv hF
  refine xq_iald dX12_thing3_206 e8 t9 b10 ?_
  refine xe_i2l dX12_thing3_207 ?_
  obtain ⟨a16, e14, t15, hF⟩ := rcv_inv hF
  obtain ⟨v11, h12, o13, hF⟩ := cl_inv hF
  refine xz (xq_callV (As := [.int _, .int _, .long _]) (rest := []) dX12_thing3_208 mk_X12_put ⟨tw_1351, tw_1353, ts_61⟩ (ci := 11) rfl e14 t15 (FX12_put_ok o13) xP_q (by decide) (by decide) rfl rfl ?_)
  refine xe_goto (tgt := 357) dX12_thing3_211 (by decide) ?_
  exact xe_return dX12_thing3_357 (xP_ret (mk := mkV) hF)
def BX12_thing3_244 (x0 : Option Nat) (x5 : Int32) (s0 : Option Nat) (s1 : Int32) (h0 : Hp) : Option (Unit × Hp) :=
  rcv h0 s0 11 <|
  cl (FX12_fail s0 s1 h0) fun v1 h2 =>
  rcv h2 x0 11 <|
  cl (FX12_isArray x0 x5 h2) fun v7 h8 =>
  if (v7 : Int32) = 0 then
    pI h8 x0 11 65 x5 fun h17 =>
    some ((), h17)
  else
    pI h8 x0 11 65 (-2) fun h22 =>
    some ((), h22)
set_option maxRecDepth 100000 in
set_option maxHeartbeats 4000000 in
theorem BX12_thing3_244_ok {G : xG} {l : Launch} {x0 : Option Nat} {x5 : Int32} {s0 : Option Nat} {s1 : Int32} {h0 h1 : Hp} {r : Unit} (hF : BX12_thing3_244 x0 x5 s0 s1 h0 = some (r, h1)) : xv G l mX12_thing3 5 0 0 244 [(0, false, va_rf x0), (5, false, .int x5)] [.int s1, va_rf s0] h0 (xP mkV r h1) := by
  unfold BX12_thing3_244 at hF
  obtain ⟨a6, e4, t5, hF⟩ := rcv_inv hF
  obtain ⟨v1, h2, o3, hF⟩ := cl_inv hF
  refine xz (xq_callV (As := [.int _]) (rest := []) dX12_thing3_244 mk_X12_fail ⟨tw_1363, tw_1365, ts_64⟩ (ci := 11) rfl e4 t5 (FX12_fail_ok o3) xP_q (by decide) (by decide) rfl rfl ?_)
  refine xe_aload_n dX12_thing3_247 rfl rfl ?_
  refine xe_aload_n dX12_thing3_248 rfl rfl ?_
  refine xe_iload dX12_thing3_249 rfl ?_
  obtain ⟨a12, e10, t11, hF⟩ := rcv_inv hF
  obtain ⟨v7, h8, o9, hF⟩ := cl_inv hF
  refine xz (xq_callV (As := [.int _]) (rest := [va_rf _]) dX12_thing3_251 mk_X12_isArray ⟨tw_1414, tw_1416, ts_71⟩ (ci := 11) rfl e10 t11 (FX12_isArray_ok o9) xPZ_q (by decide) (Nat.le_trans (cs_r cs_0) (by decide)) rfl rfl ?_)
  refine xe_if_eq (tgt := 262) dX12_thing3_254 (by decide) (fun c13 => ?_) (fun c13 => ?_)
  · replace hF := if_p c13 hF
    refine xe_iload dX12_thing3_262 rfl ?_
    obtain ⟨a14, e15, t16, hF⟩ := pI_inv hF
    refine xq_putI dX12_thing3_264 fl_SeldomOpsModel_333 xk_11 (by decide) (fun z => by cases z) e15 t16 (Or.inl rfl) ?_
    refine xe_goto (tgt := 357) dX12_thing3_267 (by decide) ?_
    exact xe_return dX12_thing3_357 (xP_ret (mk := mkV) hF)
  · replace hF := if_n c13 hF
    refine xe_bipush (v := (-2)) dX12_thing3_257 (by decide) ?_
    refine xe_goto (tgt := 264) dX12_thing3_259 (by decide) ?_
    obtain ⟨a19, e20, t21, hF⟩ := pI_inv hF
    refine xq_putI dX12_thing3_264 fl_SeldomOpsModel_333 xk_11 (by decide) (fun z => by cases z) e20 t21 (Or.inl rfl) ?_
    refine xe_goto (tgt := 357) dX12_thing3_267 (by decide) ?_
    exact xe_return dX12_thing3_357 (xP_ret (mk := mkV) hF)
def FX12_thing3 (p0 : Option Nat) (p1 : Int32) (p2 : Int32) (p3 : Int32) (p4 : Int32) (h0 : Hp) : Option (Unit × Hp) :=
  if (p2 : Int32) = 24 then
    rcv h0 p0 11 <|
    cl (FX12_newArray p0 p1 p3 p4 h0) fun v2 h3 =>
    some ((), h3)
  else
    if (p2 : Int32) = 25 then
      BX12_thing3_27 p0 p1 p2 p4 h0
    else
      if (p2 : Int32) = 26 then
        BX12_thing3_27 p0 p1 p2 p4 h0
      else
        if (p2 : Int32) = 30 then
          gI h0 p0 11 40 fun v11 =>
          if (v11 : Int32) = 60 then
            rcv h0 p0 11 <|
            cl (FX12_fail p0 7 h0) fun v16 h17 =>
            some ((), h17)
          else
            rcv h0 p0 11 <|
            cl (FX12_newThing p0 (p3 - 100) 0 h0) fun v22 h23 =>
            rcv h23 p0 11 <|
            cl (FX12_put p0 p1 4 (Int32.toInt64 v22) h23) fun v28 h29 =>
            some ((), h29)
        else
          rcv h0 p0 11 <|
          cl (FX12_take p0 p1 4 h0) fun v34 h35 =>
          if (p2 : Int32) = 28 then
            if ((Int64.toInt32 v34) : Int32) = (-1) then
              BX12_thing3_116 p0 p1 0 h35
            else
              gR h35 p0 11 41 fun v42 =>
              aI h35 v42 .int (Int64.toInt32 v34) fun v46 =>
              if (v46 : Int32) = p3 then
                BX12_thing3_117 p0 p1 0 1 h35
              else
                BX12_thing3_116 p0 p1 0 h35
          else
            if (p2 : Int32) = 29 then
              if ((Int64.toInt32 v34) : Int32) = (-1) then
                BX12_thing3_151 p0 p1 (Int64.toInt32 v34) h35
              else
                gR h35 p0 11 41 fun v55 =>
                aI h35 v55 .int (Int64.toInt32 v34) fun v59 =>
                if (v59 : Int32) = p3 then
                  BX12_thing3_151 p0 p1 (Int64.toInt32 v34) h35
                else
                  rcv h35 p0 11 <|
                  cl (FX12_fail p0 5 h35) fun v66 h67 =>
                  BX12_thing3_151 p0 p1 (Int64.toInt32 v34) h67
            else
              if ((Int64.toInt32 v34) : Int32) = (-1) then
                rcv h35 p0 11 <|
                cl (FX12_fail p0 1 h35) fun v73 h74 =>
                some ((), h74)
              else
                if (p2 : Int32) = 27 then
                  rcv h35 p0 11 <|
                  cl (FX12_isArray p0 (Int64.toInt32 v34) h35) fun v80 h81 =>
                  if (v80 : Int32) = 0 then
                    rcv h81 p0 11 <|
                    cl (FX12_fail p0 5 h81) fun v87 h88 =>
                    BX12_thing3_197 p0 p1 (Int64.toInt32 v34) h88
                  else
                    BX12_thing3_197 p0 p1 (Int64.toInt32 v34) h81
                else
                  if (p2 : Int32) = 31 then
                    rcv h35 p0 11 <|
                    cl (FX12_isArray p0 (Int64.toInt32 v34) h35) fun v94 h95 =>
                    if (v94 : Int32) = 0 then
                      gR h95 p0 11 41 fun v101 =>
                      aI h95 v101 .int (Int64.toInt32 v34) fun v105 =>
                      BX12_thing3_244 p0 (Int64.toInt32 v34) p0 (v105 + 100) h95
                    else
                      BX12_thing3_244 p0 (Int64.toInt32 v34) p0 5 h95
                  else
                    if (p2 : Int32) = 32 then
                      gR h35 p0 11 53 fun v112 =>
                      aI h35 v112 .int ((60 * p1) + (Int64.toInt32 v34)) fun v116 =>
                      sI h35 v112 ((60 * p1) + (Int64.toInt32 v34)) (v116 + 1) fun h122 =>
                      gR h122 p0 11 43 fun v129 =>
                      aI h122 v129 .int (Int64.toInt32 v34) fun v133 =>
                      sI h122 v129 (Int64.toInt32 v34) (v133 + 1) fun h139 =>
                      some ((), h139)
                    else
                      gR h35 p0 11 53 fun v146 =>
                      aI h35 v146 .int ((60 * p1) + (Int64.toInt32 v34)) fun v150 =>
                      if (v150 : Int32) = 0 then
                        rcv h35 p0 11 <|
                        cl (FX12_fail p0 6 h35) fun v157 h158 =>
                        some ((), h158)
                      else
                        gR h35 p0 11 53 fun v163 =>
                        aI h35 v163 .int ((60 * p1) + (Int64.toInt32 v34)) fun v167 =>
                        sI h35 v163 ((60 * p1) + (Int64.toInt32 v34)) (v167 - 1) fun h173 =>
                        gR h173 p0 11 43 fun v180 =>
                        aI h173 v180 .int (Int64.toInt32 v34) fun v184 =>
                        sI h173 v180 (Int64.toInt32 v34) (v184 - 1) fun h190 =>
                        some ((), h190)
set_option maxRecDepth 100000 in
set_option maxHeartbeats 4000000 in
theorem FX12_thing3_ok {G : xG} {l : Launch} {p0 : Option Nat} {p1 : Int32} {p2 : Int32} {p3 : Int32} {p4 : Int32} {h0 h1 : Hp} {r : Unit} (hF : FX12_thing3 p0 p1 p2 p3 p4 h0 = some (r, h1)) : xc G l mX12_thing3 5 0 0 [va_rf p0, .int p1, .int p2, .int p3, .int p4] h0 (xP mkV r h1) := by
  refine xo_V [.inr (.inr _), .inl _, .inl _, .inl _, .inl _] (by decide) (Nat.le_of_ble_eq_true rfl) rfl ?_
  show xv _ _ _ _ _ _ _ [(0, false, va_rf p0), (1, false, .int p1), (2, false, .int p2), (3, false, .int p3), (4, false, .int p4)] _ _ _
  unfold FX12_thing3 at hF
  refine xe_iload_n dX12_thing3_0 rfl rfl ?_
  refine xe_bipush (v := 24) dX12_thing3_1 (by decide) ?_
  refine xe_icmp_ne (tgt := 15) dX12_thing3_3 (by decide) (fun c1 => ?_) (fun c1 => ?_)
  · replace hF := if_p c1 hF
    refine xe_aload_n dX12_thing3_6 rfl rfl ?_
    refine xe_iload_n dX12_thing3_7 rfl rfl ?_
    refine xe_iload_n dX12_thing3_8 rfl rfl ?_
    refine xe_iload dX12_thing3_9 rfl ?_
    obtain ⟨a7, e5, t6, hF⟩ := rcv_inv hF
    obtain ⟨v2, h3, o4, hF⟩ := cl_inv hF
    refine xz (xq_callV (As := [.int _, .int _, .int _]) (rest := []) dX12_thing3_11 mk_X12_newArray ⟨tw_1401, tw_1403, ts_68⟩ (ci := 11) rfl e5 t6 (FX12_newArray_ok o4) xP_q (by decide) (by decide) rfl rfl ?_)
    exact xe_return dX12_thing3_14 (xP_ret (mk := mkV) hF)
  · replace hF := if_n c1 hF
    refine xe_iload_n dX12_thing3_15 rfl rfl ?_
    refine xe_bipush (v := 25) dX12_thing3_16 (by decide) ?_
    refine xe_icmp_eq (tgt := 27) dX12_thing3_18 (by decide) (fun c8 => ?_) (fun c8 => ?_)
    · replace hF := if_p c8 hF
      exact xv.lv (BX12_thing3_27_ok hF) (xsub_cons rfl (xsub_cons rfl (xsub_cons rfl (xsub_cons rfl xsub_nil))))
    · replace hF := if_n c8 hF
      refine xe_iload_n dX12_thing3_21 rfl rfl ?_
      refine xe_bipush (v := 26) dX12_thing3_22 (by decide) ?_
      refine xe_icmp_ne (tgt := 36) dX12_thing3_24 (by decide) (fun c9 => ?_) (fun c9 => ?_)
      · replace hF := if_p c9 hF
        exact xv.lv (BX12_thing3_27_ok hF) (xsub_cons rfl (xsub_cons rfl (xsub_cons rfl (xsub_cons rfl xsub_nil))))
      · replace hF := if_n c9 hF
        refine xe_iload_n dX12_thing3_36 rfl rfl ?_
        refine xe_bipush (v := 30) dX12_thing3_37 (by decide) ?_
        refine xe_icmp_ne (tgt := 77) dX12_thing3_39 (by decide) (fun c10 => ?_) (fun c10 => ?_)
        · replace hF := if_p c10 hF
          refine xe_aload_n dX12_thing3_42 rfl rfl ?_
          obtain ⟨a12, e13, t14, hF⟩ := gI_inv hF
          refine xq_getI dX12_thing3_43 fl_SeldomOpsModel_296 xk_11 e13 t14 rfl ?_
          refine xe_bipush (v := 60) dX12_thing3_46 (by decide) ?_
          refine xe_icmp_ne (tgt := 60) dX12_thing3_48 (by decide) (fun c15 => ?_) (fun c15 => ?_)
          · replace hF := if_p c15 hF
            refine xe_aload_n dX12_thing3_51 rfl rfl ?_
            refine xe_bipush (v := 7) dX12_thing3_52 (by decide) ?_
            obtain ⟨a21, e19, t20, hF⟩ := rcv_inv hF
            obtain ⟨v16, h17, o18, hF⟩ := cl_inv hF
            refine xz (xq_callV (As := [.int _]) (rest := []) dX12_thing3_54 mk_X12_fail ⟨tw_1363, tw_1365, ts_64⟩ (ci := 11) rfl e19 t20 (FX12_fail_ok o18) xP_q (by decide) (by decide) rfl rfl ?_)
            refine xe_goto (tgt := 76) dX12_thing3_57 (by decide) ?_
            exact xe_return dX12_thing3_76 (xP_ret (mk := mkV) hF)
          · replace hF := if_n c15 hF
            refine xe_aload_n dX12_thing3_60 rfl rfl ?_
            refine xe_iload_n dX12_thing3_61 rfl rfl ?_
            refine xe_iconst (v := 4) dX12_thing3_62 (by decide) ?_
            refine xe_aload_n dX12_thing3_63 rfl rfl ?_
            refine xe_iload_n dX12_thing3_64 rfl rfl ?_
            refine xe_bipush (v := 100) dX12_thing3_65 (by decide) ?_
            refine xe_isub dX12_thing3_67 ?_
            refine xe_iconst (v := 0) dX12_thing3_68 (by decide) ?_
            obtain ⟨a27, e25, t26, hF⟩ := rcv_inv hF
            obtain ⟨v22, h23, o24, hF⟩ := cl_inv hF
            refine xz (xq_callV (As := [.int _, .int _]) (rest := [.int _, .int _, va_rf _]) dX12_thing3_69 mk_X12_newThing ⟨tw_1406, tw_1408, ts_69⟩ (ci := 11) rfl e25 t26 (FX12_newThing_ok o24) xP_q (by decide) (Nat.le_trans (cs_i (cs_i (cs_r cs_0))) (by decide)) rfl rfl ?_)
            refine xe_i2l dX12_thing3_72 ?_
            obtain ⟨a33, e31, t32, hF⟩ := rcv_inv hF
            obtain ⟨v28, h29, o30, hF⟩ := cl_inv hF
            refine xz (xq_callV (As := [.int _, .int _, .long _]) (rest := []) dX12_thing3_73 mk_X12_put ⟨tw_1351, tw_1353, ts_61⟩ (ci := 11) rfl e31 t32 (FX12_put_ok o30) xP_q (by decide) (by decide) rfl rfl ?_)
            exact xe_return dX12_thing3_76 (xP_ret (mk := mkV) hF)
        · replace hF := if_n c10 hF
          refine xe_aload_n dX12_thing3_77 rfl rfl ?_
          refine xe_iload_n dX12_thing3_78 rfl rfl ?_
          refine xe_iconst (v := 4) dX12_thing3_79 (by decide) ?_
          obtain ⟨a39, e37, t38, hF⟩ := rcv_inv hF
          obtain ⟨v34, h35, o36, hF⟩ := cl_inv hF
          refine xz (xq_callV (As := [.int _, .int _]) (rest := []) dX12_thing3_80 mk_X12_take ⟨tw_1355, tw_1357, ts_62⟩ (ci := 11) rfl e37 t38 (FX12_take_ok o36) xP_q (by decide) (by decide) rfl rfl ?_)
          refine xe_l2i dX12_thing3_83 ?_
          refine xe_istore dX12_thing3_84 (by decide) ?_
          refine xe_iload_n dX12_thing3_86 rfl rfl ?_
          refine xe_bipush (v := 28) dX12_thing3_87 (by decide) ?_
          refine xe_icmp_ne (tgt := 123) dX12_thing3_89 (by decide) (fun c40 => ?_) (fun c40 => ?_)
          · replace hF := if_p c40 hF
            refine xe_aload_n dX12_thing3_92 rfl rfl ?_
            refine xe_iload_n dX12_thing3_93 rfl rfl ?_
            refine xe_iconst (v := 0) dX12_thing3_94 (by decide) ?_
            refine xe_iload dX12_thing3_95 rfl ?_
            refine xe_iconst (v := (-1)) dX12_thing3_97 (by decide) ?_
            refine xe_icmp_eq (tgt := 116) dX12_thing3_98 (by decide) (fun c41 => ?_) (fun c41 => ?_)
            · replace hF := if_p c41 hF
              exact xv.lv (BX12_thing3_116_ok hF) xsub_nil
            · replace hF := if_n c41 hF
              refine xe_aload_n dX12_thing3_101 rfl rfl ?_
              obtain ⟨a43, e44, t45, hF⟩ := gR_inv hF
              refine xq_getR dX12_thing3_102 fl_SeldomOpsModel_115 xk_11 e44 t45 rfl ?_
              refine xe_iload dX12_thing3_105 rfl ?_
              obtain ⟨a47, n48, e49, t50, b51, hF⟩ := aI_inv hF
              refine xq_iald dX12_thing3_107 e49 t50 b51 ?_
              refine xe_iload_n dX12_thing3_108 rfl rfl ?_
              refine xe_icmp_ne (tgt := 116) dX12_thing3_109 (by decide) (fun c52 => ?_) (fun c52 => ?_)
              · replace hF := if_p c52 hF
                refine xe_lconst (v := 1) dX12_thing3_112 (by decide) ?_
                refine xe_goto (tgt := 117) dX12_thing3_113 (by decide) ?_
                exact xv.lv (BX12_thing3_117_ok hF) xsub_nil
              · replace hF := if_n c52 hF
                exact xv.lv (BX12_thing3_116_ok hF) xsub_nil
          · replace hF := if_n c40 hF
            refine xe_iload_n dX12_thing3_123 rfl rfl ?_
            refine xe_bipush (v := 29) dX12_thing3_124 (by decide) ?_
            refine xe_icmp_ne (tgt := 163) dX12_thing3_126 (by decide) (fun c53 => ?_) (fun c53 => ?_)
            · replace hF := if_p c53 hF
              refine xe_iload dX12_thing3_129 rfl ?_
              refine xe_iconst (v := (-1)) dX12_thing3_131 (by decide) ?_
              refine xe_icmp_eq (tgt := 151) dX12_thing3_132 (by decide) (fun c54 => ?_) (fun c54 => ?_)
              · replace hF := if_p c54 hF
                exact xv.lv (BX12_thing3_151_ok hF) (xsub_cons rfl (xsub_cons rfl (xsub_cons rfl xsub_nil)))
              · replace hF := if_n c54 hF
                refine xe_aload_n dX12_thing3_135 rfl rfl ?_
                obtain ⟨a56, e57, t58, hF⟩ := gR_inv hF
                refine xq_getR dX12_thing3_136 fl_SeldomOpsModel_115 xk_11 e57 t58 rfl ?_
                refine xe_iload dX12_thing3_139 rfl ?_
                obtain ⟨a60, n61, e62, t63, b64, hF⟩ := aI_inv hF
                refine xq_iald dX12_thing3_141 e62 t63 b64 ?_
                refine xe_iload_n dX12_thing3_142 rfl rfl ?_
                refine xe_icmp_eq (tgt := 151) dX12_thing3_143 (by decide) (fun c65 => ?_) (fun c65 => ?_)
                · replace hF := if_p c65 hF
                  exact xv.lv (BX12_thing3_151_ok hF) (xsub_cons rfl (xsub_cons rfl (xsub_cons rfl xsub_nil)))
                · replace hF := if_n c65 hF
                  refine xe_aload_n dX12_thing3_146 rfl rfl ?_
                  refine xe_iconst (v := 5) dX12_thing3_147 (by decide) ?_
                  obtain ⟨a71, e69, t70, hF⟩ := rcv_inv hF
                  obtain ⟨v66, h67, o68, hF⟩ := cl_inv hF
                  refine xz (xq_callV (As := [.int _]) (rest := []) dX12_thing3_148 mk_X12_fail ⟨tw_1363, tw_1365, ts_64⟩ (ci := 11) rfl e69 t70 (FX12_fail_ok o68) xP_q (by decide) (by decide) rfl rfl ?_)
                  exact xv.lv (BX12_thing3_151_ok hF) (xsub_cons rfl (xsub_cons rfl (xsub_cons rfl xsub_nil)))
            · replace hF := if_n c53 hF
              refine xe_iload dX12_thing3_163 rfl ?_
              refine xe_iconst (v := (-1)) dX12_thing3_165 (by decide) ?_
              refine xe_icmp_ne (tgt := 177) dX12_thing3_166 (by decide) (fun c72 => ?_) (fun c72 => ?_)
              · replace hF := if_p c72 hF
                refine xe_aload_n dX12_thing3_169 rfl rfl ?_
                refine xe_iconst (v := 1) dX12_thing3_170 (by decide) ?_
                obtain ⟨a78, e76, t77, hF⟩ := rcv_inv hF
                obtain ⟨v73, h74, o75, hF⟩ := cl_inv hF
                refine xz (xq_callV (As := [.int _]) (rest := []) dX12_thing3_171 mk_X12_fail ⟨tw_1363, tw_1365, ts_64⟩ (ci := 11) rfl e76 t77 (FX12_fail_ok o75) xP_q (by decide) (by decide) rfl rfl ?_)
                refine xe_goto (tgt := 357) dX12_thing3_174 (by decide) ?_
                exact xe_return dX12_thing3_357 (xP_ret (mk := mkV) hF)
              · replace hF := if_n c72 hF
                refine xe_iload_n dX12_thing3_177 rfl rfl ?_
                refine xe_bipush (v := 27) dX12_thing3_178 (by decide) ?_
                refine xe_icmp_ne (tgt := 214) dX12_thing3_180 (by decide) (fun c79 => ?_) (fun c79 => ?_)
                · replace hF := if_p c79 hF
                  refine xe_aload_n dX12_thing3_183 rfl rfl ?_
                  refine xe_iload dX12_thing3_184 rfl ?_
                  obtain ⟨a85, e83, t84, hF⟩ := rcv_inv hF
                  obtain ⟨v80, h81, o82, hF⟩ := cl_inv hF
                  refine xz (xq_callV (As := [.int _]) (rest := []) dX12_thing3_186 mk_X12_isArray ⟨tw_1414, tw_1416, ts_71⟩ (ci := 11) rfl e83 t84 (FX12_isArray_ok o82) xPZ_q (by decide) (by decide) rfl rfl ?_)
                  refine xe_if_ne (tgt := 197) dX12_thing3_189 (by decide) (fun c86 => ?_) (fun c86 => ?_)
                  · replace hF := if_p c86 hF
                    refine xe_aload_n dX12_thing3_192 rfl rfl ?_
                    refine xe_iconst (v := 5) dX12_thing3_193 (by decide) ?_
                    obtain ⟨a92, e90, t91, hF⟩ := rcv_inv hF
                    obtain ⟨v87, h88, o89, hF⟩ := cl_inv hF
                    refine xz (xq_callV (As := [.int _]) (rest := []) dX12_thing3_194 mk_X12_fail ⟨tw_1363, tw_1365, ts_64⟩ (ci := 11) rfl e90 t91 (FX12_fail_ok o89) xP_q (by decide) (by decide) rfl rfl ?_)
                    exact xv.lv (BX12_thing3_197_ok hF) (xsub_cons rfl (xsub_cons rfl (xsub_cons rfl xsub_nil)))
                  · replace hF := if_n c86 hF
                    exact xv.lv (BX12_thing3_197_ok hF) (xsub_cons rfl (xsub_cons rfl (xsub_cons rfl xsub_nil)))
                · replace hF := if_n c79 hF
                  refine xe_iload_n dX12_thing3_214 rfl rfl ?_
                  refine xe_bipush (v := 31) dX12_thing3_215 (by decide) ?_
                  refine xe_icmp_ne (tgt := 270) dX12_thing3_217 (by decide) (fun c93 => ?_) (fun c93 => ?_)
                  · replace hF := if_p c93 hF
                    refine xe_aload_n dX12_thing3_220 rfl rfl ?_
                    refine xe_aload_n dX12_thing3_221 rfl rfl ?_
                    refine xe_iload dX12_thing3_222 rfl ?_
                    obtain ⟨a99, e97, t98, hF⟩ := rcv_inv hF
                    obtain ⟨v94, h95, o96, hF⟩ := cl_inv hF
                    refine xz (xq_callV (As := [.int _]) (rest := [va_rf _]) dX12_thing3_224 mk_X12_isArray ⟨tw_1414, tw_1416, ts_71⟩ (ci := 11) rfl e97 t98 (FX12_isArray_ok o96) xPZ_q (by decide) (Nat.le_trans (cs_r cs_0) (by decide)) rfl rfl ?_)
                    refine xe_if_eq (tgt := 234) dX12_thing3_227 (by decide) (fun c100 => ?_) (fun c100 => ?_)
                    · replace hF := if_p c100 hF
                      refine xe_aload_n dX12_thing3_234 rfl rfl ?_
                      obtain ⟨a102, e103, t104, hF⟩ := gR_inv hF
                      refine xq_getR dX12_thing3_235 fl_SeldomOpsModel_115 xk_11 e103 t104 rfl ?_
                      refine xe_iload dX12_thing3_238 rfl ?_
                      obtain ⟨a106, n107, e108, t109, b110, hF⟩ := aI_inv hF
                      refine xq_iald dX12_thing3_240 e108 t109 b110 ?_
                      refine xe_bipush (v := 100) dX12_thing3_241 (by decide) ?_
                      refine xe_iadd dX12_thing3_243 ?_
                      exact xv.lv (BX12_thing3_244_ok hF) (xsub_cons rfl (xsub_cons rfl xsub_nil))
                    · replace hF := if_n c100 hF
                      refine xe_iconst (v := 5) dX12_thing3_230 (by decide) ?_
                      refine xe_goto (tgt := 244) dX12_thing3_231 (by decide) ?_
                      exact xv.lv (BX12_thing3_244_ok hF) (xsub_cons rfl (xsub_cons rfl xsub_nil))
                  · replace hF := if_n c93 hF
                    refine xe_iload_n dX12_thing3_270 rfl rfl ?_
                    refine xe_bipush (v := 32) dX12_thing3_271 (by decide) ?_
                    refine xe_icmp_ne (tgt := 306) dX12_thing3_273 (by decide) (fun c111 => ?_) (fun c111 => ?_)
                    · replace hF := if_p c111 hF
                      refine xe_aload_n dX12_thing3_276 rfl rfl ?_
                      obtain ⟨a113, e114, t115, hF⟩ := gR_inv hF
                      refine xq_getR dX12_thing3_277 fl_SeldomOpsModel_145 xk_11 e114 t115 rfl ?_
                      refine xe_bipush (v := 60) dX12_thing3_280 (by decide) ?_
                      refine xe_iload_n dX12_thing3_282 rfl rfl ?_
                      refine xe_imul dX12_thing3_283 ?_
                      refine xe_iload dX12_thing3_284 rfl ?_
                      refine xe_iadd dX12_thing3_286 ?_
                      refine xe_dup2 dX12_thing3_287 rfl (va_rf_cat _) ?_
                      obtain ⟨a117, n118, e119, t120, b121, hF⟩ := aI_inv hF
                      refine xq_iald dX12_thing3_288 e119 t120 b121 ?_
                      refine xe_iconst (v := 1) dX12_thing3_289 (by decide) ?_
                      refine xe_iadd dX12_thing3_290 ?_
                      obtain ⟨a123, n124, e125, t126, b127, hF⟩ := sI_inv hF
                      refine xq_iast dX12_thing3_291 e125 t126 b127 ?_
                      refine xe_aload_n dX12_thing3_292 rfl rfl ?_
                      obtain ⟨a130, e131, t132, hF⟩ := gR_inv hF
                      refine xq_getR dX12_thing3_293 fl_SeldomOpsModel_121 xk_11 e131 t132 rfl ?_
                      refine xe_iload dX12_thing3_296 rfl ?_
                      refine xe_dup2 dX12_thing3_298 rfl (va_rf_cat _) ?_
                      obtain ⟨a134, n135, e136, t137, b138, hF⟩ := aI_inv hF
                      refine xq_iald dX12_thing3_299 e136 t137 b138 ?_
                      refine xe_iconst (v := 1) dX12_thing3_300 (by decide) ?_
                      refine xe_iadd dX12_thing3_301 ?_
                      obtain ⟨a140, n141, e142, t143, b144, hF⟩ := sI_inv hF
                      refine xq_iast dX12_thing3_302 e142 t143 b144 ?_
                      refine xe_goto (tgt := 357) dX12_thing3_303 (by decide) ?_
                      exact xe_return dX12_thing3_357 (xP_ret (mk := mkV) hF)
                    · replace hF := if_n c111 hF
                      refine xe_aload_n dX12_thing3_306 rfl rfl ?_
                      obtain ⟨a147, e148, t149, hF⟩ := gR_inv hF
                      refine xq_getR dX12_thing3_307 fl_SeldomOpsModel_145 xk_11 e148 t149 rfl ?_
                      refine xe_bipush (v := 60) dX12_thing3_310 (by decide) ?_
                      refine xe_iload_n dX12_thing3_312 rfl rfl ?_
                      refine xe_imul dX12_thing3_313 ?_
                      refine xe_iload dX12_thing3_314 rfl ?_
                      refine xe_iadd dX12_thing3_316 ?_
                      obtain ⟨a151, n152, e153, t154, b155, hF⟩ := aI_inv hF
                      refine xq_iald dX12_thing3_317 e153 t154 b155 ?_
                      refine xe_if_ne (tgt := 330) dX12_thing3_318 (by decide) (fun c156 => ?_) (fun c156 => ?_)
                      · replace hF := if_p c156 hF
                        refine xe_aload_n dX12_thing3_321 rfl rfl ?_
                        refine xe_bipush (v := 6) dX12_thing3_322 (by decide) ?_
                        obtain ⟨a162, e160, t161, hF⟩ := rcv_inv hF
                        obtain ⟨v157, h158, o159, hF⟩ := cl_inv hF
                        refine xz (xq_callV (As := [.int _]) (rest := []) dX12_thing3_324 mk_X12_fail ⟨tw_1363, tw_1365, ts_64⟩ (ci := 11) rfl e160 t161 (FX12_fail_ok o159) xP_q (by decide) (by decide) rfl rfl ?_)
                        refine xe_goto (tgt := 357) dX12_thing3_327 (by decide) ?_
                        exact xe_return dX12_thing3_357 (xP_ret (mk := mkV) hF)
                      · replace hF := if_n c156 hF
                        refine xe_aload_n dX12_thing3_330 rfl rfl ?_
                        obtain ⟨a164, e165, t166, hF⟩ := gR_inv hF
                        refine xq_getR dX12_thing3_331 fl_SeldomOpsModel_145 xk_11 e165 t166 rfl ?_
                        refine xe_bipush (v := 60) dX12_thing3_334 (by decide) ?_
                        refine xe_iload_n dX12_thing3_336 rfl rfl ?_
                        refine xe_imul dX12_thing3_337 ?_
                        refine xe_iload dX12_thing3_338 rfl ?_
                        refine xe_iadd dX12_thing3_340 ?_
                        refine xe_dup2 dX12_thing3_341 rfl (va_rf_cat _) ?_
                        obtain ⟨a168, n169, e170, t171, b172, hF⟩ := aI_inv hF
                        refine xq_iald dX12_thing3_342 e170 t171 b172 ?_
                        refine xe_iconst (v := 1) dX12_thing3_343 (by decide) ?_
                        refine xe_isub dX12_thing3_344 ?_
                        obtain ⟨a174, n175, e176, t177, b178, hF⟩ := sI_inv hF
                        refine xq_iast dX12_thing3_345 e176 t177 b178 ?_
                        refine xe_aload_n dX12_thing3_346 rfl rfl ?_
                        obtain ⟨a181, e182, t183, hF⟩ := gR_inv hF
                        refine xq_getR dX12_thing3_347 fl_SeldomOpsModel_121 xk_11 e182 t183 rfl ?_
                        refine xe_iload dX12_thing3_350 rfl ?_
                        refine xe_dup2 dX12_thing3_352 rfl (va_rf_cat _) ?_
                        obtain ⟨a185, n186, e187, t188, b189, hF⟩ := aI_inv hF
                        refine xq_iald dX12_thing3_353 e187 t188 b189 ?_
                        refine xe_iconst (v := 1) dX12_thing3_354 (by decide) ?_
                        refine xe_isub dX12_thing3_355 ?_
                        obtain ⟨a191, n192, e193, t194, b195, hF⟩ := sI_inv hF
                        refine xq_iast dX12_thing3_356 e193 t194 b195 ?_
                        exact xe_return dX12_thing3_357 (xP_ret (mk := mkV) hF)
/-! SeldomOpsModel.beginCall(I)V -/
def BX12_beginCall_28 : Nat → Option Nat → Int32 → Int32 → Hp → Option (Unit × Hp)
  | 0, _, _, _, _ => none
  | n + 1, x0, x2, x3, h0 =>
    if (x3 : Int32) < 60 then
      gR h0 x0 11 53 fun v2 =>
      sI h0 v2 ((60 * x2) + x3) 0 fun h6 =>
      BX12_beginCall_28 n x0 x2 (x3 + 1) h6
    else
      gI h0 x0 11 47 fun v13 =>
      pI h0 x0 11 47 (v13 + 1) fun h20 =>
      gI h20 x0 11 60 fun v22 =>
      pI h20 x0 11 60 (v22 + 1) fun h29 =>
      some ((), h29)
set_option maxRecDepth 100000 in
set_option maxHeartbeats 4000000 in
theorem BX12_beginCall_28_ok {G : xG} {l : Launch} : ∀ (n : Nat) {x0 : Option Nat} {x2 : Int32} {x3 : Int32} {h0 h1 : Hp} {r : Unit} (hF : BX12_beginCall_28 n x0 x2 x3 h0 = some (r, h1)), xv G l mX12_beginCall 1 0 0 28 [(0, false, va_rf x0), (2, false, .int x2), (3, false, .int x3)] [] h0 (xP mkV r h1) := by
  intro n
  induction n with
  | zero => intro x0 x2 x3 h0 h1 r hF; cases hF
  | succ n ih =>
    intro x0 x2 x3 h0 h1 r hF
    unfold BX12_beginCall_28 at hF
    refine xe_iload_n dX12_beginCall_28 rfl rfl ?_
    refine xe_bipush (v := 60) dX12_beginCall_29 (by decide) ?_
    refine xe_icmp_ge (tgt := 52) dX12_beginCall_31 (by decide) (fun c1 => ?_) (fun c1 => ?_)
    · replace hF := if_p c1 hF
      refine xe_aload_n dX12_beginCall_34 rfl rfl ?_
      obtain ⟨a3, e4, t5, hF⟩ := gR_inv hF
      refine xq_getR dX12_beginCall_35 fl_SeldomOpsModel_145 xk_11 e4 t5 rfl ?_
      refine xe_bipush (v := 60) dX12_beginCall_38 (by decide) ?_
      refine xe_iload_n dX12_beginCall_40 rfl rfl ?_
      refine xe_imul dX12_beginCall_41 ?_
      refine xe_iload_n dX12_beginCall_42 rfl rfl ?_
      refine xe_iadd dX12_beginCall_43 ?_
      refine xe_iconst (v := 0) dX12_beginCall_44 (by decide) ?_
      obtain ⟨a7, n8, e9, t10, b11, hF⟩ := sI_inv hF
      refine xq_iast dX12_beginCall_45 e9 t10 b11 ?_
      refine xe_iinc (v := _ + 1) dX12_beginCall_46 rfl rfl (by decide) ?_
      refine xe_goto (tgt := 28) dX12_beginCall_49 (by decide) ?_
      exact xv.lv (ih hF) (xsub_cons rfl (xsub_cons rfl (xsub_cons rfl xsub_nil)))
    · replace hF := if_n c1 hF
      refine xe_aload_n dX12_beginCall_52 rfl rfl ?_
      refine xe_dup dX12_beginCall_53 (va_rf_cat _) ?_
      obtain ⟨a14, e15, t16, hF⟩ := gI_inv hF
      refine xq_getI dX12_beginCall_54 fl_SeldomOpsModel_284 xk_11 e15 t16 rfl ?_
      refine xe_iconst (v := 1) dX12_beginCall_57 (by decide) ?_
      refine xe_iadd dX12_beginCall_58 ?_
      obtain ⟨a17, e18, t19, hF⟩ := pI_inv hF
      refine xq_putI dX12_beginCall_59 fl_SeldomOpsModel_284 xk_11 (by decide) (fun z => by cases z) e18 t19 (Or.inl rfl) ?_
      refine xe_aload_n dX12_beginCall_62 rfl rfl ?_
      refine xe_dup dX12_beginCall_63 (va_rf_cat _) ?_
      obtain ⟨a23, e24, t25, hF⟩ := gI_inv hF
      refine xq_getI dX12_beginCall_64 fl_SeldomOpsModel_287 xk_11 e24 t25 rfl ?_
      refine xe_iconst (v := 1) dX12_beginCall_67 (by decide) ?_
      refine xe_iadd dX12_beginCall_68 ?_
      obtain ⟨a26, e27, t28, hF⟩ := pI_inv hF
      refine xq_putI dX12_beginCall_69 fl_SeldomOpsModel_287 xk_11 (by decide) (fun z => by cases z) e27 t28 (Or.inl rfl) ?_
      exact xe_return dX12_beginCall_72 (xP_ret (mk := mkV) hF)
def FX12_beginCall (p0 : Option Nat) (p1 : Int32) (h0 : Hp) : Option (Unit × Hp) :=
  gI h0 p0 11 47 fun v1 =>
  gR h0 p0 11 48 fun v5 =>
  sI h0 v5 v1 p1 fun h9 =>
  gR h9 p0 11 49 fun v16 =>
  sI h9 v16 v1 0 fun h20 =>
  gR h20 p0 11 50 fun v27 =>
  sI h20 v27 v1 0 fun h31 =>
  BX12_beginCall_28 100000 p0 v1 0 h31
set_option maxRecDepth 100000 in
set_option maxHeartbeats 4000000 in
theorem FX12_beginCall_ok {G : xG} {l : Launch} {p0 : Option Nat} {p1 : Int32} {h0 h1 : Hp} {r : Unit} (hF : FX12_beginCall p0 p1 h0 = some (r, h1)) : xc G l mX12_beginCall 1 0 0 [va_rf p0, .int p1] h0 (xP mkV r h1) := by
  refine xo_V [.inr (.inr _), .inl _] (by decide) (Nat.le_of_ble_eq_true rfl) rfl ?_
  show xv _ _ _ _ _ _ _ [(0, false, va_rf p0), (1, false, .int p1)] _ _ _
  unfold FX12_beginCall at hF
  refine xe_aload_n dX12_beginCall_0 rfl rfl ?_
  obtain ⟨a2, e3, t4, hF⟩ := gI_inv hF
  refine xq_getI dX12_beginCall_1 fl_SeldomOpsModel_284 xk_11 e3 t4 rfl ?_
  refine xe_istore_n dX12_beginCall_4 rfl (by decide) ?_
  refine xe_aload_n dX12_beginCall_5 rfl rfl ?_
  obtain ⟨a6, e7, t8, hF⟩ := gR_inv hF
  refine xq_getR dX12_beginCall_6 fl_SeldomOpsModel_130 xk_11 e7 t8 rfl ?_
  refine xe_iload_n dX12_beginCall_9 rfl rfl ?_
  refine xe_iload_n dX12_beginCall_10 rfl rfl ?_
  obtain ⟨a10, n11, e12, t13, b14, hF⟩ := sI_inv hF
  refine xq_iast dX12_beginCall_11 e12 t13 b14 ?_
  refine xe_aload_n dX12_beginCall_12 rfl rfl ?_
  obtain ⟨a17, e18, t19, hF⟩ := gR_inv hF
  refine xq_getR dX12_beginCall_13 fl_SeldomOpsModel_133 xk_11 e18 t19 rfl ?_
  refine xe_iload_n dX12_beginCall_16 rfl rfl ?_
  refine xe_iconst (v := 0) dX12_beginCall_17 (by decide) ?_
  obtain ⟨a21, n22, e23, t24, b25, hF⟩ := sI_inv hF
  refine xq_iast dX12_beginCall_18 e23 t24 b25 ?_
  refine xe_aload_n dX12_beginCall_19 rfl rfl ?_
  obtain ⟨a28, e29, t30, hF⟩ := gR_inv hF
  refine xq_getR dX12_beginCall_20 fl_SeldomOpsModel_136 xk_11 e29 t30 rfl ?_
  refine xe_iload_n dX12_beginCall_23 rfl rfl ?_
  refine xe_iconst (v := 0) dX12_beginCall_24 (by decide) ?_
  obtain ⟨a32, n33, e34, t35, b36, hF⟩ := sI_inv hF
  refine xq_iast dX12_beginCall_25 e34 t35 b36 ?_
  refine xe_iconst (v := 0) dX12_beginCall_26 (by decide) ?_
  refine xe_istore_n dX12_beginCall_27 rfl (by decide) ?_
  exact xv.lv (BX12_beginCall_28_ok _ hF) (xsub_cons rfl (xsub_cons rfl (xsub_cons rfl xsub_nil)))
