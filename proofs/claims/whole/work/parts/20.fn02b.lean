/-! SeldomOps$Judge.operandsAreSuch(III)Z -/
def BX1_operandsAreSuch_156 (x0 : Option Nat) (x2 : Int32) (h0 : Hp) : Option (Int32 × Hp) :=
  gR h0 x0 1 0 fun v1 =>
  gI h0 v1 3 3 fun v5 =>
  cl (FX11_within x2 v5 h0) fun v9 h10 =>
  bz v9 (some (v9, h10))
set_option maxRecDepth 100000 in
set_option maxHeartbeats 4000000 in
theorem BX1_operandsAreSuch_156_ok {G : xG} {l : Launch} {x0 : Option Nat} {x2 : Int32} {h0 h1 : Hp} {r : Int32} (hF : BX1_operandsAreSuch_156 x0 x2 h0 = some (r, h1)) : xv G l mX1_operandsAreSuch 3 0 0 156 [(0, false, va_rf x0), (2, false, .int x2)] [] h0 (xPZ r h1) := by
  unfold BX1_operandsAreSuch_156 at hF
  refine xe_iload_n dX1_operandsAreSuch_156 rfl rfl ?_
  refine xe_aload_n dX1_operandsAreSuch_157 rfl rfl ?_
  obtain ⟨a2, e3, t4, hF⟩ := gR_inv hF
  refine xq_getR dX1_operandsAreSuch_158 fl_Judge_31 xk_1 e3 t4 rfl ?_
  obtain ⟨a6, e7, t8, hF⟩ := gI_inv hF
  refine xq_getI dX1_operandsAreSuch_161 fl_Judge_154 xk_3 e7 t8 rfl ?_
  obtain ⟨v9, h10, o11, hF⟩ := cl_inv hF
  refine xz (xq_callSN (As := [.int _, .int _]) (rest := []) dX1_operandsAreSuch_164 mk_X11_within ⟨tn_561, tw_264⟩ (FX11_within_ok o11) xPZ_q (by decide) (by decide) rfl rfl ?_)
  obtain ⟨z12, hF⟩ := bz_inv hF
  exact xe_ireturn dX1_operandsAreSuch_167 (xPZ_ret z12 hF)
def BX1_operandsAreSuch_168 (x2 : Int32) (x3 : Int32) (h0 : Hp) : Option (Int32 × Hp) :=
  cl (FX11_within x3 5 h0) fun v1 h2 =>
  if (v1 : Int32) = 0 then
    bz 0 (some (0, h2))
  else
    cl (FX11_width x3 h2) fun v6 h7 =>
    cl (FX11_within x2 (17 - v6) h7) fun v9 h10 =>
    if (v9 : Int32) = 0 then
      bz 0 (some (0, h10))
    else
      bz 1 (some (1, h10))
set_option maxRecDepth 100000 in
set_option maxHeartbeats 4000000 in
theorem BX1_operandsAreSuch_168_ok {G : xG} {l : Launch} {x2 : Int32} {x3 : Int32} {h0 h1 : Hp} {r : Int32} (hF : BX1_operandsAreSuch_168 x2 x3 h0 = some (r, h1)) : xv G l mX1_operandsAreSuch 3 0 0 168 [(2, false, .int x2), (3, false, .int x3)] [] h0 (xPZ r h1) := by
  unfold BX1_operandsAreSuch_168 at hF
  refine xe_iload_n dX1_operandsAreSuch_168 rfl rfl ?_
  refine xe_iconst (v := 5) dX1_operandsAreSuch_169 (by decide) ?_
  obtain ⟨v1, h2, o3, hF⟩ := cl_inv hF
  refine xz (xq_callSN (As := [.int _, .int _]) (rest := []) dX1_operandsAreSuch_170 mk_X11_within ⟨tn_561, tw_264⟩ (FX11_within_ok o3) xPZ_q (by decide) (by decide) rfl rfl ?_)
  refine xe_if_eq (tgt := 194) dX1_operandsAreSuch_173 (by decide) (fun c4 => ?_) (fun c4 => ?_)
  · replace hF := if_p c4 hF
    refine xe_iconst (v := 0) dX1_operandsAreSuch_194 (by decide) ?_
    obtain ⟨z5, hF⟩ := bz_inv hF
    exact xe_ireturn dX1_operandsAreSuch_195 (xPZ_ret z5 hF)
  · replace hF := if_n c4 hF
    refine xe_iload_n dX1_operandsAreSuch_176 rfl rfl ?_
    refine xe_bipush (v := 17) dX1_operandsAreSuch_177 (by decide) ?_
    refine xe_iload_n dX1_operandsAreSuch_179 rfl rfl ?_
    obtain ⟨v6, h7, o8, hF⟩ := cl_inv hF
    refine xz (xq_callSN (As := [.int _]) (rest := [.int _, .int _]) dX1_operandsAreSuch_180 mk_X11_width ⟨tn_518, tw_387⟩ (FX11_width_ok o8) xP_q (by decide) (Nat.le_trans (cs_i (cs_i cs_0)) (by decide)) rfl rfl ?_)
    refine xe_isub dX1_operandsAreSuch_183 ?_
    obtain ⟨v9, h10, o11, hF⟩ := cl_inv hF
    refine xz (xq_callSN (As := [.int _, .int _]) (rest := []) dX1_operandsAreSuch_184 mk_X11_within ⟨tn_561, tw_264⟩ (FX11_within_ok o11) xPZ_q (by decide) (by decide) rfl rfl ?_)
    refine xe_if_eq (tgt := 194) dX1_operandsAreSuch_187 (by decide) (fun c12 => ?_) (fun c12 => ?_)
    · replace hF := if_p c12 hF
      refine xe_iconst (v := 0) dX1_operandsAreSuch_194 (by decide) ?_
      obtain ⟨z13, hF⟩ := bz_inv hF
      exact xe_ireturn dX1_operandsAreSuch_195 (xPZ_ret z13 hF)
    · replace hF := if_n c12 hF
      refine xe_iconst (v := 1) dX1_operandsAreSuch_190 (by decide) ?_
      refine xe_goto (tgt := 195) dX1_operandsAreSuch_191 (by decide) ?_
      obtain ⟨z14, hF⟩ := bz_inv hF
      exact xe_ireturn dX1_operandsAreSuch_195 (xPZ_ret z14 hF)
def BX1_operandsAreSuch_290 (x3 : Int32) (h0 : Hp) : Option (Int32 × Hp) :=
  cl (FX11_within x3 8 h0) fun v1 h2 =>
  bz v1 (some (v1, h2))
set_option maxRecDepth 100000 in
set_option maxHeartbeats 4000000 in
theorem BX1_operandsAreSuch_290_ok {G : xG} {l : Launch} {x3 : Int32} {h0 h1 : Hp} {r : Int32} (hF : BX1_operandsAreSuch_290 x3 h0 = some (r, h1)) : xv G l mX1_operandsAreSuch 3 0 0 290 [(3, false, .int x3)] [] h0 (xPZ r h1) := by
  unfold BX1_operandsAreSuch_290 at hF
  refine xe_iload_n dX1_operandsAreSuch_290 rfl rfl ?_
  refine xe_bipush (v := 8) dX1_operandsAreSuch_291 (by decide) ?_
  obtain ⟨v1, h2, o3, hF⟩ := cl_inv hF
  refine xz (xq_callSN (As := [.int _, .int _]) (rest := []) dX1_operandsAreSuch_293 mk_X11_within ⟨tn_561, tw_264⟩ (FX11_within_ok o3) xPZ_q (by decide) (by decide) rfl rfl ?_)
  obtain ⟨z4, hF⟩ := bz_inv hF
  exact xe_ireturn dX1_operandsAreSuch_296 (xPZ_ret z4 hF)
def BX1_operandsAreSuch_297 (x2 : Int32) (h0 : Hp) : Option (Int32 × Hp) :=
  cl (FX11_isType x2 h0) fun v1 h2 =>
  bz v1 (some (v1, h2))
set_option maxRecDepth 100000 in
set_option maxHeartbeats 4000000 in
theorem BX1_operandsAreSuch_297_ok {G : xG} {l : Launch} {x2 : Int32} {h0 h1 : Hp} {r : Int32} (hF : BX1_operandsAreSuch_297 x2 h0 = some (r, h1)) : xv G l mX1_operandsAreSuch 3 0 0 297 [(2, false, .int x2)] [] h0 (xPZ r h1) := by
  unfold BX1_operandsAreSuch_297 at hF
  refine xe_iload_n dX1_operandsAreSuch_297 rfl rfl ?_
  obtain ⟨v1, h2, o3, hF⟩ := cl_inv hF
  refine xz (xq_callSN (As := [.int _]) (rest := []) dX1_operandsAreSuch_298 mk_X11_isType ⟨tn_562, tw_563⟩ (FX11_isType_ok o3) xPZ_q (by decide) (by decide) rfl rfl ?_)
  obtain ⟨z4, hF⟩ := bz_inv hF
  exact xe_ireturn dX1_operandsAreSuch_301 (xPZ_ret z4 hF)
def FX1_operandsAreSuch (p0 : Option Nat) (p1 : Int32) (p2 : Int32) (p3 : Int32) (h0 : Hp) : Option (Int32 × Hp) :=
  if (p1 : Int32) = 1 then
    BX1_operandsAreSuch_156 p0 p2 h0
  else
  if (p1 : Int32) = 3 then
    BX1_operandsAreSuch_156 p0 p2 h0
  else
  if (p1 : Int32) = 5 then
    BX1_operandsAreSuch_168 p2 p3 h0
  else
  if (p1 : Int32) = 6 then
    BX1_operandsAreSuch_168 p2 p3 h0
  else
  if (p1 : Int32) = 7 then
    cl (FX11_within p2 16 h0) fun v6 h7 =>
    bz v6 (some (v6, h7))
  else
  if (p1 : Int32) = 17 then
    cl (FX11_within p2 12 h0) fun v11 h12 =>
    if (v11 : Int32) = 0 then
      bz 0 (some (0, h12))
    else
      if (p3 : Int32) = 0 then
        bz 1 (some (1, h12))
      else
        if (p3 : Int32) = 1 then
          bz 1 (some (1, h12))
        else
          bz 0 (some (0, h12))
  else
  if (p1 : Int32) = 18 then
    cl (FX11_within p2 5 h0) fun v22 h23 =>
    bz v22 (some (v22, h23))
  else
  if (p1 : Int32) = 19 then
    cl (FX11_within p2 5 h0) fun v27 h28 =>
    bz v27 (some (v27, h28))
  else
  if (p1 : Int32) = 21 then
    cl (FX11_within p3 6 h0) fun v32 h33 =>
    bz v32 (some (v32, h33))
  else
  if (p1 : Int32) = 22 then
    cl (FX11_within p3 2 h0) fun v37 h38 =>
    bz v37 (some (v37, h38))
  else
  if (p1 : Int32) = 23 then
    gR h0 p0 1 0 fun v42 =>
    gI h0 v42 3 5 fun v46 =>
    cl (FX11_within p2 v46 h0) fun v50 h51 =>
    bz v50 (some (v50, h51))
  else
  if (p1 : Int32) = 24 then
    cl (FX11_isType p2 h0) fun v55 h56 =>
    if (v55 : Int32) = 0 then
      bz 0 (some (0, h56))
    else
      if (p3 : Int32) < 1 then
        bz 0 (some (0, h56))
      else
        if ((p2 / 8) : Int32) < p3 then
          bz 0 (some (0, h56))
        else
          bz 1 (some (1, h56))
  else
  if (p1 : Int32) = 25 then
    BX1_operandsAreSuch_290 p3 h0
  else
  if (p1 : Int32) = 26 then
    BX1_operandsAreSuch_290 p3 h0
  else
  if (p1 : Int32) = 28 then
    BX1_operandsAreSuch_297 p2 h0
  else
  if (p1 : Int32) = 29 then
    BX1_operandsAreSuch_297 p2 h0
  else
  if (p1 : Int32) = 30 then
    cl (FX11_within p2 16 h0) fun v71 h72 =>
    bz v71 (some (v71, h72))
  else
  if (p1 : Int32) = 34 then
    cl (FX11_within p2 6 h0) fun v76 h77 =>
    bz v76 (some (v76, h77))
  else
  if (p1 : Int32) = 35 then
    gR h0 p0 1 0 fun v81 =>
    gI h0 v81 3 1 fun v85 =>
    cl (FX11_within p2 v85 h0) fun v89 h90 =>
    bz v89 (some (v89, h90))
  else
  bz 1 (some (1, h0))
set_option maxRecDepth 100000 in
set_option maxHeartbeats 4000000 in
theorem FX1_operandsAreSuch_ok {G : xG} {l : Launch} {p0 : Option Nat} {p1 : Int32} {p2 : Int32} {p3 : Int32} {h0 h1 : Hp} {r : Int32} (hF : FX1_operandsAreSuch p0 p1 p2 p3 h0 = some (r, h1)) : xc G l mX1_operandsAreSuch 3 0 0 [va_rf p0, .int p1, .int p2, .int p3] h0 (xPZ r h1) := by
  refine xo_Z [.inr (.inr _), .inl _, .inl _, .inl _] (by decide) (Nat.le_of_ble_eq_true rfl) rfl ?_
  show xv _ _ _ _ _ _ _ [(0, false, va_rf p0), (1, false, .int p1), (2, false, .int p2), (3, false, .int p3)] _ _ _
  unfold FX1_operandsAreSuch at hF
  refine xe_iload_n dX1_operandsAreSuch_0 rfl rfl ?_
  refine xs_case (j := 1) (tgt := 156) dX1_operandsAreSuch_1 (by decide) (by decide) rfl (by decide) (fun c1 => ?_) (fun c1 => ?_)
  · replace hF := if_p c1 hF
    exact xv.lv (BX1_operandsAreSuch_156_ok hF) (xsub_cons rfl (xsub_cons rfl xsub_nil))
  replace hF := if_n c1 hF
  refine xs_case (j := 3) (tgt := 156) dX1_operandsAreSuch_1 (by decide) (by decide) rfl (by decide) (fun c2 => ?_) (fun c2 => ?_)
  · replace hF := if_p c2 hF
    exact xv.lv (BX1_operandsAreSuch_156_ok hF) (xsub_cons rfl (xsub_cons rfl xsub_nil))
  replace hF := if_n c2 hF
  refine xs_case (j := 5) (tgt := 168) dX1_operandsAreSuch_1 (by decide) (by decide) rfl (by decide) (fun c3 => ?_) (fun c3 => ?_)
  · replace hF := if_p c3 hF
    exact xv.lv (BX1_operandsAreSuch_168_ok hF) (xsub_cons rfl (xsub_cons rfl xsub_nil))
  replace hF := if_n c3 hF
  refine xs_case (j := 6) (tgt := 168) dX1_operandsAreSuch_1 (by decide) (by decide) rfl (by decide) (fun c4 => ?_) (fun c4 => ?_)
  · replace hF := if_p c4 hF
    exact xv.lv (BX1_operandsAreSuch_168_ok hF) (xsub_cons rfl (xsub_cons rfl xsub_nil))
  replace hF := if_n c4 hF
  refine xs_case (j := 7) (tgt := 196) dX1_operandsAreSuch_1 (by decide) (by decide) rfl (by decide) (fun c5 => ?_) (fun c5 => ?_)
  · replace hF := if_p c5 hF
    refine xe_iload_n dX1_operandsAreSuch_196 rfl rfl ?_
    refine xe_bipush (v := 16) dX1_operandsAreSuch_197 (by decide) ?_
    obtain ⟨v6, h7, o8, hF⟩ := cl_inv hF
    refine xz (xq_callSN (As := [.int _, .int _]) (rest := []) dX1_operandsAreSuch_199 mk_X11_within ⟨tn_561, tw_264⟩ (FX11_within_ok o8) xPZ_q (by decide) (by decide) rfl rfl ?_)
    obtain ⟨z9, hF⟩ := bz_inv hF
    exact xe_ireturn dX1_operandsAreSuch_202 (xPZ_ret z9 hF)
  replace hF := if_n c5 hF
  refine xs_case (j := 17) (tgt := 203) dX1_operandsAreSuch_1 (by decide) (by decide) rfl (by decide) (fun c10 => ?_) (fun c10 => ?_)
  · replace hF := if_p c10 hF
    refine xe_iload_n dX1_operandsAreSuch_203 rfl rfl ?_
    refine xe_bipush (v := 12) dX1_operandsAreSuch_204 (by decide) ?_
    obtain ⟨v11, h12, o13, hF⟩ := cl_inv hF
    refine xz (xq_callSN (As := [.int _, .int _]) (rest := []) dX1_operandsAreSuch_206 mk_X11_within ⟨tn_561, tw_264⟩ (FX11_within_ok o13) xPZ_q (by decide) (by decide) rfl rfl ?_)
    refine xe_if_eq (tgt := 225) dX1_operandsAreSuch_209 (by decide) (fun c14 => ?_) (fun c14 => ?_)
    · replace hF := if_p c14 hF
      refine xe_iconst (v := 0) dX1_operandsAreSuch_225 (by decide) ?_
      obtain ⟨z15, hF⟩ := bz_inv hF
      exact xe_ireturn dX1_operandsAreSuch_226 (xPZ_ret z15 hF)
    · replace hF := if_n c14 hF
      refine xe_iload_n dX1_operandsAreSuch_212 rfl rfl ?_
      refine xe_if_eq (tgt := 221) dX1_operandsAreSuch_213 (by decide) (fun c16 => ?_) (fun c16 => ?_)
      · replace hF := if_p c16 hF
        refine xe_iconst (v := 1) dX1_operandsAreSuch_221 (by decide) ?_
        refine xe_goto (tgt := 226) dX1_operandsAreSuch_222 (by decide) ?_
        obtain ⟨z17, hF⟩ := bz_inv hF
        exact xe_ireturn dX1_operandsAreSuch_226 (xPZ_ret z17 hF)
      · replace hF := if_n c16 hF
        refine xe_iload_n dX1_operandsAreSuch_216 rfl rfl ?_
        refine xe_iconst (v := 1) dX1_operandsAreSuch_217 (by decide) ?_
        refine xe_icmp_ne (tgt := 225) dX1_operandsAreSuch_218 (by decide) (fun c18 => ?_) (fun c18 => ?_)
        · replace hF := if_p c18 hF
          refine xe_iconst (v := 1) dX1_operandsAreSuch_221 (by decide) ?_
          refine xe_goto (tgt := 226) dX1_operandsAreSuch_222 (by decide) ?_
          obtain ⟨z19, hF⟩ := bz_inv hF
          exact xe_ireturn dX1_operandsAreSuch_226 (xPZ_ret z19 hF)
        · replace hF := if_n c18 hF
          refine xe_iconst (v := 0) dX1_operandsAreSuch_225 (by decide) ?_
          obtain ⟨z20, hF⟩ := bz_inv hF
          exact xe_ireturn dX1_operandsAreSuch_226 (xPZ_ret z20 hF)
  replace hF := if_n c10 hF
  refine xs_case (j := 18) (tgt := 227) dX1_operandsAreSuch_1 (by decide) (by decide) rfl (by decide) (fun c21 => ?_) (fun c21 => ?_)
  · replace hF := if_p c21 hF
    refine xe_iload_n dX1_operandsAreSuch_227 rfl rfl ?_
    refine xe_iconst (v := 5) dX1_operandsAreSuch_228 (by decide) ?_
    obtain ⟨v22, h23, o24, hF⟩ := cl_inv hF
    refine xz (xq_callSN (As := [.int _, .int _]) (rest := []) dX1_operandsAreSuch_229 mk_X11_within ⟨tn_561, tw_264⟩ (FX11_within_ok o24) xPZ_q (by decide) (by decide) rfl rfl ?_)
    obtain ⟨z25, hF⟩ := bz_inv hF
    exact xe_ireturn dX1_operandsAreSuch_232 (xPZ_ret z25 hF)
  replace hF := if_n c21 hF
  refine xs_case (j := 19) (tgt := 233) dX1_operandsAreSuch_1 (by decide) (by decide) rfl (by decide) (fun c26 => ?_) (fun c26 => ?_)
  · replace hF := if_p c26 hF
    refine xe_iload_n dX1_operandsAreSuch_233 rfl rfl ?_
    refine xe_iconst (v := 5) dX1_operandsAreSuch_234 (by decide) ?_
    obtain ⟨v27, h28, o29, hF⟩ := cl_inv hF
    refine xz (xq_callSN (As := [.int _, .int _]) (rest := []) dX1_operandsAreSuch_235 mk_X11_within ⟨tn_561, tw_264⟩ (FX11_within_ok o29) xPZ_q (by decide) (by decide) rfl rfl ?_)
    obtain ⟨z30, hF⟩ := bz_inv hF
    exact xe_ireturn dX1_operandsAreSuch_238 (xPZ_ret z30 hF)
  replace hF := if_n c26 hF
  refine xs_case (j := 21) (tgt := 239) dX1_operandsAreSuch_1 (by decide) (by decide) rfl (by decide) (fun c31 => ?_) (fun c31 => ?_)
  · replace hF := if_p c31 hF
    refine xe_iload_n dX1_operandsAreSuch_239 rfl rfl ?_
    refine xe_bipush (v := 6) dX1_operandsAreSuch_240 (by decide) ?_
    obtain ⟨v32, h33, o34, hF⟩ := cl_inv hF
    refine xz (xq_callSN (As := [.int _, .int _]) (rest := []) dX1_operandsAreSuch_242 mk_X11_within ⟨tn_561, tw_264⟩ (FX11_within_ok o34) xPZ_q (by decide) (by decide) rfl rfl ?_)
    obtain ⟨z35, hF⟩ := bz_inv hF
    exact xe_ireturn dX1_operandsAreSuch_245 (xPZ_ret z35 hF)
  replace hF := if_n c31 hF
  refine xs_case (j := 22) (tgt := 246) dX1_operandsAreSuch_1 (by decide) (by decide) rfl (by decide) (fun c36 => ?_) (fun c36 => ?_)
  · replace hF := if_p c36 hF
    refine xe_iload_n dX1_operandsAreSuch_246 rfl rfl ?_
    refine xe_iconst (v := 2) dX1_operandsAreSuch_247 (by decide) ?_
    obtain ⟨v37, h38, o39, hF⟩ := cl_inv hF
    refine xz (xq_callSN (As := [.int _, .int _]) (rest := []) dX1_operandsAreSuch_248 mk_X11_within ⟨tn_561, tw_264⟩ (FX11_within_ok o39) xPZ_q (by decide) (by decide) rfl rfl ?_)
    obtain ⟨z40, hF⟩ := bz_inv hF
    exact xe_ireturn dX1_operandsAreSuch_251 (xPZ_ret z40 hF)
  replace hF := if_n c36 hF
  refine xs_case (j := 23) (tgt := 252) dX1_operandsAreSuch_1 (by decide) (by decide) rfl (by decide) (fun c41 => ?_) (fun c41 => ?_)
  · replace hF := if_p c41 hF
    refine xe_iload_n dX1_operandsAreSuch_252 rfl rfl ?_
    refine xe_aload_n dX1_operandsAreSuch_253 rfl rfl ?_
    obtain ⟨a43, e44, t45, hF⟩ := gR_inv hF
    refine xq_getR dX1_operandsAreSuch_254 fl_Judge_31 xk_1 e44 t45 rfl ?_
    obtain ⟨a47, e48, t49, hF⟩ := gI_inv hF
    refine xq_getI dX1_operandsAreSuch_257 fl_Judge_162 xk_3 e48 t49 rfl ?_
    obtain ⟨v50, h51, o52, hF⟩ := cl_inv hF
    refine xz (xq_callSN (As := [.int _, .int _]) (rest := []) dX1_operandsAreSuch_260 mk_X11_within ⟨tn_561, tw_264⟩ (FX11_within_ok o52) xPZ_q (by decide) (by decide) rfl rfl ?_)
    obtain ⟨z53, hF⟩ := bz_inv hF
    exact xe_ireturn dX1_operandsAreSuch_263 (xPZ_ret z53 hF)
  replace hF := if_n c41 hF
  refine xs_case (j := 24) (tgt := 264) dX1_operandsAreSuch_1 (by decide) (by decide) rfl (by decide) (fun c54 => ?_) (fun c54 => ?_)
  · replace hF := if_p c54 hF
    refine xe_iload_n dX1_operandsAreSuch_264 rfl rfl ?_
    obtain ⟨v55, h56, o57, hF⟩ := cl_inv hF
    refine xz (xq_callSN (As := [.int _]) (rest := []) dX1_operandsAreSuch_265 mk_X11_isType ⟨tn_562, tw_563⟩ (FX11_isType_ok o57) xPZ_q (by decide) (by decide) rfl rfl ?_)
    refine xe_if_eq (tgt := 288) dX1_operandsAreSuch_268 (by decide) (fun c58 => ?_) (fun c58 => ?_)
    · replace hF := if_p c58 hF
      refine xe_iconst (v := 0) dX1_operandsAreSuch_288 (by decide) ?_
      obtain ⟨z59, hF⟩ := bz_inv hF
      exact xe_ireturn dX1_operandsAreSuch_289 (xPZ_ret z59 hF)
    · replace hF := if_n c58 hF
      refine xe_iload_n dX1_operandsAreSuch_271 rfl rfl ?_
      refine xe_iconst (v := 1) dX1_operandsAreSuch_272 (by decide) ?_
      refine xe_icmp_lt (tgt := 288) dX1_operandsAreSuch_273 (by decide) (fun c60 => ?_) (fun c60 => ?_)
      · replace hF := if_p c60 hF
        refine xe_iconst (v := 0) dX1_operandsAreSuch_288 (by decide) ?_
        obtain ⟨z61, hF⟩ := bz_inv hF
        exact xe_ireturn dX1_operandsAreSuch_289 (xPZ_ret z61 hF)
      · replace hF := if_n c60 hF
        refine xe_iload_n dX1_operandsAreSuch_276 rfl rfl ?_
        refine xe_iload_n dX1_operandsAreSuch_277 rfl rfl ?_
        refine xe_bipush (v := 8) dX1_operandsAreSuch_278 (by decide) ?_
        refine xe_idiv dX1_operandsAreSuch_280 (by decide) ?_
        refine xe_icmp_gt (tgt := 288) dX1_operandsAreSuch_281 (by decide) (fun c63 => ?_) (fun c63 => ?_)
        · replace hF := if_p c63 hF
          refine xe_iconst (v := 0) dX1_operandsAreSuch_288 (by decide) ?_
          obtain ⟨z64, hF⟩ := bz_inv hF
          exact xe_ireturn dX1_operandsAreSuch_289 (xPZ_ret z64 hF)
        · replace hF := if_n c63 hF
          refine xe_iconst (v := 1) dX1_operandsAreSuch_284 (by decide) ?_
          refine xe_goto (tgt := 289) dX1_operandsAreSuch_285 (by decide) ?_
          obtain ⟨z65, hF⟩ := bz_inv hF
          exact xe_ireturn dX1_operandsAreSuch_289 (xPZ_ret z65 hF)
  replace hF := if_n c54 hF
  refine xs_case (j := 25) (tgt := 290) dX1_operandsAreSuch_1 (by decide) (by decide) rfl (by decide) (fun c66 => ?_) (fun c66 => ?_)
  · replace hF := if_p c66 hF
    exact xv.lv (BX1_operandsAreSuch_290_ok hF) (xsub_cons rfl xsub_nil)
  replace hF := if_n c66 hF
  refine xs_case (j := 26) (tgt := 290) dX1_operandsAreSuch_1 (by decide) (by decide) rfl (by decide) (fun c67 => ?_) (fun c67 => ?_)
  · replace hF := if_p c67 hF
    exact xv.lv (BX1_operandsAreSuch_290_ok hF) (xsub_cons rfl xsub_nil)
  replace hF := if_n c67 hF
  refine xs_case (j := 28) (tgt := 297) dX1_operandsAreSuch_1 (by decide) (by decide) rfl (by decide) (fun c68 => ?_) (fun c68 => ?_)
  · replace hF := if_p c68 hF
    exact xv.lv (BX1_operandsAreSuch_297_ok hF) (xsub_cons rfl xsub_nil)
  replace hF := if_n c68 hF
  refine xs_case (j := 29) (tgt := 297) dX1_operandsAreSuch_1 (by decide) (by decide) rfl (by decide) (fun c69 => ?_) (fun c69 => ?_)
  · replace hF := if_p c69 hF
    exact xv.lv (BX1_operandsAreSuch_297_ok hF) (xsub_cons rfl xsub_nil)
  replace hF := if_n c69 hF
  refine xs_case (j := 30) (tgt := 302) dX1_operandsAreSuch_1 (by decide) (by decide) rfl (by decide) (fun c70 => ?_) (fun c70 => ?_)
  · replace hF := if_p c70 hF
    refine xe_iload_n dX1_operandsAreSuch_302 rfl rfl ?_
    refine xe_bipush (v := 16) dX1_operandsAreSuch_303 (by decide) ?_
    obtain ⟨v71, h72, o73, hF⟩ := cl_inv hF
    refine xz (xq_callSN (As := [.int _, .int _]) (rest := []) dX1_operandsAreSuch_305 mk_X11_within ⟨tn_561, tw_264⟩ (FX11_within_ok o73) xPZ_q (by decide) (by decide) rfl rfl ?_)
    obtain ⟨z74, hF⟩ := bz_inv hF
    exact xe_ireturn dX1_operandsAreSuch_308 (xPZ_ret z74 hF)
  replace hF := if_n c70 hF
  refine xs_case (j := 34) (tgt := 309) dX1_operandsAreSuch_1 (by decide) (by decide) rfl (by decide) (fun c75 => ?_) (fun c75 => ?_)
  · replace hF := if_p c75 hF
    refine xe_iload_n dX1_operandsAreSuch_309 rfl rfl ?_
    refine xe_bipush (v := 6) dX1_operandsAreSuch_310 (by decide) ?_
    obtain ⟨v76, h77, o78, hF⟩ := cl_inv hF
    refine xz (xq_callSN (As := [.int _, .int _]) (rest := []) dX1_operandsAreSuch_312 mk_X11_within ⟨tn_561, tw_264⟩ (FX11_within_ok o78) xPZ_q (by decide) (by decide) rfl rfl ?_)
    obtain ⟨z79, hF⟩ := bz_inv hF
    exact xe_ireturn dX1_operandsAreSuch_315 (xPZ_ret z79 hF)
  replace hF := if_n c75 hF
  refine xs_case (j := 35) (tgt := 316) dX1_operandsAreSuch_1 (by decide) (by decide) rfl (by decide) (fun c80 => ?_) (fun c80 => ?_)
  · replace hF := if_p c80 hF
    refine xe_iload_n dX1_operandsAreSuch_316 rfl rfl ?_
    refine xe_aload_n dX1_operandsAreSuch_317 rfl rfl ?_
    obtain ⟨a82, e83, t84, hF⟩ := gR_inv hF
    refine xq_getR dX1_operandsAreSuch_318 fl_Judge_31 xk_1 e83 t84 rfl ?_
    obtain ⟨a86, e87, t88, hF⟩ := gI_inv hF
    refine xq_getI dX1_operandsAreSuch_321 fl_Judge_168 xk_3 e87 t88 rfl ?_
    obtain ⟨v89, h90, o91, hF⟩ := cl_inv hF
    refine xz (xq_callSN (As := [.int _, .int _]) (rest := []) dX1_operandsAreSuch_324 mk_X11_within ⟨tn_561, tw_264⟩ (FX11_within_ok o91) xPZ_q (by decide) (by decide) rfl rfl ?_)
    obtain ⟨z92, hF⟩ := bz_inv hF
    exact xe_ireturn dX1_operandsAreSuch_327 (xPZ_ret z92 hF)
  replace hF := if_n c80 hF
  refine xs_rest (tgt := 328) [1, 3, 5, 6, 7, 17, 18, 19, 21, 22, 23, 24, 25, 26, 28, 29, 30, 34, 35] dX1_operandsAreSuch_1 (by decide) (List.forall_mem_cons.mpr ⟨c1, List.forall_mem_cons.mpr ⟨c2, List.forall_mem_cons.mpr ⟨c3, List.forall_mem_cons.mpr ⟨c4, List.forall_mem_cons.mpr ⟨c5, List.forall_mem_cons.mpr ⟨c10, List.forall_mem_cons.mpr ⟨c21, List.forall_mem_cons.mpr ⟨c26, List.forall_mem_cons.mpr ⟨c31, List.forall_mem_cons.mpr ⟨c36, List.forall_mem_cons.mpr ⟨c41, List.forall_mem_cons.mpr ⟨c54, List.forall_mem_cons.mpr ⟨c66, List.forall_mem_cons.mpr ⟨c67, List.forall_mem_cons.mpr ⟨c68, List.forall_mem_cons.mpr ⟨c69, List.forall_mem_cons.mpr ⟨c70, List.forall_mem_cons.mpr ⟨c75, List.forall_mem_cons.mpr ⟨c80, fun _ h => by cases h⟩⟩⟩⟩⟩⟩⟩⟩⟩⟩⟩⟩⟩⟩⟩⟩⟩⟩⟩) (by decide) ?_
  refine xe_iconst (v := 1) dX1_operandsAreSuch_328 (by decide) ?_
  obtain ⟨z93, hF⟩ := bz_inv hF
  exact xe_ireturn dX1_operandsAreSuch_329 (xPZ_ret z93 hF)
/-! SeldomOps$Program.findTable(I)LSeldomOps$Table; -/
def FX4_findTable (p0 : Option Nat) (p1 : Int32) (h0 : Hp) : Option (Option Nat × Hp) :=
  gI h0 p0 3 5 fun v1 =>
  cl (FX11_within p1 v1 h0) fun v5 h6 =>
  if (v5 : Int32) = 0 then
    some (none, h6)
  else
    gR h6 p0 3 4 fun v9 =>
    aR h6 v9 "SeldomOps$Table" p1 fun v13 =>
    some (v13, h6)
set_option maxRecDepth 100000 in
set_option maxHeartbeats 4000000 in
theorem FX4_findTable_ok {G : xG} {l : Launch} {p0 : Option Nat} {p1 : Int32} {h0 h1 : Hp} {r : Option Nat} (hF : FX4_findTable p0 p1 h0 = some (r, h1)) : xc G l mX4_findTable 2 0 0 [va_rf p0, .int p1] h0 (xP mkR r h1) := by
  refine xo_R [.inr (.inr _), .inl _] (by decide) (Nat.le_of_ble_eq_true rfl) rfl ?_
  show xv _ _ _ _ _ _ _ [(0, false, va_rf p0), (1, false, .int p1)] _ _ _
  unfold FX4_findTable at hF
  refine xe_iload_n dX4_findTable_0 rfl rfl ?_
  refine xe_aload_n dX4_findTable_1 rfl rfl ?_
  obtain ⟨a2, e3, t4, hF⟩ := gI_inv hF
  refine xq_getI dX4_findTable_2 fl_Program_34 xk_3 e3 t4 rfl ?_
  obtain ⟨v5, h6, o7, hF⟩ := cl_inv hF
  refine xz (xq_callSN (As := [.int _, .int _]) (rest := []) dX4_findTable_5 mk_X11_within ⟨tn_385, tw_264⟩ (FX11_within_ok o7) xPZ_q (by decide) (by decide) rfl rfl ?_)
  refine xe_if_eq (tgt := 20) dX4_findTable_8 (by decide) (fun c8 => ?_) (fun c8 => ?_)
  · replace hF := if_p c8 hF
    refine xe_null dX4_findTable_20 ?_
    exact xe_areturn dX4_findTable_21 (xP_ret (mk := mkR) hF)
  · replace hF := if_n c8 hF
    refine xe_aload_n dX4_findTable_11 rfl rfl ?_
    obtain ⟨a10, e11, t12, hF⟩ := gR_inv hF
    refine xq_getR dX4_findTable_12 fl_Program_30 xk_3 e11 t12 rfl ?_
    refine xe_iload_n dX4_findTable_15 rfl rfl ?_
    obtain ⟨a14, n15, e16, t17, b18, hF⟩ := aR_inv hF
    refine xq_aald dX4_findTable_16 e16 t17 (by decide) b18 ?_
    refine xe_goto (tgt := 21) dX4_findTable_17 (by decide) ?_
    exact xe_areturn dX4_findTable_21 (xP_ret (mk := mkR) hF)
/-! SeldomOps$Table.staysBelow(I)Z -/
def BX7_staysBelow_2 : Nat → Option Nat → Int32 → Int32 → Hp → Option (Int32 × Hp)
  | 0, _, _, _, _ => none
  | n + 1, x0, x1, x2, h0 =>
    gI h0 x0 6 5 fun v1 =>
    if (x2 : Int32) < v1 then
      gR h0 x0 6 4 fun v6 =>
      aI h0 v6 .int x2 fun v10 =>
      if (v10 : Int32) < x1 then
        BX7_staysBelow_2 n x0 x1 (x2 + 1) h0
      else
        bz 0 (some (0, h0))
    else
      gI h0 x0 6 2 fun v18 =>
      if (v18 : Int32) < x1 then
        bz 1 (some (1, h0))
      else
        bz 0 (some (0, h0))
set_option maxRecDepth 100000 in
set_option maxHeartbeats 4000000 in
theorem BX7_staysBelow_2_ok {G : xG} {l : Launch} : ∀ (n : Nat) {x0 : Option Nat} {x1 : Int32} {x2 : Int32} {h0 h1 : Hp} {r : Int32} (hF : BX7_staysBelow_2 n x0 x1 x2 h0 = some (r, h1)), xv G l mX7_staysBelow 1 0 0 2 [(0, false, va_rf x0), (1, false, .int x1), (2, false, .int x2)] [] h0 (xPZ r h1) := by
  intro n
  induction n with
  | zero => intro x0 x1 x2 h0 h1 r hF; cases hF
  | succ n ih =>
    intro x0 x1 x2 h0 h1 r hF
    unfold BX7_staysBelow_2 at hF
    refine xe_iload_n dX7_staysBelow_2 rfl rfl ?_
    refine xe_aload_n dX7_staysBelow_3 rfl rfl ?_
    obtain ⟨a2, e3, t4, hF⟩ := gI_inv hF
    refine xq_getI dX7_staysBelow_4 fl_Table_18 xk_6 e3 t4 rfl ?_
    refine xe_icmp_ge (tgt := 28) dX7_staysBelow_7 (by decide) (fun c5 => ?_) (fun c5 => ?_)
    · replace hF := if_p c5 hF
      refine xe_aload_n dX7_staysBelow_10 rfl rfl ?_
      obtain ⟨a7, e8, t9, hF⟩ := gR_inv hF
      refine xq_getR dX7_staysBelow_11 fl_Table_15 xk_6 e8 t9 rfl ?_
      refine xe_iload_n dX7_staysBelow_14 rfl rfl ?_
      obtain ⟨a11, n12, e13, t14, b15, hF⟩ := aI_inv hF
      refine xq_iald dX7_staysBelow_15 e13 t14 b15 ?_
      refine xe_iload_n dX7_staysBelow_16 rfl rfl ?_
      refine xe_icmp_lt (tgt := 22) dX7_staysBelow_17 (by decide) (fun c16 => ?_) (fun c16 => ?_)
      · replace hF := if_p c16 hF
        refine xe_iinc (v := _ + 1) dX7_staysBelow_22 rfl rfl (by decide) ?_
        refine xe_goto (tgt := 2) dX7_staysBelow_25 (by decide) ?_
        exact xv.lv (ih hF) (xsub_cons rfl (xsub_cons rfl (xsub_cons rfl xsub_nil)))
      · replace hF := if_n c16 hF
        refine xe_iconst (v := 0) dX7_staysBelow_20 (by decide) ?_
        obtain ⟨z17, hF⟩ := bz_inv hF
        exact xe_ireturn dX7_staysBelow_21 (xPZ_ret z17 hF)
    · replace hF := if_n c5 hF
      refine xe_aload_n dX7_staysBelow_28 rfl rfl ?_
      obtain ⟨a19, e20, t21, hF⟩ := gI_inv hF
      refine xq_getI dX7_staysBelow_29 fl_Table_29 xk_6 e20 t21 rfl ?_
      refine xe_iload_n dX7_staysBelow_32 rfl rfl ?_
      refine xe_icmp_ge (tgt := 40) dX7_staysBelow_33 (by decide) (fun c22 => ?_) (fun c22 => ?_)
      · replace hF := if_p c22 hF
        refine xe_iconst (v := 1) dX7_staysBelow_36 (by decide) ?_
        refine xe_goto (tgt := 41) dX7_staysBelow_37 (by decide) ?_
        obtain ⟨z23, hF⟩ := bz_inv hF
        exact xe_ireturn dX7_staysBelow_41 (xPZ_ret z23 hF)
      · replace hF := if_n c22 hF
        refine xe_iconst (v := 0) dX7_staysBelow_40 (by decide) ?_
        obtain ⟨z24, hF⟩ := bz_inv hF
        exact xe_ireturn dX7_staysBelow_41 (xPZ_ret z24 hF)
def FX7_staysBelow (p0 : Option Nat) (p1 : Int32) (h0 : Hp) : Option (Int32 × Hp) :=
  BX7_staysBelow_2 100000 p0 p1 0 h0
set_option maxRecDepth 100000 in
set_option maxHeartbeats 4000000 in
theorem FX7_staysBelow_ok {G : xG} {l : Launch} {p0 : Option Nat} {p1 : Int32} {h0 h1 : Hp} {r : Int32} (hF : FX7_staysBelow p0 p1 h0 = some (r, h1)) : xc G l mX7_staysBelow 1 0 0 [va_rf p0, .int p1] h0 (xPZ r h1) := by
  refine xo_Z [.inr (.inr _), .inl _] (by decide) (Nat.le_of_ble_eq_true rfl) rfl ?_
  show xv _ _ _ _ _ _ _ [(0, false, va_rf p0), (1, false, .int p1)] _ _ _
  unfold FX7_staysBelow at hF
  refine xe_iconst (v := 0) dX7_staysBelow_0 (by decide) ?_
  refine xe_istore_n dX7_staysBelow_1 rfl (by decide) ?_
  exact xv.lv (BX7_staysBelow_2_ok _ hF) (xsub_cons rfl (xsub_cons rfl (xsub_cons rfl xsub_nil)))
/-! SeldomOps$Method.covers(II)Z -/
def FX2_covers (p0 : Option Nat) (p1 : Int32) (p2 : Int32) (h0 : Hp) : Option (Int32 × Hp) :=
  gR h0 p0 2 8 fun v1 =>
  aI h0 v1 .int p1 fun v5 =>
  if (p2 : Int32) < v5 then
    bz 0 (some (0, h0))
  else
    gR h0 p0 2 9 fun v13 =>
    aI h0 v13 .int p1 fun v17 =>
    if (p2 : Int32) < v17 then
      bz 1 (some (1, h0))
    else
      bz 0 (some (0, h0))
set_option maxRecDepth 100000 in
set_option maxHeartbeats 4000000 in
theorem FX2_covers_ok {G : xG} {l : Launch} {p0 : Option Nat} {p1 : Int32} {p2 : Int32} {h0 h1 : Hp} {r : Int32} (hF : FX2_covers p0 p1 p2 h0 = some (r, h1)) : xc G l mX2_covers 1 0 0 [va_rf p0, .int p1, .int p2] h0 (xPZ r h1) := by
  refine xo_Z [.inr (.inr _), .inl _, .inl _] (by decide) (Nat.le_of_ble_eq_true rfl) rfl ?_
  show xv _ _ _ _ _ _ _ [(0, false, va_rf p0), (1, false, .int p1), (2, false, .int p2)] _ _ _
  unfold FX2_covers at hF
  refine xe_aload_n dX2_covers_0 rfl rfl ?_
  obtain ⟨a2, e3, t4, hF⟩ := gR_inv hF
  refine xq_getR dX2_covers_1 fl_Method_34 xk_2 e3 t4 rfl ?_
  refine xe_iload_n dX2_covers_4 rfl rfl ?_
  obtain ⟨a6, n7, e8, t9, b10, hF⟩ := aI_inv hF
  refine xq_iald dX2_covers_5 e8 t9 b10 ?_
  refine xe_iload_n dX2_covers_6 rfl rfl ?_
  refine xe_icmp_gt (tgt := 24) dX2_covers_7 (by decide) (fun c11 => ?_) (fun c11 => ?_)
  · replace hF := if_p c11 hF
    refine xe_iconst (v := 0) dX2_covers_24 (by decide) ?_
    obtain ⟨z12, hF⟩ := bz_inv hF
    exact xe_ireturn dX2_covers_25 (xPZ_ret z12 hF)
  · replace hF := if_n c11 hF
    refine xe_iload_n dX2_covers_10 rfl rfl ?_
    refine xe_aload_n dX2_covers_11 rfl rfl ?_
    obtain ⟨a14, e15, t16, hF⟩ := gR_inv hF
    refine xq_getR dX2_covers_12 fl_Method_37 xk_2 e15 t16 rfl ?_
    refine xe_iload_n dX2_covers_15 rfl rfl ?_
    obtain ⟨a18, n19, e20, t21, b22, hF⟩ := aI_inv hF
    refine xq_iald dX2_covers_16 e20 t21 b22 ?_
    refine xe_icmp_ge (tgt := 24) dX2_covers_17 (by decide) (fun c23 => ?_) (fun c23 => ?_)
    · replace hF := if_p c23 hF
      refine xe_iconst (v := 1) dX2_covers_20 (by decide) ?_
      refine xe_goto (tgt := 25) dX2_covers_21 (by decide) ?_
      obtain ⟨z24, hF⟩ := bz_inv hF
      exact xe_ireturn dX2_covers_25 (xPZ_ret z24 hF)
    · replace hF := if_n c23 hF
      refine xe_iconst (v := 0) dX2_covers_24 (by decide) ?_
      obtain ⟨z25, hF⟩ := bz_inv hF
      exact xe_ireturn dX2_covers_25 (xPZ_ret z25 hF)
/-! SeldomOps$Judge.targetsAreThere(LSeldomOps$Method;I)Z -/
def BX1_targetsAreThere_121 (k86 : Option Nat → Int32 → Int32 → Hp → Option (Int32 × Hp)) (x1 : Option Nat) (x2 : Int32) (x5 : Int32) (h0 : Hp) : Option (Int32 × Hp) :=
  k86 x1 x2 (x5 + 1) h0
set_option maxRecDepth 100000 in
set_option maxHeartbeats 4000000 in
theorem BX1_targetsAreThere_121_ok {G : xG} {l : Launch} {k86 : Option Nat → Int32 → Int32 → Hp → Option (Int32 × Hp)} (hk86 : ∀ {x1 : Option Nat} {x2 : Int32} {x5 : Int32} {h0 h1 : Hp} {r : Int32}, k86 x1 x2 x5 h0 = some (r, h1) → xv G l mX1_targetsAreThere 3 0 0 86 [(1, false, va_rf x1), (2, false, .int x2), (5, false, .int x5)] [] h0 (xPZ r h1)) {x1 : Option Nat} {x2 : Int32} {x5 : Int32} {h0 h1 : Hp} {r : Int32} (hF : BX1_targetsAreThere_121 k86 x1 x2 x5 h0 = some (r, h1)) : xv G l mX1_targetsAreThere 3 0 0 121 [(1, false, va_rf x1), (2, false, .int x2), (5, false, .int x5)] [] h0 (xPZ r h1) := by
  unfold BX1_targetsAreThere_121 at hF
  refine xe_iinc (v := _ + 1) dX1_targetsAreThere_121 rfl rfl (by decide) ?_
  refine xe_goto (tgt := 86) dX1_targetsAreThere_124 (by decide) ?_
  exact xv.lv (hk86 hF) (xsub_cons rfl (xsub_cons rfl (xsub_cons rfl xsub_nil)))
def BX1_targetsAreThere_86 : Nat → Option Nat → Int32 → Int32 → Hp → Option (Int32 × Hp)
  | 0, _, _, _, _ => none
  | n + 1, x1, x2, x5, h0 =>
    gI h0 x1 2 12 fun v1 =>
    if (x5 : Int32) < v1 then
      rcv h0 x1 2 <|
      cl (FX2_covers x1 x5 x2 h0) fun v6 h7 =>
      if (v6 : Int32) = 0 then
        BX1_targetsAreThere_121 (BX1_targetsAreThere_86 n) x1 x2 x5 h7
      else
        gR h7 x1 2 10 fun v13 =>
        aI h7 v13 .int x5 fun v17 =>
        gI h7 x1 2 7 fun v23 =>
        if (v17 : Int32) < v23 then
          BX1_targetsAreThere_121 (BX1_targetsAreThere_86 n) x1 x2 x5 h7
        else
          bz 0 (some (0, h7))
    else
      bz 1 (some (1, h0))
set_option maxRecDepth 100000 in
set_option maxHeartbeats 4000000 in
theorem BX1_targetsAreThere_86_ok {G : xG} {l : Launch} : ∀ (n : Nat) {x1 : Option Nat} {x2 : Int32} {x5 : Int32} {h0 h1 : Hp} {r : Int32} (hF : BX1_targetsAreThere_86 n x1 x2 x5 h0 = some (r, h1)), xv G l mX1_targetsAreThere 3 0 0 86 [(1, false, va_rf x1), (2, false, .int x2), (5, false, .int x5)] [] h0 (xPZ r h1) := by
  intro n
  induction n with
  | zero => intro x1 x2 x5 h0 h1 r hF; cases hF
  | succ n ih =>
    intro x1 x2 x5 h0 h1 r hF
    unfold BX1_targetsAreThere_86 at hF
    refine xe_iload dX1_targetsAreThere_86 rfl ?_
    refine xe_aload_n dX1_targetsAreThere_88 rfl rfl ?_
    obtain ⟨a2, e3, t4, hF⟩ := gI_inv hF
    refine xq_getI dX1_targetsAreThere_89 fl_Judge_180 xk_2 e3 t4 rfl ?_
    refine xe_icmp_ge (tgt := 127) dX1_targetsAreThere_92 (by decide) (fun c5 => ?_) (fun c5 => ?_)
    · replace hF := if_p c5 hF
      refine xe_aload_n dX1_targetsAreThere_95 rfl rfl ?_
      refine xe_iload dX1_targetsAreThere_96 rfl ?_
      refine xe_iload_n dX1_targetsAreThere_98 rfl rfl ?_
      obtain ⟨a11, e9, t10, hF⟩ := rcv_inv hF
      obtain ⟨v6, h7, o8, hF⟩ := cl_inv hF
      refine xz (xq_callV (As := [.int _, .int _]) (rest := []) dX1_targetsAreThere_99 mk_X2_covers ⟨tw_574, tw_575, tw_576⟩ (ci := 2) rfl e9 t10 (FX2_covers_ok o8) xPZ_q (by decide) (by decide) rfl rfl ?_)
      refine xe_if_eq (tgt := 121) dX1_targetsAreThere_102 (by decide) (fun c12 => ?_) (fun c12 => ?_)
      · replace hF := if_p c12 hF
        exact xv.lv (BX1_targetsAreThere_121_ok ih hF) (xsub_cons rfl (xsub_cons rfl (xsub_cons rfl xsub_nil)))
      · replace hF := if_n c12 hF
        refine xe_aload_n dX1_targetsAreThere_105 rfl rfl ?_
        obtain ⟨a14, e15, t16, hF⟩ := gR_inv hF
        refine xq_getR dX1_targetsAreThere_106 fl_Judge_186 xk_2 e15 t16 rfl ?_
        refine xe_iload dX1_targetsAreThere_109 rfl ?_
        obtain ⟨a18, n19, e20, t21, b22, hF⟩ := aI_inv hF
        refine xq_iald dX1_targetsAreThere_111 e20 t21 b22 ?_
        refine xe_aload_n dX1_targetsAreThere_112 rfl rfl ?_
        obtain ⟨a24, e25, t26, hF⟩ := gI_inv hF
        refine xq_getI dX1_targetsAreThere_113 fl_Judge_45 xk_2 e25 t26 rfl ?_
        refine xe_icmp_lt (tgt := 121) dX1_targetsAreThere_116 (by decide) (fun c27 => ?_) (fun c27 => ?_)
        · replace hF := if_p c27 hF
          exact xv.lv (BX1_targetsAreThere_121_ok ih hF) (xsub_cons rfl (xsub_cons rfl (xsub_cons rfl xsub_nil)))
        · replace hF := if_n c27 hF
          refine xe_iconst (v := 0) dX1_targetsAreThere_119 (by decide) ?_
          obtain ⟨z28, hF⟩ := bz_inv hF
          exact xe_ireturn dX1_targetsAreThere_120 (xPZ_ret z28 hF)
    · replace hF := if_n c5 hF
      refine xe_iconst (v := 1) dX1_targetsAreThere_127 (by decide) ?_
      obtain ⟨z29, hF⟩ := bz_inv hF
      exact xe_ireturn dX1_targetsAreThere_128 (xPZ_ret z29 hF)
def BX1_targetsAreThere_83 (x1 : Option Nat) (x2 : Int32) (h0 : Hp) : Option (Int32 × Hp) :=
  BX1_targetsAreThere_86 100000 x1 x2 0 h0
set_option maxRecDepth 100000 in
set_option maxHeartbeats 4000000 in
theorem BX1_targetsAreThere_83_ok {G : xG} {l : Launch} {x1 : Option Nat} {x2 : Int32} {h0 h1 : Hp} {r : Int32} (hF : BX1_targetsAreThere_83 x1 x2 h0 = some (r, h1)) : xv G l mX1_targetsAreThere 3 0 0 83 [(1, false, va_rf x1), (2, false, .int x2)] [] h0 (xPZ r h1) := by
  unfold BX1_targetsAreThere_83 at hF
  refine xe_iconst (v := 0) dX1_targetsAreThere_83 (by decide) ?_
  refine xe_istore dX1_targetsAreThere_84 (by decide) ?_
  exact xv.lv (BX1_targetsAreThere_86_ok _ hF) (xsub_cons rfl (xsub_cons rfl (xsub_cons rfl xsub_nil)))
def BX1_targetsAreThere_47 (x0 : Option Nat) (x1 : Option Nat) (x2 : Int32) (x3 : Int32) (x4 : Int32) (h0 : Hp) : Option (Int32 × Hp) :=
  if (x3 : Int32) = 23 then
    gR h0 x0 1 0 fun v2 =>
    rcv h0 v2 3 <|
    cl (FX4_findTable v2 x4 h0) fun v6 h7 =>
    nz v6 (
      bz 0 (some (0, h7))
    ) (
      gI h7 x1 2 7 fun v14 =>
      rcv h7 v6 6 <|
      cl (FX7_staysBelow v6 v14 h7) fun v18 h19 =>
      if (v18 : Int32) = 0 then
        bz 0 (some (0, h19))
      else
        BX1_targetsAreThere_83 x1 x2 h19
    )
  else
    BX1_targetsAreThere_83 x1 x2 h0
set_option maxRecDepth 100000 in
set_option maxHeartbeats 4000000 in
theorem BX1_targetsAreThere_47_ok {G : xG} {l : Launch} {x0 : Option Nat} {x1 : Option Nat} {x2 : Int32} {x3 : Int32} {x4 : Int32} {h0 h1 : Hp} {r : Int32} (hF : BX1_targetsAreThere_47 x0 x1 x2 x3 x4 h0 = some (r, h1)) : xv G l mX1_targetsAreThere 3 0 0 47 [(0, false, va_rf x0), (1, false, va_rf x1), (2, false, .int x2), (3, false, .int x3), (4, false, .int x4)] [] h0 (xPZ r h1) := by
  unfold BX1_targetsAreThere_47 at hF
  refine xe_iload_n dX1_targetsAreThere_47 rfl rfl ?_
  refine xe_bipush (v := 23) dX1_targetsAreThere_48 (by decide) ?_
  refine xe_icmp_ne (tgt := 83) dX1_targetsAreThere_50 (by decide) (fun c1 => ?_) (fun c1 => ?_)
  · replace hF := if_p c1 hF
    refine xe_aload_n dX1_targetsAreThere_53 rfl rfl ?_
    obtain ⟨a3, e4, t5, hF⟩ := gR_inv hF
    refine xq_getR dX1_targetsAreThere_54 fl_Judge_31 xk_1 e4 t5 rfl ?_
    refine xe_iload dX1_targetsAreThere_57 rfl ?_
    obtain ⟨a11, e9, t10, hF⟩ := rcv_inv hF
    obtain ⟨v6, h7, o8, hF⟩ := cl_inv hF
    refine xz (xq_callV (As := [.int _]) (rest := []) dX1_targetsAreThere_59 mk_X4_findTable ⟨tw_569, tw_466, tw_467⟩ (ci := 3) rfl e9 t10 (FX4_findTable_ok o8) xP_q (by decide) (by decide) rfl rfl ?_)
    refine xe_astore dX1_targetsAreThere_62 (by decide) ?_
    refine xe_aload dX1_targetsAreThere_64 rfl ?_
    refine xe_ifnull (tgt := 81) dX1_targetsAreThere_66 (by decide) (fun e12 => ?_) (fun a_ e12 => ?_)
    · replace hF := nz_n' e12 hF
      refine xe_iconst (v := 0) dX1_targetsAreThere_81 (by decide) ?_
      obtain ⟨z13, hF⟩ := bz_inv hF
      exact xe_ireturn dX1_targetsAreThere_82 (xPZ_ret z13 hF)
    · replace hF := nz_s' e12 hF
      refine xe_aload dX1_targetsAreThere_69 rfl ?_
      refine xe_aload_n dX1_targetsAreThere_71 rfl rfl ?_
      obtain ⟨a15, e16, t17, hF⟩ := gI_inv hF
      refine xq_getI dX1_targetsAreThere_72 fl_Judge_45 xk_2 e16 t17 rfl ?_
      obtain ⟨a23, e21, t22, hF⟩ := rcv_inv hF
      obtain ⟨v18, h19, o20, hF⟩ := cl_inv hF
      refine xz (xq_callV (As := [.int _]) (rest := []) dX1_targetsAreThere_75 mk_X7_staysBelow ⟨tw_570, tw_571, tw_572⟩ (ci := 6) rfl e21 t22 (FX7_staysBelow_ok o20) xPZ_q (by decide) (by decide) rfl rfl ?_)
      refine xe_if_ne (tgt := 83) dX1_targetsAreThere_78 (by decide) (fun c24 => ?_) (fun c24 => ?_)
      · replace hF := if_p c24 hF
        refine xe_iconst (v := 0) dX1_targetsAreThere_81 (by decide) ?_
        obtain ⟨z25, hF⟩ := bz_inv hF
        exact xe_ireturn dX1_targetsAreThere_82 (xPZ_ret z25 hF)
      · replace hF := if_n c24 hF
        exact xv.lv (BX1_targetsAreThere_83_ok hF) (xsub_cons rfl (xsub_cons rfl xsub_nil))
  · replace hF := if_n c1 hF
    exact xv.lv (BX1_targetsAreThere_83_ok hF) (xsub_cons rfl (xsub_cons rfl xsub_nil))
def BX1_targetsAreThere_33 (x0 : Option Nat) (x1 : Option Nat) (x2 : Int32) (x3 : Int32) (x4 : Int32) (h0 : Hp) : Option (Int32 × Hp) :=
  gI h0 x1 2 7 fun v1 =>
  cl (FX11_within x4 v1 h0) fun v5 h6 =>
  if (v5 : Int32) = 0 then
    bz 0 (some (0, h6))
  else
    BX1_targetsAreThere_47 x0 x1 x2 x3 x4 h6
set_option maxRecDepth 100000 in
set_option maxHeartbeats 4000000 in
theorem BX1_targetsAreThere_33_ok {G : xG} {l : Launch} {x0 : Option Nat} {x1 : Option Nat} {x2 : Int32} {x3 : Int32} {x4 : Int32} {h0 h1 : Hp} {r : Int32} (hF : BX1_targetsAreThere_33 x0 x1 x2 x3 x4 h0 = some (r, h1)) : xv G l mX1_targetsAreThere 3 0 0 33 [(0, false, va_rf x0), (1, false, va_rf x1), (2, false, .int x2), (3, false, .int x3), (4, false, .int x4)] [] h0 (xPZ r h1) := by
  unfold BX1_targetsAreThere_33 at hF
  refine xe_iload dX1_targetsAreThere_33 rfl ?_
  refine xe_aload_n dX1_targetsAreThere_35 rfl rfl ?_
  obtain ⟨a2, e3, t4, hF⟩ := gI_inv hF
  refine xq_getI dX1_targetsAreThere_36 fl_Judge_45 xk_2 e3 t4 rfl ?_
  obtain ⟨v5, h6, o7, hF⟩ := cl_inv hF
  refine xz (xq_callSN (As := [.int _, .int _]) (rest := []) dX1_targetsAreThere_39 mk_X11_within ⟨tn_561, tw_264⟩ (FX11_within_ok o7) xPZ_q (by decide) (by decide) rfl rfl ?_)
  refine xe_if_ne (tgt := 47) dX1_targetsAreThere_42 (by decide) (fun c8 => ?_) (fun c8 => ?_)
  · replace hF := if_p c8 hF
    refine xe_iconst (v := 0) dX1_targetsAreThere_45 (by decide) ?_
    obtain ⟨z9, hF⟩ := bz_inv hF
    exact xe_ireturn dX1_targetsAreThere_46 (xPZ_ret z9 hF)
  · replace hF := if_n c8 hF
    exact xv.lv (BX1_targetsAreThere_47_ok hF) (xsub_cons rfl (xsub_cons rfl (xsub_cons rfl (xsub_cons rfl (xsub_cons rfl xsub_nil)))))
def FX1_targetsAreThere (p0 : Option Nat) (p1 : Option Nat) (p2 : Int32) (h0 : Hp) : Option (Int32 × Hp) :=
  gR h0 p1 2 4 fun v1 =>
  aI h0 v1 .int p2 fun v5 =>
  gR h0 p1 2 5 fun v11 =>
  aI h0 v11 .int p2 fun v15 =>
  if (v5 : Int32) = 20 then
    BX1_targetsAreThere_33 p0 p1 p2 v5 v15 h0
  else
    if (v5 : Int32) = 21 then
      BX1_targetsAreThere_33 p0 p1 p2 v5 v15 h0
    else
      if (v5 : Int32) = 22 then
        BX1_targetsAreThere_33 p0 p1 p2 v5 v15 h0
      else
        BX1_targetsAreThere_47 p0 p1 p2 v5 v15 h0
set_option maxRecDepth 100000 in
set_option maxHeartbeats 4000000 in
theorem FX1_targetsAreThere_ok {G : xG} {l : Launch} {p0 : Option Nat} {p1 : Option Nat} {p2 : Int32} {h0 h1 : Hp} {r : Int32} (hF : FX1_targetsAreThere p0 p1 p2 h0 = some (r, h1)) : xc G l mX1_targetsAreThere 3 0 0 [va_rf p0, va_rf p1, .int p2] h0 (xPZ r h1) := by
  refine xo_Z [.inr (.inr _), .inr (.inr _), .inl _] (by decide) (Nat.le_of_ble_eq_true rfl) rfl ?_
  show xv _ _ _ _ _ _ _ [(0, false, va_rf p0), (1, false, va_rf p1), (2, false, .int p2)] _ _ _
  unfold FX1_targetsAreThere at hF
  refine xe_aload_n dX1_targetsAreThere_0 rfl rfl ?_
  obtain ⟨a2, e3, t4, hF⟩ := gR_inv hF
  refine xq_getR dX1_targetsAreThere_1 fl_Judge_113 xk_2 e3 t4 rfl ?_
  refine xe_iload_n dX1_targetsAreThere_4 rfl rfl ?_
  obtain ⟨a6, n7, e8, t9, b10, hF⟩ := aI_inv hF
  refine xq_iald dX1_targetsAreThere_5 e8 t9 b10 ?_
  refine xe_istore_n dX1_targetsAreThere_6 rfl (by decide) ?_
  refine xe_aload_n dX1_targetsAreThere_7 rfl rfl ?_
  obtain ⟨a12, e13, t14, hF⟩ := gR_inv hF
  refine xq_getR dX1_targetsAreThere_8 fl_Judge_116 xk_2 e13 t14 rfl ?_
  refine xe_iload_n dX1_targetsAreThere_11 rfl rfl ?_
  obtain ⟨a16, n17, e18, t19, b20, hF⟩ := aI_inv hF
  refine xq_iald dX1_targetsAreThere_12 e18 t19 b20 ?_
  refine xe_istore dX1_targetsAreThere_13 (by decide) ?_
  refine xe_iload_n dX1_targetsAreThere_15 rfl rfl ?_
  refine xe_bipush (v := 20) dX1_targetsAreThere_16 (by decide) ?_
  refine xe_icmp_eq (tgt := 33) dX1_targetsAreThere_18 (by decide) (fun c21 => ?_) (fun c21 => ?_)
  · replace hF := if_p c21 hF
    exact xv.lv (BX1_targetsAreThere_33_ok hF) (xsub_cons rfl (xsub_cons rfl (xsub_cons rfl (xsub_cons rfl (xsub_cons rfl xsub_nil)))))
  · replace hF := if_n c21 hF
    refine xe_iload_n dX1_targetsAreThere_21 rfl rfl ?_
    refine xe_bipush (v := 21) dX1_targetsAreThere_22 (by decide) ?_
    refine xe_icmp_eq (tgt := 33) dX1_targetsAreThere_24 (by decide) (fun c22 => ?_) (fun c22 => ?_)
    · replace hF := if_p c22 hF
      exact xv.lv (BX1_targetsAreThere_33_ok hF) (xsub_cons rfl (xsub_cons rfl (xsub_cons rfl (xsub_cons rfl (xsub_cons rfl xsub_nil)))))
    · replace hF := if_n c22 hF
      refine xe_iload_n dX1_targetsAreThere_27 rfl rfl ?_
      refine xe_bipush (v := 22) dX1_targetsAreThere_28 (by decide) ?_
      refine xe_icmp_ne (tgt := 47) dX1_targetsAreThere_30 (by decide) (fun c23 => ?_) (fun c23 => ?_)
      · replace hF := if_p c23 hF
        exact xv.lv (BX1_targetsAreThere_33_ok hF) (xsub_cons rfl (xsub_cons rfl (xsub_cons rfl (xsub_cons rfl (xsub_cons rfl xsub_nil)))))
      · replace hF := if_n c23 hF
        exact xv.lv (BX1_targetsAreThere_47_ok hF) (xsub_cons rfl (xsub_cons rfl (xsub_cons rfl (xsub_cons rfl (xsub_cons rfl xsub_nil)))))
/-! SeldomOps$Program.findMethod(I)LSeldomOps$Method; -/
def FX4_findMethod (p0 : Option Nat) (p1 : Int32) (h0 : Hp) : Option (Option Nat × Hp) :=
  gI h0 p0 3 1 fun v1 =>
  cl (FX11_within p1 v1 h0) fun v5 h6 =>
  if (v5 : Int32) = 0 then
    some (none, h6)
  else
    gR h6 p0 3 0 fun v9 =>
    aR h6 v9 "SeldomOps$Method" p1 fun v13 =>
    some (v13, h6)
set_option maxRecDepth 100000 in
set_option maxHeartbeats 4000000 in
theorem FX4_findMethod_ok {G : xG} {l : Launch} {p0 : Option Nat} {p1 : Int32} {h0 h1 : Hp} {r : Option Nat} (hF : FX4_findMethod p0 p1 h0 = some (r, h1)) : xc G l mX4_findMethod 2 0 0 [va_rf p0, .int p1] h0 (xP mkR r h1) := by
  refine xo_R [.inr (.inr _), .inl _] (by decide) (Nat.le_of_ble_eq_true rfl) rfl ?_
  show xv _ _ _ _ _ _ _ [(0, false, va_rf p0), (1, false, .int p1)] _ _ _
  unfold FX4_findMethod at hF
  refine xe_iload_n dX4_findMethod_0 rfl rfl ?_
  refine xe_aload_n dX4_findMethod_1 rfl rfl ?_
  obtain ⟨a2, e3, t4, hF⟩ := gI_inv hF
  refine xq_getI dX4_findMethod_2 fl_Program_17 xk_3 e3 t4 rfl ?_
  obtain ⟨v5, h6, o7, hF⟩ := cl_inv hF
  refine xz (xq_callSN (As := [.int _, .int _]) (rest := []) dX4_findMethod_5 mk_X11_within ⟨tn_385, tw_264⟩ (FX11_within_ok o7) xPZ_q (by decide) (by decide) rfl rfl ?_)
  refine xe_if_eq (tgt := 20) dX4_findMethod_8 (by decide) (fun c8 => ?_) (fun c8 => ?_)
  · replace hF := if_p c8 hF
    refine xe_null dX4_findMethod_20 ?_
    exact xe_areturn dX4_findMethod_21 (xP_ret (mk := mkR) hF)
  · replace hF := if_n c8 hF
    refine xe_aload_n dX4_findMethod_11 rfl rfl ?_
    obtain ⟨a10, e11, t12, hF⟩ := gR_inv hF
    refine xq_getR dX4_findMethod_12 fl_Program_11 xk_3 e11 t12 rfl ?_
    refine xe_iload_n dX4_findMethod_15 rfl rfl ?_
    obtain ⟨a14, n15, e16, t17, b18, hF⟩ := aR_inv hF
    refine xq_aald dX4_findMethod_16 e16 t17 (by decide) b18 ?_
    refine xe_goto (tgt := 21) dX4_findMethod_17 (by decide) ?_
    exact xe_areturn dX4_findMethod_21 (xP_ret (mk := mkR) hF)
/-! SeldomOps$Shape.take(I)Z -/
def FX5_take (p0 : Option Nat) (p1 : Int32) (h0 : Hp) : Option (Int32 × Hp) :=
  cl (FX11_width p1 h0) fun v1 h2 =>
  gR h2 p0 4 0 fun v4 =>
  gR h2 p0 4 0 fun v8 =>
  gI h2 v8 9 1 fun v12 =>
  rcv h2 v4 9 <|
  cl (FX10_at v4 (v12 - v1) h2) fun v16 h17 =>
  if (v16 : Int64) = (Int32.toInt64 p1) then
    gR h17 p0 4 0 fun v23 =>
    rcv h17 v23 9 <|
    cl (FX10_drop v23 v1 h17) fun v27 h28 =>
    bz 1 (some (1, h28))
  else
    bz 0 (some (0, h17))
set_option maxRecDepth 100000 in
set_option maxHeartbeats 4000000 in
theorem FX5_take_ok {G : xG} {l : Launch} {p0 : Option Nat} {p1 : Int32} {h0 h1 : Hp} {r : Int32} (hF : FX5_take p0 p1 h0 = some (r, h1)) : xc G l mX5_take 3 0 0 [va_rf p0, .int p1] h0 (xPZ r h1) := by
  refine xo_Z [.inr (.inr _), .inl _] (by decide) (Nat.le_of_ble_eq_true rfl) rfl ?_
  show xv _ _ _ _ _ _ _ [(0, false, va_rf p0), (1, false, .int p1)] _ _ _
  unfold FX5_take at hF
  refine xe_iload_n dX5_take_0 rfl rfl ?_
  obtain ⟨v1, h2, o3, hF⟩ := cl_inv hF
  refine xz (xq_callSN (As := [.int _]) (rest := []) dX5_take_1 mk_X11_width ⟨tn_586, tw_387⟩ (FX11_width_ok o3) xP_q (by decide) (by decide) rfl rfl ?_)
  refine xe_istore_n dX5_take_4 rfl (by decide) ?_
  refine xe_aload_n dX5_take_5 rfl rfl ?_
  obtain ⟨a5, e6, t7, hF⟩ := gR_inv hF
  refine xq_getR dX5_take_6 fl_Shape_12 xk_4 e6 t7 rfl ?_
  refine xe_aload_n dX5_take_9 rfl rfl ?_
  obtain ⟨a9, e10, t11, hF⟩ := gR_inv hF
  refine xq_getR dX5_take_10 fl_Shape_12 xk_4 e10 t11 rfl ?_
  obtain ⟨a13, e14, t15, hF⟩ := gI_inv hF
  refine xq_getI dX5_take_13 fl_Shape_37 xk_9 e14 t15 rfl ?_
  refine xe_iload_n dX5_take_16 rfl rfl ?_
  refine xe_isub dX5_take_17 ?_
  obtain ⟨a21, e19, t20, hF⟩ := rcv_inv hF
  obtain ⟨v16, h17, o18, hF⟩ := cl_inv hF
  refine xz (xq_callV (As := [.int _]) (rest := []) dX5_take_18 mk_X10_at ⟨tw_587, tw_539, tw_540⟩ (ci := 9) rfl e19 t20 (FX10_at_ok o18) xP_q (by decide) (by decide) rfl rfl ?_)
  refine xe_iload_n dX5_take_21 rfl rfl ?_
  refine xe_i2l dX5_take_22 ?_
  refine xe_lcmp dX5_take_23 ?_
  refine xe_lif_eq (tgt := 29) dX5_take_24 (by decide) (fun c22 => ?_) (fun c22 => ?_)
  · replace hF := if_p c22 hF
    refine xe_aload_n dX5_take_29 rfl rfl ?_
    obtain ⟨a24, e25, t26, hF⟩ := gR_inv hF
    refine xq_getR dX5_take_30 fl_Shape_12 xk_4 e25 t26 rfl ?_
    refine xe_iload_n dX5_take_33 rfl rfl ?_
    obtain ⟨a32, e30, t31, hF⟩ := rcv_inv hF
    obtain ⟨v27, h28, o29, hF⟩ := cl_inv hF
    refine xz (xq_callV (As := [.int _]) (rest := []) dX5_take_34 mk_X10_drop ⟨tw_588, tw_589, tw_590⟩ (ci := 9) rfl e30 t31 (FX10_drop_ok o29) xP_q (by decide) (by decide) rfl rfl ?_)
    refine xe_iconst (v := 1) dX5_take_37 (by decide) ?_
    obtain ⟨z33, hF⟩ := bz_inv hF
    exact xe_ireturn dX5_take_38 (xPZ_ret z33 hF)
  · replace hF := if_n c22 hF
    refine xe_iconst (v := 0) dX5_take_27 (by decide) ?_
    obtain ⟨z34, hF⟩ := bz_inv hF
    exact xe_ireturn dX5_take_28 (xPZ_ret z34 hF)
/-! SeldomOps$Judge.takeArguments(LSeldomOps$Method;)Z -/
def BX1_takeArguments_13 : Nat → Option Nat → Option Nat → Int32 → Hp → Option (Int32 × Hp)
  | 0, _, _, _, _ => none
  | n + 1, x0, x1, x2, h0 =>
    if (x2 : Int32) < 0 then
      bz 1 (some (1, h0))
    else
      gR h0 x0 1 1 fun v3 =>
      gR h0 x1 2 1 fun v7 =>
      aI h0 v7 .int x2 fun v11 =>
      rcv h0 v3 4 <|
      cl (FX5_take v3 v11 h0) fun v17 h18 =>
      if (v17 : Int32) = 0 then
        bz 0 (some (0, h18))
      else
        BX1_takeArguments_13 n x0 x1 (x2 + (-1)) h18
set_option maxRecDepth 100000 in
set_option maxHeartbeats 4000000 in
theorem BX1_takeArguments_13_ok {G : xG} {l : Launch} : ∀ (n : Nat) {x0 : Option Nat} {x1 : Option Nat} {x2 : Int32} {h0 h1 : Hp} {r : Int32} (hF : BX1_takeArguments_13 n x0 x1 x2 h0 = some (r, h1)), xv G l mX1_takeArguments 4 0 0 13 [(0, false, va_rf x0), (1, false, va_rf x1), (2, false, .int x2)] [] h0 (xPZ r h1) := by
  intro n
  induction n with
  | zero => intro x0 x1 x2 h0 h1 r hF; cases hF
  | succ n ih =>
    intro x0 x1 x2 h0 h1 r hF
    unfold BX1_takeArguments_13 at hF
    refine xe_iload_n dX1_takeArguments_13 rfl rfl ?_
    refine xe_if_lt (tgt := 41) dX1_takeArguments_14 (by decide) (fun c1 => ?_) (fun c1 => ?_)
    · replace hF := if_p c1 hF
      refine xe_iconst (v := 1) dX1_takeArguments_41 (by decide) ?_
      obtain ⟨z2, hF⟩ := bz_inv hF
      exact xe_ireturn dX1_takeArguments_42 (xPZ_ret z2 hF)
    · replace hF := if_n c1 hF
      refine xe_aload_n dX1_takeArguments_17 rfl rfl ?_
      obtain ⟨a4, e5, t6, hF⟩ := gR_inv hF
      refine xq_getR dX1_takeArguments_18 fl_Judge_12 xk_1 e5 t6 rfl ?_
      refine xe_aload_n dX1_takeArguments_21 rfl rfl ?_
      obtain ⟨a8, e9, t10, hF⟩ := gR_inv hF
      refine xq_getR dX1_takeArguments_22 fl_Judge_94 xk_2 e9 t10 rfl ?_
      refine xe_iload_n dX1_takeArguments_25 rfl rfl ?_
      obtain ⟨a12, n13, e14, t15, b16, hF⟩ := aI_inv hF
      refine xq_iald dX1_takeArguments_26 e14 t15 b16 ?_
      obtain ⟨a22, e20, t21, hF⟩ := rcv_inv hF
      obtain ⟨v17, h18, o19, hF⟩ := cl_inv hF
      refine xz (xq_callV (As := [.int _]) (rest := []) dX1_takeArguments_27 mk_X5_take ⟨tw_582, tw_583, tw_584⟩ (ci := 4) rfl e20 t21 (FX5_take_ok o19) xPZ_q (by decide) (by decide) rfl rfl ?_)
      refine xe_if_ne (tgt := 35) dX1_takeArguments_30 (by decide) (fun c23 => ?_) (fun c23 => ?_)
      · replace hF := if_p c23 hF
        refine xe_iconst (v := 0) dX1_takeArguments_33 (by decide) ?_
        obtain ⟨z24, hF⟩ := bz_inv hF
        exact xe_ireturn dX1_takeArguments_34 (xPZ_ret z24 hF)
      · replace hF := if_n c23 hF
        refine xe_iinc (v := _ + (-1)) dX1_takeArguments_35 rfl rfl (by decide) ?_
        refine xe_goto (tgt := 13) dX1_takeArguments_38 (by decide) ?_
        exact xv.lv (ih hF) (xsub_cons rfl (xsub_cons rfl (xsub_cons rfl xsub_nil)))
def FX1_takeArguments (p0 : Option Nat) (p1 : Option Nat) (h0 : Hp) : Option (Int32 × Hp) :=
  nz p1 (
    bz 0 (some (0, h0))
  ) (
    gI h0 p1 2 2 fun v3 =>
    BX1_takeArguments_13 100000 p0 p1 (v3 - 1) h0
  )
set_option maxRecDepth 100000 in
set_option maxHeartbeats 4000000 in
theorem FX1_takeArguments_ok {G : xG} {l : Launch} {p0 : Option Nat} {p1 : Option Nat} {h0 h1 : Hp} {r : Int32} (hF : FX1_takeArguments p0 p1 h0 = some (r, h1)) : xc G l mX1_takeArguments 4 0 0 [va_rf p0, va_rf p1] h0 (xPZ r h1) := by
  refine xo_Z [.inr (.inr _), .inr (.inr _)] (by decide) (Nat.le_of_ble_eq_true rfl) rfl ?_
  show xv _ _ _ _ _ _ _ [(0, false, va_rf p0), (1, false, va_rf p1)] _ _ _
  unfold FX1_takeArguments at hF
  refine xe_aload_n dX1_takeArguments_0 rfl rfl ?_
  refine xe_ifnonnull (tgt := 6) dX1_takeArguments_1 (by decide) (fun e1 => ?_) (fun a_ e1 => ?_)
  · replace hF := nz_n' e1 hF
    refine xe_iconst (v := 0) dX1_takeArguments_4 (by decide) ?_
    obtain ⟨z2, hF⟩ := bz_inv hF
    exact xe_ireturn dX1_takeArguments_5 (xPZ_ret z2 hF)
  · replace hF := nz_s' e1 hF
    refine xe_aload_n dX1_takeArguments_6 rfl rfl ?_
    obtain ⟨a4, e5, t6, hF⟩ := gI_inv hF
    refine xq_getI dX1_takeArguments_7 fl_Judge_91 xk_2 e5 t6 rfl ?_
    refine xe_iconst (v := 1) dX1_takeArguments_10 (by decide) ?_
    refine xe_isub dX1_takeArguments_11 ?_
    refine xe_istore_n dX1_takeArguments_12 rfl (by decide) ?_
    exact xv.lv (BX1_takeArguments_13_ok _ hF) (xsub_cons rfl (xsub_cons rfl (xsub_cons rfl xsub_nil)))
/-! SeldomOps.kindOfCell(I)I -/
def FX11_kindOfCell (p0 : Int32) (h0 : Hp) : Option (Int32 × Hp) :=
  if (p0 : Int32) < 5 then
    some (p0, h0)
  else
    some (0, h0)
set_option maxRecDepth 100000 in
set_option maxHeartbeats 4000000 in
theorem FX11_kindOfCell_ok {G : xG} {l : Launch} {p0 : Int32} {h0 h1 : Hp} {r : Int32} (hF : FX11_kindOfCell p0 h0 = some (r, h1)) : xc G l mX11_kindOfCell 1 0 0 [.int p0] h0 (xP mkI r h1) := by
  refine xo_I [.inl _] (by decide) (Nat.le_of_ble_eq_true rfl) rfl ?_
  show xv _ _ _ _ _ _ _ [(0, false, .int p0)] _ _ _
  unfold FX11_kindOfCell at hF
  refine xe_iload_n dX11_kindOfCell_0 rfl rfl ?_
  refine xe_iconst (v := 5) dX11_kindOfCell_1 (by decide) ?_
  refine xe_icmp_lt (tgt := 9) dX11_kindOfCell_2 (by decide) (fun c1 => ?_) (fun c1 => ?_)
  · replace hF := if_p c1 hF
    refine xe_iload_n dX11_kindOfCell_9 rfl rfl ?_
    exact xe_ireturn dX11_kindOfCell_10 (xP_ret (mk := mkI) hF)
  · replace hF := if_n c1 hF
    refine xe_iconst (v := 0) dX11_kindOfCell_5 (by decide) ?_
    refine xe_goto (tgt := 10) dX11_kindOfCell_6 (by decide) ?_
    exact xe_ireturn dX11_kindOfCell_10 (xP_ret (mk := mkI) hF)
/-! SeldomOps$Judge.takeSizes(I)Z -/
def BX1_takeSizes_2 : Nat → Option Nat → Int32 → Int32 → Hp → Option (Int32 × Hp)
  | 0, _, _, _, _ => none
  | n + 1, x0, x1, x2, h0 =>
    if (x2 : Int32) < x1 then
      if (x2 : Int32) < 3 then
        gR h0 x0 1 1 fun v3 =>
        rcv h0 v3 4 <|
        cl (FX5_take v3 0 h0) fun v7 h8 =>
        if (v7 : Int32) = 0 then
          bz 0 (some (0, h8))
        else
          BX1_takeSizes_2 n x0 x1 (x2 + 1) h8
      else
        bz 1 (some (1, h0))
    else
      bz 1 (some (1, h0))
set_option maxRecDepth 100000 in
set_option maxHeartbeats 4000000 in
theorem BX1_takeSizes_2_ok {G : xG} {l : Launch} : ∀ (n : Nat) {x0 : Option Nat} {x1 : Int32} {x2 : Int32} {h0 h1 : Hp} {r : Int32} (hF : BX1_takeSizes_2 n x0 x1 x2 h0 = some (r, h1)), xv G l mX1_takeSizes 4 0 0 2 [(0, false, va_rf x0), (1, false, .int x1), (2, false, .int x2)] [] h0 (xPZ r h1) := by
  intro n
  induction n with
  | zero => intro x0 x1 x2 h0 h1 r hF; cases hF
  | succ n ih =>
    intro x0 x1 x2 h0 h1 r hF
    unfold BX1_takeSizes_2 at hF
    refine xe_iload_n dX1_takeSizes_2 rfl rfl ?_
    refine xe_iload_n dX1_takeSizes_3 rfl rfl ?_
    refine xe_icmp_ge (tgt := 31) dX1_takeSizes_4 (by decide) (fun c1 => ?_) (fun c1 => ?_)
    · replace hF := if_p c1 hF
      refine xe_iload_n dX1_takeSizes_7 rfl rfl ?_
      refine xe_iconst (v := 3) dX1_takeSizes_8 (by decide) ?_
      refine xe_icmp_ge (tgt := 31) dX1_takeSizes_9 (by decide) (fun c2 => ?_) (fun c2 => ?_)
      · replace hF := if_p c2 hF
        refine xe_aload_n dX1_takeSizes_12 rfl rfl ?_
        obtain ⟨a4, e5, t6, hF⟩ := gR_inv hF
        refine xq_getR dX1_takeSizes_13 fl_Judge_12 xk_1 e5 t6 rfl ?_
        refine xe_iconst (v := 0) dX1_takeSizes_16 (by decide) ?_
        obtain ⟨a12, e10, t11, hF⟩ := rcv_inv hF
        obtain ⟨v7, h8, o9, hF⟩ := cl_inv hF
        refine xz (xq_callV (As := [.int _]) (rest := []) dX1_takeSizes_17 mk_X5_take ⟨tw_582, tw_583, tw_584⟩ (ci := 4) rfl e10 t11 (FX5_take_ok o9) xPZ_q (by decide) (by decide) rfl rfl ?_)
        refine xe_if_ne (tgt := 25) dX1_takeSizes_20 (by decide) (fun c13 => ?_) (fun c13 => ?_)
        · replace hF := if_p c13 hF
          refine xe_iconst (v := 0) dX1_takeSizes_23 (by decide) ?_
          obtain ⟨z14, hF⟩ := bz_inv hF
          exact xe_ireturn dX1_takeSizes_24 (xPZ_ret z14 hF)
        · replace hF := if_n c13 hF
          refine xe_iinc (v := _ + 1) dX1_takeSizes_25 rfl rfl (by decide) ?_
          refine xe_goto (tgt := 2) dX1_takeSizes_28 (by decide) ?_
          exact xv.lv (ih hF) (xsub_cons rfl (xsub_cons rfl (xsub_cons rfl xsub_nil)))
      · replace hF := if_n c2 hF
        refine xe_iconst (v := 1) dX1_takeSizes_31 (by decide) ?_
        obtain ⟨z15, hF⟩ := bz_inv hF
        exact xe_ireturn dX1_takeSizes_32 (xPZ_ret z15 hF)
    · replace hF := if_n c1 hF
      refine xe_iconst (v := 1) dX1_takeSizes_31 (by decide) ?_
      obtain ⟨z16, hF⟩ := bz_inv hF
      exact xe_ireturn dX1_takeSizes_32 (xPZ_ret z16 hF)
def FX1_takeSizes (p0 : Option Nat) (p1 : Int32) (h0 : Hp) : Option (Int32 × Hp) :=
  BX1_takeSizes_2 100000 p0 p1 0 h0
set_option maxRecDepth 100000 in
set_option maxHeartbeats 4000000 in
theorem FX1_takeSizes_ok {G : xG} {l : Launch} {p0 : Option Nat} {p1 : Int32} {h0 h1 : Hp} {r : Int32} (hF : FX1_takeSizes p0 p1 h0 = some (r, h1)) : xc G l mX1_takeSizes 4 0 0 [va_rf p0, .int p1] h0 (xPZ r h1) := by
  refine xo_Z [.inr (.inr _), .inl _] (by decide) (Nat.le_of_ble_eq_true rfl) rfl ?_
  show xv _ _ _ _ _ _ _ [(0, false, va_rf p0), (1, false, .int p1)] _ _ _
  unfold FX1_takeSizes at hF
  refine xe_iconst (v := 0) dX1_takeSizes_0 (by decide) ?_
  refine xe_istore_n dX1_takeSizes_1 rfl (by decide) ?_
  exact xv.lv (BX1_takeSizes_2_ok _ hF) (xsub_cons rfl (xsub_cons rfl (xsub_cons rfl xsub_nil)))
/-! SeldomOps.kindCompared(I)I -/
def FX11_kindCompared (p0 : Int32) (h0 : Hp) : Option (Int32 × Hp) :=
  if (p0 : Int32) = 0 then
    some (1, h0)
  else
    if (2 : Int32) < p0 then
      some (3, h0)
    else
      some (2, h0)
set_option maxRecDepth 100000 in
set_option maxHeartbeats 4000000 in
theorem FX11_kindCompared_ok {G : xG} {l : Launch} {p0 : Int32} {h0 h1 : Hp} {r : Int32} (hF : FX11_kindCompared p0 h0 = some (r, h1)) : xc G l mX11_kindCompared 1 0 0 [.int p0] h0 (xP mkI r h1) := by
  refine xo_I [.inl _] (by decide) (Nat.le_of_ble_eq_true rfl) rfl ?_
  show xv _ _ _ _ _ _ _ [(0, false, .int p0)] _ _ _
  unfold FX11_kindCompared at hF
  refine xe_iload_n dX11_kindCompared_0 rfl rfl ?_
  refine xe_if_ne (tgt := 6) dX11_kindCompared_1 (by decide) (fun c1 => ?_) (fun c1 => ?_)
  · replace hF := if_p c1 hF
    refine xe_iconst (v := 1) dX11_kindCompared_4 (by decide) ?_
    exact xe_ireturn dX11_kindCompared_5 (xP_ret (mk := mkI) hF)
  · replace hF := if_n c1 hF
    refine xe_iload_n dX11_kindCompared_6 rfl rfl ?_
    refine xe_iconst (v := 2) dX11_kindCompared_7 (by decide) ?_
    refine xe_icmp_gt (tgt := 15) dX11_kindCompared_8 (by decide) (fun c2 => ?_) (fun c2 => ?_)
    · replace hF := if_p c2 hF
      refine xe_iconst (v := 3) dX11_kindCompared_15 (by decide) ?_
      exact xe_ireturn dX11_kindCompared_16 (xP_ret (mk := mkI) hF)
    · replace hF := if_n c2 hF
      refine xe_iconst (v := 2) dX11_kindCompared_11 (by decide) ?_
      refine xe_goto (tgt := 16) dX11_kindCompared_12 (by decide) ?_
      exact xe_ireturn dX11_kindCompared_16 (xP_ret (mk := mkI) hF)
/-! SeldomOps$Judge.takeCalculated(II)Z -/
def BX1_takeCalculated_51 (x0 : Option Nat) (x2 : Int32) (h0 : Hp) : Option (Int32 × Hp) :=
  gR h0 x0 1 1 fun v1 =>
  rcv h0 v1 4 <|
  cl (FX5_take v1 x2 h0) fun v5 h6 =>
  if (v5 : Int32) = 0 then
    bz 0 (some (0, h6))
  else
    bz 1 (some (1, h6))
set_option maxRecDepth 100000 in
set_option maxHeartbeats 4000000 in
theorem BX1_takeCalculated_51_ok {G : xG} {l : Launch} {x0 : Option Nat} {x2 : Int32} {h0 h1 : Hp} {r : Int32} (hF : BX1_takeCalculated_51 x0 x2 h0 = some (r, h1)) : xv G l mX1_takeCalculated 4 0 0 51 [(0, false, va_rf x0), (2, false, .int x2)] [] h0 (xPZ r h1) := by
  unfold BX1_takeCalculated_51 at hF
  refine xe_aload_n dX1_takeCalculated_51 rfl rfl ?_
  obtain ⟨a2, e3, t4, hF⟩ := gR_inv hF
  refine xq_getR dX1_takeCalculated_52 fl_Judge_12 xk_1 e3 t4 rfl ?_
  refine xe_iload_n dX1_takeCalculated_55 rfl rfl ?_
  obtain ⟨a10, e8, t9, hF⟩ := rcv_inv hF
  obtain ⟨v5, h6, o7, hF⟩ := cl_inv hF
  refine xz (xq_callV (As := [.int _]) (rest := []) dX1_takeCalculated_56 mk_X5_take ⟨tw_582, tw_583, tw_584⟩ (ci := 4) rfl e8 t9 (FX5_take_ok o7) xPZ_q (by decide) (by decide) rfl rfl ?_)
  refine xe_if_eq (tgt := 66) dX1_takeCalculated_59 (by decide) (fun c11 => ?_) (fun c11 => ?_)
  · replace hF := if_p c11 hF
    refine xe_iconst (v := 0) dX1_takeCalculated_66 (by decide) ?_
    obtain ⟨z12, hF⟩ := bz_inv hF
    exact xe_ireturn dX1_takeCalculated_67 (xPZ_ret z12 hF)
  · replace hF := if_n c11 hF
    refine xe_iconst (v := 1) dX1_takeCalculated_62 (by decide) ?_
    refine xe_goto (tgt := 67) dX1_takeCalculated_63 (by decide) ?_
    obtain ⟨z13, hF⟩ := bz_inv hF
    exact xe_ireturn dX1_takeCalculated_67 (xPZ_ret z13 hF)
def FX1_takeCalculated (p0 : Option Nat) (p1 : Int32) (p2 : Int32) (h0 : Hp) : Option (Int32 × Hp) :=
  if (p1 : Int32) < 8 then
    gR h0 p0 1 1 fun v2 =>
    rcv h0 v2 4 <|
    cl (FX5_take v2 p2 h0) fun v6 h7 =>
    if (v6 : Int32) = 0 then
      bz 0 (some (0, h7))
    else
      gR h7 p0 1 1 fun v14 =>
      rcv h7 v14 4 <|
      cl (FX5_take v14 p2 h7) fun v18 h19 =>
      if (v18 : Int32) = 0 then
        bz 0 (some (0, h19))
      else
        bz 1 (some (1, h19))
  else
    if (p1 : Int32) = 11 then
      BX1_takeCalculated_51 p0 p2 h0
    else
      gR h0 p0 1 1 fun v28 =>
      rcv h0 v28 4 <|
      cl (FX5_take v28 0 h0) fun v32 h33 =>
      if (v32 : Int32) = 0 then
        bz 0 (some (0, h33))
      else
        BX1_takeCalculated_51 p0 p2 h33
set_option maxRecDepth 100000 in
set_option maxHeartbeats 4000000 in
theorem FX1_takeCalculated_ok {G : xG} {l : Launch} {p0 : Option Nat} {p1 : Int32} {p2 : Int32} {h0 h1 : Hp} {r : Int32} (hF : FX1_takeCalculated p0 p1 p2 h0 = some (r, h1)) : xc G l mX1_takeCalculated 4 0 0 [va_rf p0, .int p1, .int p2] h0 (xPZ r h1) := by
  refine xo_Z [.inr (.inr _), .inl _, .inl _] (by decide) (Nat.le_of_ble_eq_true rfl) rfl ?_
  show xv _ _ _ _ _ _ _ [(0, false, va_rf p0), (1, false, .int p1), (2, false, .int p2)] _ _ _
  unfold FX1_takeCalculated at hF
  refine xe_iload_n dX1_takeCalculated_0 rfl rfl ?_
  refine xe_bipush (v := 8) dX1_takeCalculated_1 (by decide) ?_
  refine xe_icmp_ge (tgt := 34) dX1_takeCalculated_3 (by decide) (fun c1 => ?_) (fun c1 => ?_)
  · replace hF := if_p c1 hF
    refine xe_aload_n dX1_takeCalculated_6 rfl rfl ?_
    obtain ⟨a3, e4, t5, hF⟩ := gR_inv hF
    refine xq_getR dX1_takeCalculated_7 fl_Judge_12 xk_1 e4 t5 rfl ?_
    refine xe_iload_n dX1_takeCalculated_10 rfl rfl ?_
    obtain ⟨a11, e9, t10, hF⟩ := rcv_inv hF
    obtain ⟨v6, h7, o8, hF⟩ := cl_inv hF
    refine xz (xq_callV (As := [.int _]) (rest := []) dX1_takeCalculated_11 mk_X5_take ⟨tw_582, tw_583, tw_584⟩ (ci := 4) rfl e9 t10 (FX5_take_ok o8) xPZ_q (by decide) (by decide) rfl rfl ?_)
    refine xe_if_eq (tgt := 32) dX1_takeCalculated_14 (by decide) (fun c12 => ?_) (fun c12 => ?_)
    · replace hF := if_p c12 hF
      refine xe_iconst (v := 0) dX1_takeCalculated_32 (by decide) ?_
      obtain ⟨z13, hF⟩ := bz_inv hF
      exact xe_ireturn dX1_takeCalculated_33 (xPZ_ret z13 hF)
    · replace hF := if_n c12 hF
      refine xe_aload_n dX1_takeCalculated_17 rfl rfl ?_
      obtain ⟨a15, e16, t17, hF⟩ := gR_inv hF
      refine xq_getR dX1_takeCalculated_18 fl_Judge_12 xk_1 e16 t17 rfl ?_
      refine xe_iload_n dX1_takeCalculated_21 rfl rfl ?_
      obtain ⟨a23, e21, t22, hF⟩ := rcv_inv hF
      obtain ⟨v18, h19, o20, hF⟩ := cl_inv hF
      refine xz (xq_callV (As := [.int _]) (rest := []) dX1_takeCalculated_22 mk_X5_take ⟨tw_582, tw_583, tw_584⟩ (ci := 4) rfl e21 t22 (FX5_take_ok o20) xPZ_q (by decide) (by decide) rfl rfl ?_)
      refine xe_if_eq (tgt := 32) dX1_takeCalculated_25 (by decide) (fun c24 => ?_) (fun c24 => ?_)
      · replace hF := if_p c24 hF
        refine xe_iconst (v := 0) dX1_takeCalculated_32 (by decide) ?_
        obtain ⟨z25, hF⟩ := bz_inv hF
        exact xe_ireturn dX1_takeCalculated_33 (xPZ_ret z25 hF)
      · replace hF := if_n c24 hF
        refine xe_iconst (v := 1) dX1_takeCalculated_28 (by decide) ?_
        refine xe_goto (tgt := 33) dX1_takeCalculated_29 (by decide) ?_
        obtain ⟨z26, hF⟩ := bz_inv hF
        exact xe_ireturn dX1_takeCalculated_33 (xPZ_ret z26 hF)
  · replace hF := if_n c1 hF
    refine xe_iload_n dX1_takeCalculated_34 rfl rfl ?_
    refine xe_bipush (v := 11) dX1_takeCalculated_35 (by decide) ?_
    refine xe_icmp_eq (tgt := 51) dX1_takeCalculated_37 (by decide) (fun c27 => ?_) (fun c27 => ?_)
    · replace hF := if_p c27 hF
      exact xv.lv (BX1_takeCalculated_51_ok hF) (xsub_cons rfl (xsub_cons rfl xsub_nil))
    · replace hF := if_n c27 hF
      refine xe_aload_n dX1_takeCalculated_40 rfl rfl ?_
      obtain ⟨a29, e30, t31, hF⟩ := gR_inv hF
      refine xq_getR dX1_takeCalculated_41 fl_Judge_12 xk_1 e30 t31 rfl ?_
      refine xe_iconst (v := 0) dX1_takeCalculated_44 (by decide) ?_
      obtain ⟨a37, e35, t36, hF⟩ := rcv_inv hF
      obtain ⟨v32, h33, o34, hF⟩ := cl_inv hF
      refine xz (xq_callV (As := [.int _]) (rest := []) dX1_takeCalculated_45 mk_X5_take ⟨tw_582, tw_583, tw_584⟩ (ci := 4) rfl e35 t36 (FX5_take_ok o34) xPZ_q (by decide) (by decide) rfl rfl ?_)
      refine xe_if_eq (tgt := 66) dX1_takeCalculated_48 (by decide) (fun c38 => ?_) (fun c38 => ?_)
      · replace hF := if_p c38 hF
        refine xe_iconst (v := 0) dX1_takeCalculated_66 (by decide) ?_
        obtain ⟨z39, hF⟩ := bz_inv hF
        exact xe_ireturn dX1_takeCalculated_67 (xPZ_ret z39 hF)
      · replace hF := if_n c38 hF
        exact xv.lv (BX1_takeCalculated_51_ok hF) (xsub_cons rfl (xsub_cons rfl xsub_nil))
/-! SeldomOps.isEnd(J)Z -/
def FX11_isEnd (p0 : Int64) (h0 : Hp) : Option (Int32 × Hp) :=
  if (p0 : Int64) = 6 then
    bz 1 (some (1, h0))
  else
    if (p0 : Int64) = 7 then
      bz 1 (some (1, h0))
    else
      bz 0 (some (0, h0))
set_option maxRecDepth 100000 in
set_option maxHeartbeats 4000000 in
theorem FX11_isEnd_ok {G : xG} {l : Launch} {p0 : Int64} {h0 h1 : Hp} {r : Int32} (hF : FX11_isEnd p0 h0 = some (r, h1)) : xc G l mX11_isEnd 1 0 0 [.long p0] h0 (xPZ r h1) := by
  refine xo_Z [.inr (.inl _)] (by decide) (Nat.le_of_ble_eq_true rfl) rfl ?_
  show xv _ _ _ _ _ _ _ [(0, true, .long p0)] _ _ _
  unfold FX11_isEnd at hF
  refine xe_lload_n dX11_isEnd_0 rfl rfl ?_
  refine xe_ldc2 (v := 6) dX11_isEnd_1 tw_625 ?_
  refine xe_lcmp dX11_isEnd_4 ?_
  refine xe_lif_eq (tgt := 16) dX11_isEnd_5 (by decide) (fun c1 => ?_) (fun c1 => ?_)
  · replace hF := if_p c1 hF
    refine xe_iconst (v := 1) dX11_isEnd_16 (by decide) ?_
    refine xe_goto (tgt := 21) dX11_isEnd_17 (by decide) ?_
    obtain ⟨z2, hF⟩ := bz_inv hF
    exact xe_ireturn dX11_isEnd_21 (xPZ_ret z2 hF)
  · replace hF := if_n c1 hF
    refine xe_lload_n dX11_isEnd_8 rfl rfl ?_
    refine xe_ldc2 (v := 7) dX11_isEnd_9 tw_626 ?_
    refine xe_lcmp dX11_isEnd_12 ?_
    refine xe_lif_ne (tgt := 20) dX11_isEnd_13 (by decide) (fun c3 => ?_) (fun c3 => ?_)
    · replace hF := if_p c3 hF
      refine xe_iconst (v := 1) dX11_isEnd_16 (by decide) ?_
      refine xe_goto (tgt := 21) dX11_isEnd_17 (by decide) ?_
      obtain ⟨z4, hF⟩ := bz_inv hF
      exact xe_ireturn dX11_isEnd_21 (xPZ_ret z4 hF)
    · replace hF := if_n c3 hF
      refine xe_iconst (v := 0) dX11_isEnd_20 (by decide) ?_
      obtain ⟨z5, hF⟩ := bz_inv hF
      exact xe_ireturn dX11_isEnd_21 (xPZ_ret z5 hF)
/-! SeldomOps$Shape.mayMove(I)Z -/
def FX5_mayMove (p0 : Option Nat) (p1 : Int32) (h0 : Hp) : Option (Int32 × Hp) :=
  gR h0 p0 4 0 fun v1 =>
  gI h0 v1 9 1 fun v5 =>
  tU (p1 - 8) fun v9 =>
  tV (p1 - 8) fun v11 =>
  if (((v5 - v9) - v11) : Int32) < 0 then
    bz 0 (some (0, h0))
  else
    gR h0 p0 4 0 fun v15 =>
    rcv h0 v15 9 <|
    cl (FX10_at v15 ((v5 - v9) - v11) h0) fun v19 h20 =>
    cl (FX11_isEnd v19 h20) fun v25 h26 =>
    if (v25 : Int32) = 0 then
      gR h26 p0 4 0 fun v29 =>
      rcv h26 v29 9 <|
      cl (FX10_at v29 (v5 - v9) h26) fun v33 h34 =>
      cl (FX11_isEnd v33 h34) fun v39 h40 =>
      if (v39 : Int32) = 0 then
        bz 1 (some (1, h40))
      else
        bz 0 (some (0, h40))
    else
      bz 0 (some (0, h26))
set_option maxRecDepth 100000 in
set_option maxHeartbeats 4000000 in
theorem FX5_mayMove_ok {G : xG} {l : Launch} {p0 : Option Nat} {p1 : Int32} {h0 h1 : Hp} {r : Int32} (hF : FX5_mayMove p0 p1 h0 = some (r, h1)) : xc G l mX5_mayMove 2 0 0 [va_rf p0, .int p1] h0 (xPZ r h1) := by
  refine xo_Z [.inr (.inr _), .inl _] (by decide) (Nat.le_of_ble_eq_true rfl) rfl ?_
  show xv _ _ _ _ _ _ _ [(0, false, va_rf p0), (1, false, .int p1)] _ _ _
  unfold FX5_mayMove at hF
  refine xe_aload_n dX5_mayMove_0 rfl rfl ?_
  obtain ⟨a2, e3, t4, hF⟩ := gR_inv hF
  refine xq_getR dX5_mayMove_1 fl_Shape_12 xk_4 e3 t4 rfl ?_
  obtain ⟨a6, e7, t8, hF⟩ := gI_inv hF
  refine xq_getI dX5_mayMove_4 fl_Shape_37 xk_9 e7 t8 rfl ?_
  refine xe_getsN (kst := 0) dX5_mayMove_7 (Or.inl ⟨rfl, rfl⟩) tn_618 ?_
  refine xe_iload_n dX5_mayMove_10 rfl rfl ?_
  refine xe_bipush (v := 8) dX5_mayMove_11 (by decide) ?_
  refine xe_isub dX5_mayMove_13 ?_
  obtain ⟨n10, hF⟩ := inb_inv hF
  refine xe_tald (kst := 0) dX5_mayMove_14 (by decide) n10 ?_
  refine xe_isub dX5_mayMove_15 ?_
  refine xe_istore_n dX5_mayMove_16 rfl (by decide) ?_
  refine xe_iload_n dX5_mayMove_17 rfl rfl ?_
  refine xe_getsN (kst := 1) dX5_mayMove_18 (Or.inr ⟨rfl, rfl⟩) tn_620 ?_
  refine xe_iload_n dX5_mayMove_21 rfl rfl ?_
  refine xe_bipush (v := 8) dX5_mayMove_22 (by decide) ?_
  refine xe_isub dX5_mayMove_24 ?_
  obtain ⟨n12, hF⟩ := inb_inv hF
  refine xe_tald (kst := 1) dX5_mayMove_25 (by decide) n12 ?_
  refine xe_isub dX5_mayMove_26 ?_
  refine xe_istore_n dX5_mayMove_27 rfl (by decide) ?_
  refine xe_iload_n dX5_mayMove_28 rfl rfl ?_
  refine xe_if_lt (tgt := 64) dX5_mayMove_29 (by decide) (fun c13 => ?_) (fun c13 => ?_)
  · replace hF := if_p c13 hF
    refine xe_iconst (v := 0) dX5_mayMove_64 (by decide) ?_
    obtain ⟨z14, hF⟩ := bz_inv hF
    exact xe_ireturn dX5_mayMove_65 (xPZ_ret z14 hF)
  · replace hF := if_n c13 hF
    refine xe_aload_n dX5_mayMove_32 rfl rfl ?_
    obtain ⟨a16, e17, t18, hF⟩ := gR_inv hF
    refine xq_getR dX5_mayMove_33 fl_Shape_12 xk_4 e17 t18 rfl ?_
    refine xe_iload_n dX5_mayMove_36 rfl rfl ?_
    obtain ⟨a24, e22, t23, hF⟩ := rcv_inv hF
    obtain ⟨v19, h20, o21, hF⟩ := cl_inv hF
    refine xz (xq_callV (As := [.int _]) (rest := []) dX5_mayMove_37 mk_X10_at ⟨tw_587, tw_539, tw_540⟩ (ci := 9) rfl e22 t23 (FX10_at_ok o21) xP_q (by decide) (by decide) rfl rfl ?_)
    obtain ⟨v25, h26, o27, hF⟩ := cl_inv hF
    refine xz (xq_callSN (As := [.long _]) (rest := []) dX5_mayMove_40 mk_X11_isEnd ⟨tn_622, tw_623⟩ (FX11_isEnd_ok o27) xPZ_q (by decide) (by decide) rfl rfl ?_)
    refine xe_if_ne (tgt := 64) dX5_mayMove_43 (by decide) (fun c28 => ?_) (fun c28 => ?_)
    · replace hF := if_p c28 hF
      refine xe_aload_n dX5_mayMove_46 rfl rfl ?_
      obtain ⟨a30, e31, t32, hF⟩ := gR_inv hF
      refine xq_getR dX5_mayMove_47 fl_Shape_12 xk_4 e31 t32 rfl ?_
      refine xe_iload_n dX5_mayMove_50 rfl rfl ?_
      obtain ⟨a38, e36, t37, hF⟩ := rcv_inv hF
      obtain ⟨v33, h34, o35, hF⟩ := cl_inv hF
      refine xz (xq_callV (As := [.int _]) (rest := []) dX5_mayMove_51 mk_X10_at ⟨tw_587, tw_539, tw_540⟩ (ci := 9) rfl e36 t37 (FX10_at_ok o35) xP_q (by decide) (by decide) rfl rfl ?_)
      obtain ⟨v39, h40, o41, hF⟩ := cl_inv hF
      refine xz (xq_callSN (As := [.long _]) (rest := []) dX5_mayMove_54 mk_X11_isEnd ⟨tn_622, tw_623⟩ (FX11_isEnd_ok o41) xPZ_q (by decide) (by decide) rfl rfl ?_)
      refine xe_if_ne (tgt := 64) dX5_mayMove_57 (by decide) (fun c42 => ?_) (fun c42 => ?_)
      · replace hF := if_p c42 hF
        refine xe_iconst (v := 1) dX5_mayMove_60 (by decide) ?_
        refine xe_goto (tgt := 65) dX5_mayMove_61 (by decide) ?_
        obtain ⟨z43, hF⟩ := bz_inv hF
        exact xe_ireturn dX5_mayMove_65 (xPZ_ret z43 hF)
      · replace hF := if_n c42 hF
        refine xe_iconst (v := 0) dX5_mayMove_64 (by decide) ?_
        obtain ⟨z44, hF⟩ := bz_inv hF
        exact xe_ireturn dX5_mayMove_65 (xPZ_ret z44 hF)
    · replace hF := if_n c28 hF
      refine xe_iconst (v := 0) dX5_mayMove_64 (by decide) ?_
      obtain ⟨z45, hF⟩ := bz_inv hF
      exact xe_ireturn dX5_mayMove_65 (xPZ_ret z45 hF)
/-! SeldomOps$Judge.takeAll(III)Z -/
def BX1_takeAll_166 (s0 : Option Nat) (s1 : Int32) (h0 : Hp) : Option (Int32 × Hp) :=
  rcv h0 s0 4 <|
  cl (FX5_take s0 s1 h0) fun v1 h2 =>
  bz v1 (some (v1, h2))
set_option maxRecDepth 100000 in
set_option maxHeartbeats 4000000 in
theorem BX1_takeAll_166_ok {G : xG} {l : Launch} {s0 : Option Nat} {s1 : Int32} {h0 h1 : Hp} {r : Int32} (hF : BX1_takeAll_166 s0 s1 h0 = some (r, h1)) : xv G l mX1_takeAll 5 0 0 166 [] [.int s1, va_rf s0] h0 (xPZ r h1) := by
  unfold BX1_takeAll_166 at hF
  obtain ⟨a6, e4, t5, hF⟩ := rcv_inv hF
  obtain ⟨v1, h2, o3, hF⟩ := cl_inv hF
  refine xz (xq_callV (As := [.int _]) (rest := []) dX1_takeAll_166 mk_X5_take ⟨tw_582, tw_583, tw_584⟩ (ci := 4) rfl e4 t5 (FX5_take_ok o3) xPZ_q (by decide) (by decide) rfl rfl ?_)
  obtain ⟨z7, hF⟩ := bz_inv hF
  exact xe_ireturn dX1_takeAll_169 (xPZ_ret z7 hF)
def BX1_takeAll_204 (x0 : Option Nat) (h0 : Hp) : Option (Int32 × Hp) :=
  gR h0 x0 1 1 fun v1 =>
  rcv h0 v1 4 <|
  cl (FX5_take v1 0 h0) fun v5 h6 =>
  bz v5 (some (v5, h6))
set_option maxRecDepth 100000 in
set_option maxHeartbeats 4000000 in
theorem BX1_takeAll_204_ok {G : xG} {l : Launch} {x0 : Option Nat} {h0 h1 : Hp} {r : Int32} (hF : BX1_takeAll_204 x0 h0 = some (r, h1)) : xv G l mX1_takeAll 5 0 0 204 [(0, false, va_rf x0)] [] h0 (xPZ r h1) := by
  unfold BX1_takeAll_204 at hF
  refine xe_aload_n dX1_takeAll_204 rfl rfl ?_
  obtain ⟨a2, e3, t4, hF⟩ := gR_inv hF
  refine xq_getR dX1_takeAll_205 fl_Judge_12 xk_1 e3 t4 rfl ?_
  refine xe_iconst (v := 0) dX1_takeAll_208 (by decide) ?_
  obtain ⟨a10, e8, t9, hF⟩ := rcv_inv hF
  obtain ⟨v5, h6, o7, hF⟩ := cl_inv hF
  refine xz (xq_callV (As := [.int _]) (rest := []) dX1_takeAll_209 mk_X5_take ⟨tw_582, tw_583, tw_584⟩ (ci := 4) rfl e8 t9 (FX5_take_ok o7) xPZ_q (by decide) (by decide) rfl rfl ?_)
  obtain ⟨z11, hF⟩ := bz_inv hF
  exact xe_ireturn dX1_takeAll_212 (xPZ_ret z11 hF)
def BX1_takeAll_289 (x0 : Option Nat) (h0 : Hp) : Option (Int32 × Hp) :=
  gR h0 x0 1 1 fun v1 =>
  rcv h0 v1 4 <|
  cl (FX5_take v1 4 h0) fun v5 h6 =>
  bz v5 (some (v5, h6))
set_option maxRecDepth 100000 in
set_option maxHeartbeats 4000000 in
theorem BX1_takeAll_289_ok {G : xG} {l : Launch} {x0 : Option Nat} {h0 h1 : Hp} {r : Int32} (hF : BX1_takeAll_289 x0 h0 = some (r, h1)) : xv G l mX1_takeAll 5 0 0 289 [(0, false, va_rf x0)] [] h0 (xPZ r h1) := by
  unfold BX1_takeAll_289 at hF
  refine xe_aload_n dX1_takeAll_289 rfl rfl ?_
  obtain ⟨a2, e3, t4, hF⟩ := gR_inv hF
  refine xq_getR dX1_takeAll_290 fl_Judge_12 xk_1 e3 t4 rfl ?_
  refine xe_iconst (v := 4) dX1_takeAll_293 (by decide) ?_
  obtain ⟨a10, e8, t9, hF⟩ := rcv_inv hF
  obtain ⟨v5, h6, o7, hF⟩ := cl_inv hF
  refine xz (xq_callV (As := [.int _]) (rest := []) dX1_takeAll_294 mk_X5_take ⟨tw_582, tw_583, tw_584⟩ (ci := 4) rfl e8 t9 (FX5_take_ok o7) xPZ_q (by decide) (by decide) rfl rfl ?_)
  obtain ⟨z11, hF⟩ := bz_inv hF
  exact xe_ireturn dX1_takeAll_297 (xPZ_ret z11 hF)
def FX1_takeAll (p0 : Option Nat) (p1 : Int32) (p2 : Int32) (p3 : Int32) (h0 : Hp) : Option (Int32 × Hp) :=
  if (p1 : Int32) = 6 then
    gR h0 p0 1 1 fun v2 =>
    rcv h0 v2 4 <|
    cl (FX5_take v2 p3 h0) fun v6 h7 =>
    bz v6 (some (v6, h7))
  else
  if (p1 : Int32) = 17 then
    rcv h0 p0 1 <|
    cl (FX1_takeCalculated p0 p2 p3 h0) fun v14 h15 =>
    bz v14 (some (v14, h15))
  else
  if (p1 : Int32) = 18 then
    gR h0 p0 1 1 fun v22 =>
    if (p2 : Int32) = 3 then
      BX1_takeAll_166 v22 1 h0
    else
      BX1_takeAll_166 v22 0 h0
  else
  if (p1 : Int32) = 19 then
    gR h0 p0 1 1 fun v28 =>
    cl (FX11_kindCompared p2 h0) fun v32 h33 =>
    rcv h33 v28 4 <|
    cl (FX5_take v28 v32 h33) fun v35 h36 =>
    if (v35 : Int32) = 0 then
      bz 0 (some (0, h36))
    else
      gR h36 p0 1 1 fun v43 =>
      cl (FX11_kindCompared p2 h36) fun v47 h48 =>
      rcv h48 v43 4 <|
      cl (FX5_take v43 v47 h48) fun v50 h51 =>
      if (v50 : Int32) = 0 then
        bz 0 (some (0, h51))
      else
        bz 1 (some (1, h51))
  else
  if (p1 : Int32) = 21 then
    BX1_takeAll_204 p0 h0
  else
  if (p1 : Int32) = 22 then
    BX1_takeAll_289 p0 h0
  else
  if (p1 : Int32) = 23 then
    BX1_takeAll_204 p0 h0
  else
  if (p1 : Int32) = 24 then
    rcv h0 p0 1 <|
    cl (FX1_takeSizes p0 p3 h0) fun v63 h64 =>
    bz v63 (some (v63, h64))
  else
  if (p1 : Int32) = 25 then
    gR h0 p0 1 1 fun v71 =>
    rcv h0 v71 4 <|
    cl (FX5_take v71 0 h0) fun v75 h76 =>
    if (v75 : Int32) = 0 then
      bz 0 (some (0, h76))
    else
      gR h76 p0 1 1 fun v83 =>
      rcv h76 v83 4 <|
      cl (FX5_take v83 4 h76) fun v87 h88 =>
      if (v87 : Int32) = 0 then
        bz 0 (some (0, h88))
      else
        bz 1 (some (1, h88))
  else
  if (p1 : Int32) = 26 then
    gR h0 p0 1 1 fun v97 =>
    cl (FX11_kindOfCell p3 h0) fun v101 h102 =>
    rcv h102 v97 4 <|
    cl (FX5_take v97 v101 h102) fun v104 h105 =>
    if (v104 : Int32) = 0 then
      bz 0 (some (0, h105))
    else
      gR h105 p0 1 1 fun v112 =>
      rcv h105 v112 4 <|
      cl (FX5_take v112 0 h105) fun v116 h117 =>
      if (v116 : Int32) = 0 then
        bz 0 (some (0, h117))
      else
        gR h117 p0 1 1 fun v124 =>
        rcv h117 v124 4 <|
        cl (FX5_take v124 4 h117) fun v128 h129 =>
        if (v128 : Int32) = 0 then
          bz 0 (some (0, h129))
        else
          bz 1 (some (1, h129))
  else
  if (p1 : Int32) = 27 then
    BX1_takeAll_289 p0 h0
  else
  if (p1 : Int32) = 28 then
    BX1_takeAll_289 p0 h0
  else
  if (p1 : Int32) = 29 then
    BX1_takeAll_289 p0 h0
  else
  if (p1 : Int32) = 31 then
    BX1_takeAll_289 p0 h0
  else
  if (p1 : Int32) = 32 then
    BX1_takeAll_289 p0 h0
  else
  if (p1 : Int32) = 33 then
    BX1_takeAll_289 p0 h0
  else
  if (p1 : Int32) = 34 then
    if (p2 : Int32) = 5 then
      bz 1 (some (1, h0))
    else
      gR h0 p0 1 1 fun v146 =>
      rcv h0 v146 4 <|
      cl (FX5_take v146 p2 h0) fun v150 h151 =>
      if (v150 : Int32) = 0 then
        bz 0 (some (0, h151))
      else
        bz 1 (some (1, h151))
  else
  if (p1 : Int32) = 35 then
    gR h0 p0 1 0 fun v160 =>
    rcv h0 v160 3 <|
    cl (FX4_findMethod v160 p2 h0) fun v164 h165 =>
    rcv h165 p0 1 <|
    cl (FX1_takeArguments p0 v164 h165) fun v170 h171 =>
    bz v170 (some (v170, h171))
  else
  if (p1 : Int32) < 8 then
    bz 1 (some (1, h0))
  else
    if (16 : Int32) < p1 then
      bz 1 (some (1, h0))
    else
      gR h0 p0 1 1 fun v181 =>
      rcv h0 v181 4 <|
      cl (FX5_mayMove v181 p1 h0) fun v185 h186 =>
      if (v185 : Int32) = 0 then
        bz 0 (some (0, h186))
      else
        bz 1 (some (1, h186))
set_option maxRecDepth 100000 in
set_option maxHeartbeats 4000000 in
theorem FX1_takeAll_ok {G : xG} {l : Launch} {p0 : Option Nat} {p1 : Int32} {p2 : Int32} {p3 : Int32} {h0 h1 : Hp} {r : Int32} (hF : FX1_takeAll p0 p1 p2 p3 h0 = some (r, h1)) : xc G l mX1_takeAll 5 0 0 [va_rf p0, .int p1, .int p2, .int p3] h0 (xPZ r h1) := by
  refine xo_Z [.inr (.inr _), .inl _, .inl _, .inl _] (by decide) (Nat.le_of_ble_eq_true rfl) rfl ?_
  show xv _ _ _ _ _ _ _ [(0, false, va_rf p0), (1, false, .int p1), (2, false, .int p2), (3, false, .int p3)] _ _ _
  unfold FX1_takeAll at hF
  refine xe_iload_n dX1_takeAll_0 rfl rfl ?_
  refine xs_case (j := 6) (tgt := 136) dX1_takeAll_1 (by decide) (by decide) rfl (by decide) (fun c1 => ?_) (fun c1 => ?_)
  · replace hF := if_p c1 hF
    refine xe_aload_n dX1_takeAll_136 rfl rfl ?_
    obtain ⟨a3, e4, t5, hF⟩ := gR_inv hF
    refine xq_getR dX1_takeAll_137 fl_Judge_12 xk_1 e4 t5 rfl ?_
    refine xe_iload_n dX1_takeAll_140 rfl rfl ?_
    obtain ⟨a11, e9, t10, hF⟩ := rcv_inv hF
    obtain ⟨v6, h7, o8, hF⟩ := cl_inv hF
    refine xz (xq_callV (As := [.int _]) (rest := []) dX1_takeAll_141 mk_X5_take ⟨tw_582, tw_583, tw_584⟩ (ci := 4) rfl e9 t10 (FX5_take_ok o8) xPZ_q (by decide) (by decide) rfl rfl ?_)
    obtain ⟨z12, hF⟩ := bz_inv hF
    exact xe_ireturn dX1_takeAll_144 (xPZ_ret z12 hF)
  replace hF := if_n c1 hF
  refine xs_case (j := 17) (tgt := 145) dX1_takeAll_1 (by decide) (by decide) rfl (by decide) (fun c13 => ?_) (fun c13 => ?_)
  · replace hF := if_p c13 hF
    refine xe_aload_n dX1_takeAll_145 rfl rfl ?_
    refine xe_iload_n dX1_takeAll_146 rfl rfl ?_
    refine xe_iload_n dX1_takeAll_147 rfl rfl ?_
    obtain ⟨a19, e17, t18, hF⟩ := rcv_inv hF
    obtain ⟨v14, h15, o16, hF⟩ := cl_inv hF
    refine xz (xq_callV (As := [.int _, .int _]) (rest := []) dX1_takeAll_148 mk_X1_takeCalculated ⟨tw_595, tw_597, ts_9⟩ (ci := 1) rfl e17 t18 (FX1_takeCalculated_ok o16) xPZ_q (by decide) (by decide) rfl rfl ?_)
    obtain ⟨z20, hF⟩ := bz_inv hF
    exact xe_ireturn dX1_takeAll_151 (xPZ_ret z20 hF)
  replace hF := if_n c13 hF
  refine xs_case (j := 18) (tgt := 152) dX1_takeAll_1 (by decide) (by decide) rfl (by decide) (fun c21 => ?_) (fun c21 => ?_)
  · replace hF := if_p c21 hF
    refine xe_aload_n dX1_takeAll_152 rfl rfl ?_
    obtain ⟨a23, e24, t25, hF⟩ := gR_inv hF
    refine xq_getR dX1_takeAll_153 fl_Judge_12 xk_1 e24 t25 rfl ?_
    refine xe_iload_n dX1_takeAll_156 rfl rfl ?_
    refine xe_iconst (v := 3) dX1_takeAll_157 (by decide) ?_
    refine xe_icmp_ne (tgt := 165) dX1_takeAll_158 (by decide) (fun c26 => ?_) (fun c26 => ?_)
    · replace hF := if_p c26 hF
      refine xe_iconst (v := 1) dX1_takeAll_161 (by decide) ?_
      refine xe_goto (tgt := 166) dX1_takeAll_162 (by decide) ?_
      exact xv.lv (BX1_takeAll_166_ok hF) xsub_nil
    · replace hF := if_n c26 hF
      refine xe_iconst (v := 0) dX1_takeAll_165 (by decide) ?_
      exact xv.lv (BX1_takeAll_166_ok hF) xsub_nil
  replace hF := if_n c21 hF
  refine xs_case (j := 19) (tgt := 170) dX1_takeAll_1 (by decide) (by decide) rfl (by decide) (fun c27 => ?_) (fun c27 => ?_)
  · replace hF := if_p c27 hF
    refine xe_aload_n dX1_takeAll_170 rfl rfl ?_
    obtain ⟨a29, e30, t31, hF⟩ := gR_inv hF
    refine xq_getR dX1_takeAll_171 fl_Judge_12 xk_1 e30 t31 rfl ?_
    refine xe_iload_n dX1_takeAll_174 rfl rfl ?_
    obtain ⟨v32, h33, o34, hF⟩ := cl_inv hF
    refine xz (xq_callSN (As := [.int _]) (rest := [va_rf _]) dX1_takeAll_175 mk_X11_kindCompared ⟨tn_599, tw_600⟩ (FX11_kindCompared_ok o34) xP_q (by decide) (Nat.le_trans (cs_r cs_0) (by decide)) rfl rfl ?_)
    obtain ⟨a40, e38, t39, hF⟩ := rcv_inv hF
    obtain ⟨v35, h36, o37, hF⟩ := cl_inv hF
    refine xz (xq_callV (As := [.int _]) (rest := []) dX1_takeAll_178 mk_X5_take ⟨tw_582, tw_583, tw_584⟩ (ci := 4) rfl e38 t39 (FX5_take_ok o37) xPZ_q (by decide) (by decide) rfl rfl ?_)
    refine xe_if_eq (tgt := 202) dX1_takeAll_181 (by decide) (fun c41 => ?_) (fun c41 => ?_)
    · replace hF := if_p c41 hF
      refine xe_iconst (v := 0) dX1_takeAll_202 (by decide) ?_
      obtain ⟨z42, hF⟩ := bz_inv hF
      exact xe_ireturn dX1_takeAll_203 (xPZ_ret z42 hF)
    · replace hF := if_n c41 hF
      refine xe_aload_n dX1_takeAll_184 rfl rfl ?_
      obtain ⟨a44, e45, t46, hF⟩ := gR_inv hF
      refine xq_getR dX1_takeAll_185 fl_Judge_12 xk_1 e45 t46 rfl ?_
      refine xe_iload_n dX1_takeAll_188 rfl rfl ?_
      obtain ⟨v47, h48, o49, hF⟩ := cl_inv hF
      refine xz (xq_callSN (As := [.int _]) (rest := [va_rf _]) dX1_takeAll_189 mk_X11_kindCompared ⟨tn_599, tw_600⟩ (FX11_kindCompared_ok o49) xP_q (by decide) (Nat.le_trans (cs_r cs_0) (by decide)) rfl rfl ?_)
      obtain ⟨a55, e53, t54, hF⟩ := rcv_inv hF
      obtain ⟨v50, h51, o52, hF⟩ := cl_inv hF
      refine xz (xq_callV (As := [.int _]) (rest := []) dX1_takeAll_192 mk_X5_take ⟨tw_582, tw_583, tw_584⟩ (ci := 4) rfl e53 t54 (FX5_take_ok o52) xPZ_q (by decide) (by decide) rfl rfl ?_)
      refine xe_if_eq (tgt := 202) dX1_takeAll_195 (by decide) (fun c56 => ?_) (fun c56 => ?_)
      · replace hF := if_p c56 hF
        refine xe_iconst (v := 0) dX1_takeAll_202 (by decide) ?_
        obtain ⟨z57, hF⟩ := bz_inv hF
        exact xe_ireturn dX1_takeAll_203 (xPZ_ret z57 hF)
      · replace hF := if_n c56 hF
        refine xe_iconst (v := 1) dX1_takeAll_198 (by decide) ?_
        refine xe_goto (tgt := 203) dX1_takeAll_199 (by decide) ?_
        obtain ⟨z58, hF⟩ := bz_inv hF
        exact xe_ireturn dX1_takeAll_203 (xPZ_ret z58 hF)
  replace hF := if_n c27 hF
  refine xs_case (j := 21) (tgt := 204) dX1_takeAll_1 (by decide) (by decide) rfl (by decide) (fun c59 => ?_) (fun c59 => ?_)
  · replace hF := if_p c59 hF
    exact xv.lv (BX1_takeAll_204_ok hF) (xsub_cons rfl xsub_nil)
  replace hF := if_n c59 hF
  refine xs_case (j := 22) (tgt := 289) dX1_takeAll_1 (by decide) (by decide) rfl (by decide) (fun c60 => ?_) (fun c60 => ?_)
  · replace hF := if_p c60 hF
    exact xv.lv (BX1_takeAll_289_ok hF) (xsub_cons rfl xsub_nil)
  replace hF := if_n c60 hF
  refine xs_case (j := 23) (tgt := 204) dX1_takeAll_1 (by decide) (by decide) rfl (by decide) (fun c61 => ?_) (fun c61 => ?_)
  · replace hF := if_p c61 hF
    exact xv.lv (BX1_takeAll_204_ok hF) (xsub_cons rfl xsub_nil)
  replace hF := if_n c61 hF
  refine xs_case (j := 24) (tgt := 213) dX1_takeAll_1 (by decide) (by decide) rfl (by decide) (fun c62 => ?_) (fun c62 => ?_)
  · replace hF := if_p c62 hF
    refine xe_aload_n dX1_takeAll_213 rfl rfl ?_
    refine xe_iload_n dX1_takeAll_214 rfl rfl ?_
    obtain ⟨a68, e66, t67, hF⟩ := rcv_inv hF
    obtain ⟨v63, h64, o65, hF⟩ := cl_inv hF
    refine xz (xq_callV (As := [.int _]) (rest := []) dX1_takeAll_215 mk_X1_takeSizes ⟨tw_602, tw_604, ts_10⟩ (ci := 1) rfl e66 t67 (FX1_takeSizes_ok o65) xPZ_q (by decide) (by decide) rfl rfl ?_)
    obtain ⟨z69, hF⟩ := bz_inv hF
    exact xe_ireturn dX1_takeAll_218 (xPZ_ret z69 hF)
  replace hF := if_n c62 hF
  refine xs_case (j := 25) (tgt := 219) dX1_takeAll_1 (by decide) (by decide) rfl (by decide) (fun c70 => ?_) (fun c70 => ?_)
  · replace hF := if_p c70 hF
    refine xe_aload_n dX1_takeAll_219 rfl rfl ?_
    obtain ⟨a72, e73, t74, hF⟩ := gR_inv hF
    refine xq_getR dX1_takeAll_220 fl_Judge_12 xk_1 e73 t74 rfl ?_
    refine xe_iconst (v := 0) dX1_takeAll_223 (by decide) ?_
    obtain ⟨a80, e78, t79, hF⟩ := rcv_inv hF
    obtain ⟨v75, h76, o77, hF⟩ := cl_inv hF
    refine xz (xq_callV (As := [.int _]) (rest := []) dX1_takeAll_224 mk_X5_take ⟨tw_582, tw_583, tw_584⟩ (ci := 4) rfl e78 t79 (FX5_take_ok o77) xPZ_q (by decide) (by decide) rfl rfl ?_)
    refine xe_if_eq (tgt := 245) dX1_takeAll_227 (by decide) (fun c81 => ?_) (fun c81 => ?_)
    · replace hF := if_p c81 hF
      refine xe_iconst (v := 0) dX1_takeAll_245 (by decide) ?_
      obtain ⟨z82, hF⟩ := bz_inv hF
      exact xe_ireturn dX1_takeAll_246 (xPZ_ret z82 hF)
    · replace hF := if_n c81 hF
      refine xe_aload_n dX1_takeAll_230 rfl rfl ?_
      obtain ⟨a84, e85, t86, hF⟩ := gR_inv hF
      refine xq_getR dX1_takeAll_231 fl_Judge_12 xk_1 e85 t86 rfl ?_
      refine xe_iconst (v := 4) dX1_takeAll_234 (by decide) ?_
      obtain ⟨a92, e90, t91, hF⟩ := rcv_inv hF
      obtain ⟨v87, h88, o89, hF⟩ := cl_inv hF
      refine xz (xq_callV (As := [.int _]) (rest := []) dX1_takeAll_235 mk_X5_take ⟨tw_582, tw_583, tw_584⟩ (ci := 4) rfl e90 t91 (FX5_take_ok o89) xPZ_q (by decide) (by decide) rfl rfl ?_)
      refine xe_if_eq (tgt := 245) dX1_takeAll_238 (by decide) (fun c93 => ?_) (fun c93 => ?_)
      · replace hF := if_p c93 hF
        refine xe_iconst (v := 0) dX1_takeAll_245 (by decide) ?_
        obtain ⟨z94, hF⟩ := bz_inv hF
        exact xe_ireturn dX1_takeAll_246 (xPZ_ret z94 hF)
      · replace hF := if_n c93 hF
        refine xe_iconst (v := 1) dX1_takeAll_241 (by decide) ?_
        refine xe_goto (tgt := 246) dX1_takeAll_242 (by decide) ?_
        obtain ⟨z95, hF⟩ := bz_inv hF
        exact xe_ireturn dX1_takeAll_246 (xPZ_ret z95 hF)
  replace hF := if_n c70 hF
  refine xs_case (j := 26) (tgt := 247) dX1_takeAll_1 (by decide) (by decide) rfl (by decide) (fun c96 => ?_) (fun c96 => ?_)
  · replace hF := if_p c96 hF
    refine xe_aload_n dX1_takeAll_247 rfl rfl ?_
    obtain ⟨a98, e99, t100, hF⟩ := gR_inv hF
    refine xq_getR dX1_takeAll_248 fl_Judge_12 xk_1 e99 t100 rfl ?_
    refine xe_iload_n dX1_takeAll_251 rfl rfl ?_
    obtain ⟨v101, h102, o103, hF⟩ := cl_inv hF
    refine xz (xq_callSN (As := [.int _]) (rest := [va_rf _]) dX1_takeAll_252 mk_X11_kindOfCell ⟨tn_606, tw_607⟩ (FX11_kindOfCell_ok o103) xP_q (by decide) (Nat.le_trans (cs_r cs_0) (by decide)) rfl rfl ?_)
    obtain ⟨a109, e107, t108, hF⟩ := rcv_inv hF
    obtain ⟨v104, h105, o106, hF⟩ := cl_inv hF
    refine xz (xq_callV (As := [.int _]) (rest := []) dX1_takeAll_255 mk_X5_take ⟨tw_582, tw_583, tw_584⟩ (ci := 4) rfl e107 t108 (FX5_take_ok o106) xPZ_q (by decide) (by decide) rfl rfl ?_)
    refine xe_if_eq (tgt := 287) dX1_takeAll_258 (by decide) (fun c110 => ?_) (fun c110 => ?_)
    · replace hF := if_p c110 hF
      refine xe_iconst (v := 0) dX1_takeAll_287 (by decide) ?_
      obtain ⟨z111, hF⟩ := bz_inv hF
      exact xe_ireturn dX1_takeAll_288 (xPZ_ret z111 hF)
    · replace hF := if_n c110 hF
      refine xe_aload_n dX1_takeAll_261 rfl rfl ?_
      obtain ⟨a113, e114, t115, hF⟩ := gR_inv hF
      refine xq_getR dX1_takeAll_262 fl_Judge_12 xk_1 e114 t115 rfl ?_
      refine xe_iconst (v := 0) dX1_takeAll_265 (by decide) ?_
      obtain ⟨a121, e119, t120, hF⟩ := rcv_inv hF
      obtain ⟨v116, h117, o118, hF⟩ := cl_inv hF
      refine xz (xq_callV (As := [.int _]) (rest := []) dX1_takeAll_266 mk_X5_take ⟨tw_582, tw_583, tw_584⟩ (ci := 4) rfl e119 t120 (FX5_take_ok o118) xPZ_q (by decide) (by decide) rfl rfl ?_)
      refine xe_if_eq (tgt := 287) dX1_takeAll_269 (by decide) (fun c122 => ?_) (fun c122 => ?_)
      · replace hF := if_p c122 hF
        refine xe_iconst (v := 0) dX1_takeAll_287 (by decide) ?_
        obtain ⟨z123, hF⟩ := bz_inv hF
        exact xe_ireturn dX1_takeAll_288 (xPZ_ret z123 hF)
      · replace hF := if_n c122 hF
        refine xe_aload_n dX1_takeAll_272 rfl rfl ?_
        obtain ⟨a125, e126, t127, hF⟩ := gR_inv hF
        refine xq_getR dX1_takeAll_273 fl_Judge_12 xk_1 e126 t127 rfl ?_
        refine xe_iconst (v := 4) dX1_takeAll_276 (by decide) ?_
        obtain ⟨a133, e131, t132, hF⟩ := rcv_inv hF
        obtain ⟨v128, h129, o130, hF⟩ := cl_inv hF
        refine xz (xq_callV (As := [.int _]) (rest := []) dX1_takeAll_277 mk_X5_take ⟨tw_582, tw_583, tw_584⟩ (ci := 4) rfl e131 t132 (FX5_take_ok o130) xPZ_q (by decide) (by decide) rfl rfl ?_)
        refine xe_if_eq (tgt := 287) dX1_takeAll_280 (by decide) (fun c134 => ?_) (fun c134 => ?_)
        · replace hF := if_p c134 hF
          refine xe_iconst (v := 0) dX1_takeAll_287 (by decide) ?_
          obtain ⟨z135, hF⟩ := bz_inv hF
          exact xe_ireturn dX1_takeAll_288 (xPZ_ret z135 hF)
        · replace hF := if_n c134 hF
          refine xe_iconst (v := 1) dX1_takeAll_283 (by decide) ?_
          refine xe_goto (tgt := 288) dX1_takeAll_284 (by decide) ?_
          obtain ⟨z136, hF⟩ := bz_inv hF
          exact xe_ireturn dX1_takeAll_288 (xPZ_ret z136 hF)
  replace hF := if_n c96 hF
  refine xs_case (j := 27) (tgt := 289) dX1_takeAll_1 (by decide) (by decide) rfl (by decide) (fun c137 => ?_) (fun c137 => ?_)
  · replace hF := if_p c137 hF
    exact xv.lv (BX1_takeAll_289_ok hF) (xsub_cons rfl xsub_nil)
  replace hF := if_n c137 hF
  refine xs_case (j := 28) (tgt := 289) dX1_takeAll_1 (by decide) (by decide) rfl (by decide) (fun c138 => ?_) (fun c138 => ?_)
  · replace hF := if_p c138 hF
    exact xv.lv (BX1_takeAll_289_ok hF) (xsub_cons rfl xsub_nil)
  replace hF := if_n c138 hF
  refine xs_case (j := 29) (tgt := 289) dX1_takeAll_1 (by decide) (by decide) rfl (by decide) (fun c139 => ?_) (fun c139 => ?_)
  · replace hF := if_p c139 hF
    exact xv.lv (BX1_takeAll_289_ok hF) (xsub_cons rfl xsub_nil)
  replace hF := if_n c139 hF
  refine xs_case (j := 31) (tgt := 289) dX1_takeAll_1 (by decide) (by decide) rfl (by decide) (fun c140 => ?_) (fun c140 => ?_)
  · replace hF := if_p c140 hF
    exact xv.lv (BX1_takeAll_289_ok hF) (xsub_cons rfl xsub_nil)
  replace hF := if_n c140 hF
  refine xs_case (j := 32) (tgt := 289) dX1_takeAll_1 (by decide) (by decide) rfl (by decide) (fun c141 => ?_) (fun c141 => ?_)
  · replace hF := if_p c141 hF
    exact xv.lv (BX1_takeAll_289_ok hF) (xsub_cons rfl xsub_nil)
  replace hF := if_n c141 hF
  refine xs_case (j := 33) (tgt := 289) dX1_takeAll_1 (by decide) (by decide) rfl (by decide) (fun c142 => ?_) (fun c142 => ?_)
  · replace hF := if_p c142 hF
    exact xv.lv (BX1_takeAll_289_ok hF) (xsub_cons rfl xsub_nil)
  replace hF := if_n c142 hF
  refine xs_case (j := 34) (tgt := 298) dX1_takeAll_1 (by decide) (by decide) rfl (by decide) (fun c143 => ?_) (fun c143 => ?_)
  · replace hF := if_p c143 hF
    refine xe_iload_n dX1_takeAll_298 rfl rfl ?_
    refine xe_iconst (v := 5) dX1_takeAll_299 (by decide) ?_
    refine xe_icmp_eq (tgt := 314) dX1_takeAll_300 (by decide) (fun c144 => ?_) (fun c144 => ?_)
    · replace hF := if_p c144 hF
      refine xe_iconst (v := 1) dX1_takeAll_314 (by decide) ?_
      refine xe_goto (tgt := 319) dX1_takeAll_315 (by decide) ?_
      obtain ⟨z145, hF⟩ := bz_inv hF
      exact xe_ireturn dX1_takeAll_319 (xPZ_ret z145 hF)
    · replace hF := if_n c144 hF
      refine xe_aload_n dX1_takeAll_303 rfl rfl ?_
      obtain ⟨a147, e148, t149, hF⟩ := gR_inv hF
      refine xq_getR dX1_takeAll_304 fl_Judge_12 xk_1 e148 t149 rfl ?_
      refine xe_iload_n dX1_takeAll_307 rfl rfl ?_
      obtain ⟨a155, e153, t154, hF⟩ := rcv_inv hF
      obtain ⟨v150, h151, o152, hF⟩ := cl_inv hF
      refine xz (xq_callV (As := [.int _]) (rest := []) dX1_takeAll_308 mk_X5_take ⟨tw_582, tw_583, tw_584⟩ (ci := 4) rfl e153 t154 (FX5_take_ok o152) xPZ_q (by decide) (by decide) rfl rfl ?_)
      refine xe_if_eq (tgt := 318) dX1_takeAll_311 (by decide) (fun c156 => ?_) (fun c156 => ?_)
      · replace hF := if_p c156 hF
        refine xe_iconst (v := 0) dX1_takeAll_318 (by decide) ?_
        obtain ⟨z157, hF⟩ := bz_inv hF
        exact xe_ireturn dX1_takeAll_319 (xPZ_ret z157 hF)
      · replace hF := if_n c156 hF
        refine xe_iconst (v := 1) dX1_takeAll_314 (by decide) ?_
        refine xe_goto (tgt := 319) dX1_takeAll_315 (by decide) ?_
        obtain ⟨z158, hF⟩ := bz_inv hF
        exact xe_ireturn dX1_takeAll_319 (xPZ_ret z158 hF)
  replace hF := if_n c143 hF
  refine xs_case (j := 35) (tgt := 320) dX1_takeAll_1 (by decide) (by decide) rfl (by decide) (fun c159 => ?_) (fun c159 => ?_)
  · replace hF := if_p c159 hF
    refine xe_aload_n dX1_takeAll_320 rfl rfl ?_
    refine xe_aload_n dX1_takeAll_321 rfl rfl ?_
    obtain ⟨a161, e162, t163, hF⟩ := gR_inv hF
    refine xq_getR dX1_takeAll_322 fl_Judge_31 xk_1 e162 t163 rfl ?_
    refine xe_iload_n dX1_takeAll_325 rfl rfl ?_
    obtain ⟨a169, e167, t168, hF⟩ := rcv_inv hF
    obtain ⟨v164, h165, o166, hF⟩ := cl_inv hF
    refine xz (xq_callV (As := [.int _]) (rest := [va_rf _]) dX1_takeAll_326 mk_X4_findMethod ⟨tw_609, tw_382, tw_383⟩ (ci := 3) rfl e167 t168 (FX4_findMethod_ok o166) xP_q (by decide) (Nat.le_trans (cs_r cs_0) (by decide)) rfl rfl ?_)
    obtain ⟨a175, e173, t174, hF⟩ := rcv_inv hF
    obtain ⟨v170, h171, o172, hF⟩ := cl_inv hF
    refine xz (xq_callV (As := [va_rf _]) (rest := []) dX1_takeAll_329 mk_X1_takeArguments ⟨tw_610, tw_612, ts_11⟩ (ci := 1) rfl e173 t174 (FX1_takeArguments_ok o172) xPZ_q (by decide) (by decide) rfl rfl ?_)
    obtain ⟨z176, hF⟩ := bz_inv hF
    exact xe_ireturn dX1_takeAll_332 (xPZ_ret z176 hF)
  replace hF := if_n c159 hF
  refine xs_rest (tgt := 333) [6, 17, 18, 19, 21, 22, 23, 24, 25, 26, 27, 28, 29, 31, 32, 33, 34, 35] dX1_takeAll_1 (by decide) (List.forall_mem_cons.mpr ⟨c1, List.forall_mem_cons.mpr ⟨c13, List.forall_mem_cons.mpr ⟨c21, List.forall_mem_cons.mpr ⟨c27, List.forall_mem_cons.mpr ⟨c59, List.forall_mem_cons.mpr ⟨c60, List.forall_mem_cons.mpr ⟨c61, List.forall_mem_cons.mpr ⟨c62, List.forall_mem_cons.mpr ⟨c70, List.forall_mem_cons.mpr ⟨c96, List.forall_mem_cons.mpr ⟨c137, List.forall_mem_cons.mpr ⟨c138, List.forall_mem_cons.mpr ⟨c139, List.forall_mem_cons.mpr ⟨c140, List.forall_mem_cons.mpr ⟨c141, List.forall_mem_cons.mpr ⟨c142, List.forall_mem_cons.mpr ⟨c143, List.forall_mem_cons.mpr ⟨c159, fun _ h => by cases h⟩⟩⟩⟩⟩⟩⟩⟩⟩⟩⟩⟩⟩⟩⟩⟩⟩⟩) (by decide) ?_
  refine xe_iload_n dX1_takeAll_333 rfl rfl ?_
  refine xe_bipush (v := 8) dX1_takeAll_334 (by decide) ?_
  refine xe_icmp_lt (tgt := 356) dX1_takeAll_336 (by decide) (fun c177 => ?_) (fun c177 => ?_)
  · replace hF := if_p c177 hF
    refine xe_iconst (v := 1) dX1_takeAll_356 (by decide) ?_
    refine xe_goto (tgt := 361) dX1_takeAll_357 (by decide) ?_
    obtain ⟨z178, hF⟩ := bz_inv hF
    exact xe_ireturn dX1_takeAll_361 (xPZ_ret z178 hF)
  · replace hF := if_n c177 hF
    refine xe_iload_n dX1_takeAll_339 rfl rfl ?_
    refine xe_bipush (v := 16) dX1_takeAll_340 (by decide) ?_
    refine xe_icmp_gt (tgt := 356) dX1_takeAll_342 (by decide) (fun c179 => ?_) (fun c179 => ?_)
    · replace hF := if_p c179 hF
      refine xe_iconst (v := 1) dX1_takeAll_356 (by decide) ?_
      refine xe_goto (tgt := 361) dX1_takeAll_357 (by decide) ?_
      obtain ⟨z180, hF⟩ := bz_inv hF
      exact xe_ireturn dX1_takeAll_361 (xPZ_ret z180 hF)
    · replace hF := if_n c179 hF
      refine xe_aload_n dX1_takeAll_345 rfl rfl ?_
      obtain ⟨a182, e183, t184, hF⟩ := gR_inv hF
      refine xq_getR dX1_takeAll_346 fl_Judge_12 xk_1 e183 t184 rfl ?_
      refine xe_iload_n dX1_takeAll_349 rfl rfl ?_
      obtain ⟨a190, e188, t189, hF⟩ := rcv_inv hF
      obtain ⟨v185, h186, o187, hF⟩ := cl_inv hF
      refine xz (xq_callV (As := [.int _]) (rest := []) dX1_takeAll_350 mk_X5_mayMove ⟨tw_614, tw_615, tw_616⟩ (ci := 4) rfl e188 t189 (FX5_mayMove_ok o187) xPZ_q (by decide) (by decide) rfl rfl ?_)
      refine xe_if_eq (tgt := 360) dX1_takeAll_353 (by decide) (fun c191 => ?_) (fun c191 => ?_)
      · replace hF := if_p c191 hF
        refine xe_iconst (v := 0) dX1_takeAll_360 (by decide) ?_
        obtain ⟨z192, hF⟩ := bz_inv hF
        exact xe_ireturn dX1_takeAll_361 (xPZ_ret z192 hF)
      · replace hF := if_n c191 hF
        refine xe_iconst (v := 1) dX1_takeAll_356 (by decide) ?_
        refine xe_goto (tgt := 361) dX1_takeAll_357 (by decide) ?_
        obtain ⟨z193, hF⟩ := bz_inv hF
        exact xe_ireturn dX1_takeAll_361 (xPZ_ret z193 hF)
/-! SeldomOps$Shape.holds(II)Z -/
def FX5_holds (p0 : Option Nat) (p1 : Int32) (p2 : Int32) (h0 : Hp) : Option (Int32 × Hp) :=
  cl (FX11_within p1 16 h0) fun v1 h2 =>
  if (v1 : Int32) = 0 then
    bz 0 (some (0, h2))
  else
    gR h2 p0 4 1 fun v6 =>
    aL h2 v6 p1 fun v10 =>
    if (v10 : Int64) = (Int32.toInt64 p2) then
      bz 1 (some (1, h2))
    else
      bz 0 (some (0, h2))
set_option maxRecDepth 100000 in
set_option maxHeartbeats 4000000 in
theorem FX5_holds_ok {G : xG} {l : Launch} {p0 : Option Nat} {p1 : Int32} {p2 : Int32} {h0 h1 : Hp} {r : Int32} (hF : FX5_holds p0 p1 p2 h0 = some (r, h1)) : xc G l mX5_holds 2 0 0 [va_rf p0, .int p1, .int p2] h0 (xPZ r h1) := by
  refine xo_Z [.inr (.inr _), .inl _, .inl _] (by decide) (Nat.le_of_ble_eq_true rfl) rfl ?_
  show xv _ _ _ _ _ _ _ [(0, false, va_rf p0), (1, false, .int p1), (2, false, .int p2)] _ _ _
  unfold FX5_holds at hF
  refine xe_iload_n dX5_holds_0 rfl rfl ?_
  refine xe_bipush (v := 16) dX5_holds_1 (by decide) ?_
  obtain ⟨v1, h2, o3, hF⟩ := cl_inv hF
  refine xz (xq_callSN (As := [.int _, .int _]) (rest := []) dX5_holds_3 mk_X11_within ⟨tn_506, tw_264⟩ (FX11_within_ok o3) xPZ_q (by decide) (by decide) rfl rfl ?_)
  refine xe_if_eq (tgt := 25) dX5_holds_6 (by decide) (fun c4 => ?_) (fun c4 => ?_)
  · replace hF := if_p c4 hF
    refine xe_iconst (v := 0) dX5_holds_25 (by decide) ?_
    obtain ⟨z5, hF⟩ := bz_inv hF
    exact xe_ireturn dX5_holds_26 (xPZ_ret z5 hF)
  · replace hF := if_n c4 hF
    refine xe_aload_n dX5_holds_9 rfl rfl ?_
    obtain ⟨a7, e8, t9, hF⟩ := gR_inv hF
    refine xq_getR dX5_holds_10 fl_Shape_18 xk_4 e8 t9 rfl ?_
    refine xe_iload_n dX5_holds_13 rfl rfl ?_
    obtain ⟨a11, n12, e13, t14, b15, hF⟩ := aL_inv hF
    refine xq_lald dX5_holds_14 e13 t14 b15 ?_
    refine xe_iload_n dX5_holds_15 rfl rfl ?_
    refine xe_i2l dX5_holds_16 ?_
    refine xe_lcmp dX5_holds_17 ?_
    refine xe_lif_ne (tgt := 25) dX5_holds_18 (by decide) (fun c16 => ?_) (fun c16 => ?_)
    · replace hF := if_p c16 hF
      refine xe_iconst (v := 1) dX5_holds_21 (by decide) ?_
      refine xe_goto (tgt := 26) dX5_holds_22 (by decide) ?_
      obtain ⟨z17, hF⟩ := bz_inv hF
      exact xe_ireturn dX5_holds_26 (xPZ_ret z17 hF)
    · replace hF := if_n c16 hF
      refine xe_iconst (v := 0) dX5_holds_25 (by decide) ?_
      obtain ⟨z18, hF⟩ := bz_inv hF
      exact xe_ireturn dX5_holds_26 (xPZ_ret z18 hF)
/-! SeldomOps$Shape.put(I)V -/
def FX5_put (p0 : Option Nat) (p1 : Int32) (h0 : Hp) : Option (Unit × Hp) :=
  gR h0 p0 4 0 fun v1 =>
  rcv h0 v1 9 <|
  cl (FX10_push v1 (Int32.toInt64 p1) h0) fun v5 h6 =>
  cl (FX11_isWide p1 h6) fun v11 h12 =>
  if (v11 : Int32) = 0 then
    some ((), h12)
  else
    gR h12 p0 4 0 fun v15 =>
    cl (FX11_endOf p1 h12) fun v19 h20 =>
    rcv h20 v15 9 <|
    cl (FX10_push v15 (Int32.toInt64 v19) h20) fun v22 h23 =>
    some ((), h23)
set_option maxRecDepth 100000 in
set_option maxHeartbeats 4000000 in
theorem FX5_put_ok {G : xG} {l : Launch} {p0 : Option Nat} {p1 : Int32} {h0 h1 : Hp} {r : Unit} (hF : FX5_put p0 p1 h0 = some (r, h1)) : xc G l mX5_put 2 0 0 [va_rf p0, .int p1] h0 (xP mkV r h1) := by
  refine xo_V [.inr (.inr _), .inl _] (by decide) (Nat.le_of_ble_eq_true rfl) rfl ?_
  show xv _ _ _ _ _ _ _ [(0, false, va_rf p0), (1, false, .int p1)] _ _ _
  unfold FX5_put at hF
  refine xe_aload_n dX5_put_0 rfl rfl ?_
  obtain ⟨a2, e3, t4, hF⟩ := gR_inv hF
  refine xq_getR dX5_put_1 fl_Shape_12 xk_4 e3 t4 rfl ?_
  refine xe_iload_n dX5_put_4 rfl rfl ?_
  refine xe_i2l dX5_put_5 ?_
  obtain ⟨a10, e8, t9, hF⟩ := rcv_inv hF
  obtain ⟨v5, h6, o7, hF⟩ := cl_inv hF
  refine xz (xq_callV (As := [.long _]) (rest := []) dX5_put_6 mk_X10_push ⟨tw_639, tw_640, tw_641⟩ (ci := 9) rfl e8 t9 (FX10_push_ok o7) xP_q (by decide) (by decide) rfl rfl ?_)
  refine xe_iload_n dX5_put_9 rfl rfl ?_
  obtain ⟨v11, h12, o13, hF⟩ := cl_inv hF
  refine xz (xq_callSN (As := [.int _]) (rest := []) dX5_put_10 mk_X11_isWide ⟨tn_507, tw_390⟩ (FX11_isWide_ok o13) xPZ_q (by decide) (by decide) rfl rfl ?_)
  refine xe_if_eq (tgt := 28) dX5_put_13 (by decide) (fun c14 => ?_) (fun c14 => ?_)
  · replace hF := if_p c14 hF
    exact xe_return dX5_put_28 (xP_ret (mk := mkV) hF)
  · replace hF := if_n c14 hF
    refine xe_aload_n dX5_put_16 rfl rfl ?_
    obtain ⟨a16, e17, t18, hF⟩ := gR_inv hF
    refine xq_getR dX5_put_17 fl_Shape_12 xk_4 e17 t18 rfl ?_
    refine xe_iload_n dX5_put_20 rfl rfl ?_
    obtain ⟨v19, h20, o21, hF⟩ := cl_inv hF
    refine xz (xq_callSN (As := [.int _]) (rest := [va_rf _]) dX5_put_21 mk_X11_endOf ⟨tn_508, tw_509⟩ (FX11_endOf_ok o21) xP_q (by decide) (Nat.le_trans (cs_r cs_0) (by decide)) rfl rfl ?_)
    refine xe_i2l dX5_put_24 ?_
    obtain ⟨a27, e25, t26, hF⟩ := rcv_inv hF
    obtain ⟨v22, h23, o24, hF⟩ := cl_inv hF
    refine xz (xq_callV (As := [.long _]) (rest := []) dX5_put_25 mk_X10_push ⟨tw_639, tw_640, tw_641⟩ (ci := 9) rfl e25 t26 (FX10_push_ok o24) xP_q (by decide) (by decide) rfl rfl ?_)
    exact xe_return dX5_put_28 (xP_ret (mk := mkV) hF)
/-! SeldomOps$Judge.kindPut(III)I -/
def FX1_kindPut (p0 : Option Nat) (p1 : Int32) (p2 : Int32) (p3 : Int32) (h0 : Hp) : Option (Int32 × Hp) :=
  if (p1 : Int32) = 5 then
    some (p3, h0)
  else
  if (p1 : Int32) = 17 then
    some (p3, h0)
  else
  if (p1 : Int32) = 18 then
    if (p2 : Int32) = 4 then
      some (1, h0)
    else
      some (0, h0)
  else
  if (p1 : Int32) = 19 then
    some (0, h0)
  else
  if (p1 : Int32) = 24 then
    some (4, h0)
  else
  if (p1 : Int32) = 25 then
    cl (FX11_kindOfCell p3 h0) fun v8 h9 =>
    some (v8, h9)
  else
  if (p1 : Int32) = 27 then
    some (0, h0)
  else
  if (p1 : Int32) = 28 then
    some (0, h0)
  else
  if (p1 : Int32) = 29 then
    some (4, h0)
  else
  if (p1 : Int32) = 30 then
    some (4, h0)
  else
  if (p1 : Int32) = 35 then
    gR h0 p0 1 0 fun v16 =>
    rcv h0 v16 3 <|
    cl (FX4_findMethod v16 p2 h0) fun v20 h21 =>
    nz v20 (
      some (5, h21)
    ) (
      gI h21 v20 2 0 fun v27 =>
      some (v27, h21)
    )
  else
  some (5, h0)
set_option maxRecDepth 100000 in
set_option maxHeartbeats 4000000 in
theorem FX1_kindPut_ok {G : xG} {l : Launch} {p0 : Option Nat} {p1 : Int32} {p2 : Int32} {p3 : Int32} {h0 h1 : Hp} {r : Int32} (hF : FX1_kindPut p0 p1 p2 p3 h0 = some (r, h1)) : xc G l mX1_kindPut 3 0 0 [va_rf p0, .int p1, .int p2, .int p3] h0 (xP mkI r h1) := by
  refine xo_I [.inr (.inr _), .inl _, .inl _, .inl _] (by decide) (Nat.le_of_ble_eq_true rfl) rfl ?_
  show xv _ _ _ _ _ _ _ [(0, false, va_rf p0), (1, false, .int p1), (2, false, .int p2), (3, false, .int p3)] _ _ _
  unfold FX1_kindPut at hF
  refine xe_iload_n dX1_kindPut_0 rfl rfl ?_
  refine xs_case (j := 5) (tgt := 140) dX1_kindPut_1 (by decide) (by decide) rfl (by decide) (fun c1 => ?_) (fun c1 => ?_)
  · replace hF := if_p c1 hF
    refine xe_iload_n dX1_kindPut_140 rfl rfl ?_
    exact xe_ireturn dX1_kindPut_141 (xP_ret (mk := mkI) hF)
  replace hF := if_n c1 hF
  refine xs_case (j := 17) (tgt := 140) dX1_kindPut_1 (by decide) (by decide) rfl (by decide) (fun c2 => ?_) (fun c2 => ?_)
  · replace hF := if_p c2 hF
    refine xe_iload_n dX1_kindPut_140 rfl rfl ?_
    exact xe_ireturn dX1_kindPut_141 (xP_ret (mk := mkI) hF)
  replace hF := if_n c2 hF
  refine xs_case (j := 18) (tgt := 142) dX1_kindPut_1 (by decide) (by decide) rfl (by decide) (fun c3 => ?_) (fun c3 => ?_)
  · replace hF := if_p c3 hF
    refine xe_iload_n dX1_kindPut_142 rfl rfl ?_
    refine xe_iconst (v := 4) dX1_kindPut_143 (by decide) ?_
    refine xe_icmp_ne (tgt := 151) dX1_kindPut_144 (by decide) (fun c4 => ?_) (fun c4 => ?_)
    · replace hF := if_p c4 hF
      refine xe_iconst (v := 1) dX1_kindPut_147 (by decide) ?_
      refine xe_goto (tgt := 152) dX1_kindPut_148 (by decide) ?_
      exact xe_ireturn dX1_kindPut_152 (xP_ret (mk := mkI) hF)
    · replace hF := if_n c4 hF
      refine xe_iconst (v := 0) dX1_kindPut_151 (by decide) ?_
      exact xe_ireturn dX1_kindPut_152 (xP_ret (mk := mkI) hF)
  replace hF := if_n c3 hF
  refine xs_case (j := 19) (tgt := 153) dX1_kindPut_1 (by decide) (by decide) rfl (by decide) (fun c5 => ?_) (fun c5 => ?_)
  · replace hF := if_p c5 hF
    refine xe_iconst (v := 0) dX1_kindPut_153 (by decide) ?_
    exact xe_ireturn dX1_kindPut_154 (xP_ret (mk := mkI) hF)
  replace hF := if_n c5 hF
  refine xs_case (j := 24) (tgt := 160) dX1_kindPut_1 (by decide) (by decide) rfl (by decide) (fun c6 => ?_) (fun c6 => ?_)
  · replace hF := if_p c6 hF
    refine xe_iconst (v := 4) dX1_kindPut_160 (by decide) ?_
    exact xe_ireturn dX1_kindPut_161 (xP_ret (mk := mkI) hF)
  replace hF := if_n c6 hF
  refine xs_case (j := 25) (tgt := 155) dX1_kindPut_1 (by decide) (by decide) rfl (by decide) (fun c7 => ?_) (fun c7 => ?_)
  · replace hF := if_p c7 hF
    refine xe_iload_n dX1_kindPut_155 rfl rfl ?_
    obtain ⟨v8, h9, o10, hF⟩ := cl_inv hF
    refine xz (xq_callSN (As := [.int _]) (rest := []) dX1_kindPut_156 mk_X11_kindOfCell ⟨tn_606, tw_607⟩ (FX11_kindOfCell_ok o10) xP_q (by decide) (by decide) rfl rfl ?_)
    exact xe_ireturn dX1_kindPut_159 (xP_ret (mk := mkI) hF)
  replace hF := if_n c7 hF
  refine xs_case (j := 27) (tgt := 153) dX1_kindPut_1 (by decide) (by decide) rfl (by decide) (fun c11 => ?_) (fun c11 => ?_)
  · replace hF := if_p c11 hF
    refine xe_iconst (v := 0) dX1_kindPut_153 (by decide) ?_
    exact xe_ireturn dX1_kindPut_154 (xP_ret (mk := mkI) hF)
  replace hF := if_n c11 hF
  refine xs_case (j := 28) (tgt := 153) dX1_kindPut_1 (by decide) (by decide) rfl (by decide) (fun c12 => ?_) (fun c12 => ?_)
  · replace hF := if_p c12 hF
    refine xe_iconst (v := 0) dX1_kindPut_153 (by decide) ?_
    exact xe_ireturn dX1_kindPut_154 (xP_ret (mk := mkI) hF)
  replace hF := if_n c12 hF
  refine xs_case (j := 29) (tgt := 160) dX1_kindPut_1 (by decide) (by decide) rfl (by decide) (fun c13 => ?_) (fun c13 => ?_)
  · replace hF := if_p c13 hF
    refine xe_iconst (v := 4) dX1_kindPut_160 (by decide) ?_
    exact xe_ireturn dX1_kindPut_161 (xP_ret (mk := mkI) hF)
  replace hF := if_n c13 hF
  refine xs_case (j := 30) (tgt := 160) dX1_kindPut_1 (by decide) (by decide) rfl (by decide) (fun c14 => ?_) (fun c14 => ?_)
  · replace hF := if_p c14 hF
    refine xe_iconst (v := 4) dX1_kindPut_160 (by decide) ?_
    exact xe_ireturn dX1_kindPut_161 (xP_ret (mk := mkI) hF)
  replace hF := if_n c14 hF
  refine xs_case (j := 35) (tgt := 162) dX1_kindPut_1 (by decide) (by decide) rfl (by decide) (fun c15 => ?_) (fun c15 => ?_)
  · replace hF := if_p c15 hF
    refine xe_aload_n dX1_kindPut_162 rfl rfl ?_
    obtain ⟨a17, e18, t19, hF⟩ := gR_inv hF
    refine xq_getR dX1_kindPut_163 fl_Judge_31 xk_1 e18 t19 rfl ?_
    refine xe_iload_n dX1_kindPut_166 rfl rfl ?_
    obtain ⟨a25, e23, t24, hF⟩ := rcv_inv hF
    obtain ⟨v20, h21, o22, hF⟩ := cl_inv hF
    refine xz (xq_callV (As := [.int _]) (rest := []) dX1_kindPut_167 mk_X4_findMethod ⟨tw_609, tw_382, tw_383⟩ (ci := 3) rfl e23 t24 (FX4_findMethod_ok o22) xP_q (by decide) (by decide) rfl rfl ?_)
    refine xe_astore dX1_kindPut_170 (by decide) ?_
    refine xe_aload dX1_kindPut_172 rfl ?_
    refine xe_ifnonnull (tgt := 181) dX1_kindPut_174 (by decide) (fun e26 => ?_) (fun a_ e26 => ?_)
    · replace hF := nz_n' e26 hF
      refine xe_iconst (v := 5) dX1_kindPut_177 (by decide) ?_
      refine xe_goto (tgt := 186) dX1_kindPut_178 (by decide) ?_
      exact xe_ireturn dX1_kindPut_186 (xP_ret (mk := mkI) hF)
    · replace hF := nz_s' e26 hF
      refine xe_aload dX1_kindPut_181 rfl ?_
      obtain ⟨a28, e29, t30, hF⟩ := gI_inv hF
      refine xq_getI dX1_kindPut_183 fl_Judge_140 xk_2 e29 t30 rfl ?_
      exact xe_ireturn dX1_kindPut_186 (xP_ret (mk := mkI) hF)
  replace hF := if_n c15 hF
  refine xs_rest (tgt := 187) [5, 17, 18, 19, 24, 25, 27, 28, 29, 30, 35] dX1_kindPut_1 (by decide) (List.forall_mem_cons.mpr ⟨c1, List.forall_mem_cons.mpr ⟨c2, List.forall_mem_cons.mpr ⟨c3, List.forall_mem_cons.mpr ⟨c5, List.forall_mem_cons.mpr ⟨c6, List.forall_mem_cons.mpr ⟨c7, List.forall_mem_cons.mpr ⟨c11, List.forall_mem_cons.mpr ⟨c12, List.forall_mem_cons.mpr ⟨c13, List.forall_mem_cons.mpr ⟨c14, List.forall_mem_cons.mpr ⟨c15, fun _ h => by cases h⟩⟩⟩⟩⟩⟩⟩⟩⟩⟩⟩) (by decide) ?_
  refine xe_iconst (v := 5) dX1_kindPut_187 (by decide) ?_
  exact xe_ireturn dX1_kindPut_188 (xP_ret (mk := mkI) hF)
/-! SeldomOps$Judge.putAll(III)V -/
def BX1_putAll_42 (x0 : Option Nat) (x1 : Int32) (x2 : Int32) (x3 : Int32) (h0 : Hp) : Option (Unit × Hp) :=
  if (x1 : Int32) = 6 then
    gR h0 x0 1 1 fun v2 =>
    rcv h0 v2 4 <|
    cl (FX5_store v2 x2 x3 h0) fun v6 h7 =>
    some ((), h7)
  else
    rcv h0 x0 1 <|
    cl (FX1_kindPut x0 x1 x2 x3 h0) fun v12 h13 =>
    if (v12 : Int32) = 5 then
      some ((), h13)
    else
      gR h13 x0 1 1 fun v19 =>
      rcv h13 v19 4 <|
      cl (FX5_put v19 v12 h13) fun v23 h24 =>
      some ((), h24)
set_option maxRecDepth 100000 in
set_option maxHeartbeats 4000000 in
theorem BX1_putAll_42_ok {G : xG} {l : Launch} {x0 : Option Nat} {x1 : Int32} {x2 : Int32} {x3 : Int32} {h0 h1 : Hp} {r : Unit} (hF : BX1_putAll_42 x0 x1 x2 x3 h0 = some (r, h1)) : xv G l mX1_putAll 4 0 0 42 [(0, false, va_rf x0), (1, false, .int x1), (2, false, .int x2), (3, false, .int x3)] [] h0 (xP mkV r h1) := by
  unfold BX1_putAll_42 at hF
  refine xe_iload_n dX1_putAll_42 rfl rfl ?_
  refine xe_bipush (v := 6) dX1_putAll_43 (by decide) ?_
  refine xe_icmp_ne (tgt := 60) dX1_putAll_45 (by decide) (fun c1 => ?_) (fun c1 => ?_)
  · replace hF := if_p c1 hF
    refine xe_aload_n dX1_putAll_48 rfl rfl ?_
    obtain ⟨a3, e4, t5, hF⟩ := gR_inv hF
    refine xq_getR dX1_putAll_49 fl_Judge_12 xk_1 e4 t5 rfl ?_
    refine xe_iload_n dX1_putAll_52 rfl rfl ?_
    refine xe_iload_n dX1_putAll_53 rfl rfl ?_
    obtain ⟨a11, e9, t10, hF⟩ := rcv_inv hF
    obtain ⟨v6, h7, o8, hF⟩ := cl_inv hF
    refine xz (xq_callV (As := [.int _, .int _]) (rest := []) dX1_putAll_54 mk_X5_store ⟨tw_498, tw_499, tw_500⟩ (ci := 4) rfl e9 t10 (FX5_store_ok o8) xP_q (by decide) (by decide) rfl rfl ?_)
    refine xe_goto (tgt := 84) dX1_putAll_57 (by decide) ?_
    exact xe_return dX1_putAll_84 (xP_ret (mk := mkV) hF)
  · replace hF := if_n c1 hF
    refine xe_aload_n dX1_putAll_60 rfl rfl ?_
    refine xe_iload_n dX1_putAll_61 rfl rfl ?_
    refine xe_iload_n dX1_putAll_62 rfl rfl ?_
    refine xe_iload_n dX1_putAll_63 rfl rfl ?_
    obtain ⟨a17, e15, t16, hF⟩ := rcv_inv hF
    obtain ⟨v12, h13, o14, hF⟩ := cl_inv hF
    refine xz (xq_callV (As := [.int _, .int _, .int _]) (rest := []) dX1_putAll_64 mk_X1_kindPut ⟨tw_659, tw_661, ts_14⟩ (ci := 1) rfl e15 t16 (FX1_kindPut_ok o14) xP_q (by decide) (by decide) rfl rfl ?_)
    refine xe_istore dX1_putAll_67 (by decide) ?_
    refine xe_iload dX1_putAll_69 rfl ?_
    refine xe_iconst (v := 5) dX1_putAll_71 (by decide) ?_
    refine xe_icmp_eq (tgt := 84) dX1_putAll_72 (by decide) (fun c18 => ?_) (fun c18 => ?_)
    · replace hF := if_p c18 hF
      exact xe_return dX1_putAll_84 (xP_ret (mk := mkV) hF)
    · replace hF := if_n c18 hF
      refine xe_aload_n dX1_putAll_75 rfl rfl ?_
      obtain ⟨a20, e21, t22, hF⟩ := gR_inv hF
      refine xq_getR dX1_putAll_76 fl_Judge_12 xk_1 e21 t22 rfl ?_
      refine xe_iload dX1_putAll_79 rfl ?_
      obtain ⟨a28, e26, t27, hF⟩ := rcv_inv hF
      obtain ⟨v23, h24, o25, hF⟩ := cl_inv hF
      refine xz (xq_callV (As := [.int _]) (rest := []) dX1_putAll_81 mk_X5_put ⟨tw_635, tw_636, tw_637⟩ (ci := 4) rfl e26 t27 (FX5_put_ok o25) xP_q (by decide) (by decide) rfl rfl ?_)
      exact xe_return dX1_putAll_84 (xP_ret (mk := mkV) hF)
def FX1_putAll (p0 : Option Nat) (p1 : Int32) (p2 : Int32) (p3 : Int32) (h0 : Hp) : Option (Unit × Hp) :=
  if (4 : Int32) < p1 then
    if (p1 : Int32) < 8 then
      BX1_putAll_42 p0 p1 p2 p3 h0
    else
      if (16 : Int32) < p1 then
        BX1_putAll_42 p0 p1 p2 p3 h0
      else
        gR h0 p0 1 1 fun v4 =>
        gR h0 v4 4 0 fun v8 =>
        rcv h0 v8 9 <|
        cl (FX10_move v8 p1 h0) fun v12 h13 =>
        some ((), h13)
  else
    gR h0 p0 1 1 fun v18 =>
    rcv h0 v18 4 <|
    cl (FX5_put v18 p1 h0) fun v22 h23 =>
    some ((), h23)
set_option maxRecDepth 100000 in
set_option maxHeartbeats 4000000 in
theorem FX1_putAll_ok {G : xG} {l : Launch} {p0 : Option Nat} {p1 : Int32} {p2 : Int32} {p3 : Int32} {h0 h1 : Hp} {r : Unit} (hF : FX1_putAll p0 p1 p2 p3 h0 = some (r, h1)) : xc G l mX1_putAll 4 0 0 [va_rf p0, .int p1, .int p2, .int p3] h0 (xP mkV r h1) := by
  refine xo_V [.inr (.inr _), .inl _, .inl _, .inl _] (by decide) (Nat.le_of_ble_eq_true rfl) rfl ?_
  show xv _ _ _ _ _ _ _ [(0, false, va_rf p0), (1, false, .int p1), (2, false, .int p2), (3, false, .int p3)] _ _ _
  unfold FX1_putAll at hF
  refine xe_iload_n dX1_putAll_0 rfl rfl ?_
  refine xe_iconst (v := 4) dX1_putAll_1 (by decide) ?_
  refine xe_icmp_gt (tgt := 16) dX1_putAll_2 (by decide) (fun c1 => ?_) (fun c1 => ?_)
  · replace hF := if_p c1 hF
    refine xe_iload_n dX1_putAll_16 rfl rfl ?_
    refine xe_bipush (v := 8) dX1_putAll_17 (by decide) ?_
    refine xe_icmp_lt (tgt := 42) dX1_putAll_19 (by decide) (fun c2 => ?_) (fun c2 => ?_)
    · replace hF := if_p c2 hF
      exact xv.lv (BX1_putAll_42_ok hF) (xsub_cons rfl (xsub_cons rfl (xsub_cons rfl (xsub_cons rfl xsub_nil))))
    · replace hF := if_n c2 hF
      refine xe_iload_n dX1_putAll_22 rfl rfl ?_
      refine xe_bipush (v := 16) dX1_putAll_23 (by decide) ?_
      refine xe_icmp_gt (tgt := 42) dX1_putAll_25 (by decide) (fun c3 => ?_) (fun c3 => ?_)
      · replace hF := if_p c3 hF
        exact xv.lv (BX1_putAll_42_ok hF) (xsub_cons rfl (xsub_cons rfl (xsub_cons rfl (xsub_cons rfl xsub_nil))))
      · replace hF := if_n c3 hF
        refine xe_aload_n dX1_putAll_28 rfl rfl ?_
        obtain ⟨a5, e6, t7, hF⟩ := gR_inv hF
        refine xq_getR dX1_putAll_29 fl_Judge_12 xk_1 e6 t7 rfl ?_
        obtain ⟨a9, e10, t11, hF⟩ := gR_inv hF
        refine xq_getR dX1_putAll_32 fl_Judge_76 xk_4 e10 t11 rfl ?_
        refine xe_iload_n dX1_putAll_35 rfl rfl ?_
        obtain ⟨a17, e15, t16, hF⟩ := rcv_inv hF
        obtain ⟨v12, h13, o14, hF⟩ := cl_inv hF
        refine xz (xq_callV (As := [.int _]) (rest := []) dX1_putAll_36 mk_X10_move ⟨tw_643, tw_644, tw_645⟩ (ci := 9) rfl e15 t16 (FX10_move_ok o14) xP_q (by decide) (by decide) rfl rfl ?_)
        refine xe_goto (tgt := 84) dX1_putAll_39 (by decide) ?_
        exact xe_return dX1_putAll_84 (xP_ret (mk := mkV) hF)
  · replace hF := if_n c1 hF
    refine xe_aload_n dX1_putAll_5 rfl rfl ?_
    obtain ⟨a19, e20, t21, hF⟩ := gR_inv hF
    refine xq_getR dX1_putAll_6 fl_Judge_12 xk_1 e20 t21 rfl ?_
    refine xe_iload_n dX1_putAll_9 rfl rfl ?_
    obtain ⟨a27, e25, t26, hF⟩ := rcv_inv hF
    obtain ⟨v22, h23, o24, hF⟩ := cl_inv hF
    refine xz (xq_callV (As := [.int _]) (rest := []) dX1_putAll_10 mk_X5_put ⟨tw_635, tw_636, tw_637⟩ (ci := 4) rfl e25 t26 (FX5_put_ok o24) xP_q (by decide) (by decide) rfl rfl ?_)
    refine xe_goto (tgt := 84) dX1_putAll_13 (by decide) ?_
    exact xe_return dX1_putAll_84 (xP_ret (mk := mkV) hF)
/-! SeldomOps$Judge.goesToNext(I)Z -/
def FX1_goesToNext (p0 : Int32) (h0 : Hp) : Option (Int32 × Hp) :=
  if (p0 : Int32) = 20 then
    bz 0 (some (0, h0))
  else
    if (p0 : Int32) = 23 then
      bz 0 (some (0, h0))
    else
      if (p0 : Int32) = 31 then
        bz 0 (some (0, h0))
      else
        if (p0 : Int32) = 34 then
          bz 0 (some (0, h0))
        else
          bz 1 (some (1, h0))
set_option maxRecDepth 100000 in
set_option maxHeartbeats 4000000 in
theorem FX1_goesToNext_ok {G : xG} {l : Launch} {p0 : Int32} {h0 h1 : Hp} {r : Int32} (hF : FX1_goesToNext p0 h0 = some (r, h1)) : xc G l mX1_goesToNext 1 0 0 [.int p0] h0 (xPZ r h1) := by
  refine xo_Z [.inl _] (by decide) (Nat.le_of_ble_eq_true rfl) rfl ?_
  show xv _ _ _ _ _ _ _ [(0, false, .int p0)] _ _ _
  unfold FX1_goesToNext at hF
  refine xe_iload_n dX1_goesToNext_0 rfl rfl ?_
  refine xe_bipush (v := 20) dX1_goesToNext_1 (by decide) ?_
  refine xe_icmp_eq (tgt := 28) dX1_goesToNext_3 (by decide) (fun c1 => ?_) (fun c1 => ?_)
  · replace hF := if_p c1 hF
    refine xe_iconst (v := 0) dX1_goesToNext_28 (by decide) ?_
    obtain ⟨z2, hF⟩ := bz_inv hF
    exact xe_ireturn dX1_goesToNext_29 (xPZ_ret z2 hF)
  · replace hF := if_n c1 hF
    refine xe_iload_n dX1_goesToNext_6 rfl rfl ?_
    refine xe_bipush (v := 23) dX1_goesToNext_7 (by decide) ?_
    refine xe_icmp_eq (tgt := 28) dX1_goesToNext_9 (by decide) (fun c3 => ?_) (fun c3 => ?_)
    · replace hF := if_p c3 hF
      refine xe_iconst (v := 0) dX1_goesToNext_28 (by decide) ?_
      obtain ⟨z4, hF⟩ := bz_inv hF
      exact xe_ireturn dX1_goesToNext_29 (xPZ_ret z4 hF)
    · replace hF := if_n c3 hF
      refine xe_iload_n dX1_goesToNext_12 rfl rfl ?_
      refine xe_bipush (v := 31) dX1_goesToNext_13 (by decide) ?_
      refine xe_icmp_eq (tgt := 28) dX1_goesToNext_15 (by decide) (fun c5 => ?_) (fun c5 => ?_)
      · replace hF := if_p c5 hF
        refine xe_iconst (v := 0) dX1_goesToNext_28 (by decide) ?_
        obtain ⟨z6, hF⟩ := bz_inv hF
        exact xe_ireturn dX1_goesToNext_29 (xPZ_ret z6 hF)
      · replace hF := if_n c5 hF
        refine xe_iload_n dX1_goesToNext_18 rfl rfl ?_
        refine xe_bipush (v := 34) dX1_goesToNext_19 (by decide) ?_
        refine xe_icmp_eq (tgt := 28) dX1_goesToNext_21 (by decide) (fun c7 => ?_) (fun c7 => ?_)
        · replace hF := if_p c7 hF
          refine xe_iconst (v := 0) dX1_goesToNext_28 (by decide) ?_
          obtain ⟨z8, hF⟩ := bz_inv hF
          exact xe_ireturn dX1_goesToNext_29 (xPZ_ret z8 hF)
        · replace hF := if_n c7 hF
          refine xe_iconst (v := 1) dX1_goesToNext_24 (by decide) ?_
          refine xe_goto (tgt := 29) dX1_goesToNext_25 (by decide) ?_
          obtain ⟨z9, hF⟩ := bz_inv hF
          exact xe_ireturn dX1_goesToNext_29 (xPZ_ret z9 hF)
