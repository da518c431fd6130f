/-! SeldomOps$Numbers.compareBits(IJJ)I -/
def BX3_compareBits_123 (s0 : Int64) (s1 : Int64) (h0 : Hp) : Option (Int32 × Hp) :=
  cl (FX3_order s0 s1 h0) fun v1 h2 =>
  some (v1, h2)
set_option maxRecDepth 100000 in
set_option maxHeartbeats 4000000 in
theorem BX3_compareBits_123_ok {G : xG} {l : Launch} {s0 : Int64} {s1 : Int64} {h0 h1 : Hp} {r : Int32} (hF : BX3_compareBits_123 s0 s1 h0 = some (r, h1)) : xv G l mX3_compareBits 2 0 0 123 [] [.long s1, .long s0] h0 (xP mkI r h1) := by
  unfold BX3_compareBits_123 at hF
  obtain ⟨v1, h2, o3, hF⟩ := cl_inv hF
  refine xz (xq_callS (As := [.long _, .long _]) (rest := []) dX3_compareBits_123 mk_X3_order ⟨tw_797, tw_798⟩ (FX3_order_ok o3) xP_q (by decide) (by decide) rfl rfl ?_)
  exact xe_ireturn dX3_compareBits_126 (xP_ret (mk := mkI) hF)
def BX3_compareBits_109 (x3 : Int64) (x12 : Int64) (s0 : Int64) (h0 : Hp) : Option (Int32 × Hp) :=
  if (x3 : Int64) < 0 then
    BX3_compareBits_123 s0 (0 - x12) h0
  else
    BX3_compareBits_123 s0 x12 h0
set_option maxRecDepth 100000 in
set_option maxHeartbeats 4000000 in
theorem BX3_compareBits_109_ok {G : xG} {l : Launch} {x3 : Int64} {x12 : Int64} {s0 : Int64} {h0 h1 : Hp} {r : Int32} (hF : BX3_compareBits_109 x3 x12 s0 h0 = some (r, h1)) : xv G l mX3_compareBits 2 0 0 109 [(3, true, .long x3), (12, true, .long x12)] [.long s0] h0 (xP mkI r h1) := by
  unfold BX3_compareBits_109 at hF
  refine xe_lload_n dX3_compareBits_109 rfl rfl ?_
  refine xe_lconst (v := 0) dX3_compareBits_110 (by decide) ?_
  refine xe_lcmp dX3_compareBits_111 ?_
  refine xe_lif_ge (tgt := 121) dX3_compareBits_112 (by decide) (fun c1 => ?_) (fun c1 => ?_)
  · replace hF := if_p c1 hF
    refine xe_lload dX3_compareBits_115 rfl ?_
    refine xe_lneg dX3_compareBits_117 ?_
    refine xe_goto (tgt := 123) dX3_compareBits_118 (by decide) ?_
    exact xv.lv (BX3_compareBits_123_ok hF) xsub_nil
  · replace hF := if_n c1 hF
    refine xe_lload dX3_compareBits_121 rfl ?_
    exact xv.lv (BX3_compareBits_123_ok hF) xsub_nil
def BX3_compareBits_82 (x0 : Int32) (h0 : Hp) : Option (Int32 × Hp) :=
  if ((x0 - x0 / 2 * 2) : Int32) = 1 then
    some ((-1), h0)
  else
    some (1, h0)
set_option maxRecDepth 100000 in
set_option maxHeartbeats 4000000 in
theorem BX3_compareBits_82_ok {G : xG} {l : Launch} {x0 : Int32} {h0 h1 : Hp} {r : Int32} (hF : BX3_compareBits_82 x0 h0 = some (r, h1)) : xv G l mX3_compareBits 2 0 0 82 [(0, false, .int x0)] [] h0 (xP mkI r h1) := by
  unfold BX3_compareBits_82 at hF
  refine xe_iload_n dX3_compareBits_82 rfl rfl ?_
  refine xe_iconst (v := 2) dX3_compareBits_83 (by decide) ?_
  refine xe_irem dX3_compareBits_84 (by decide) ?_
  refine xe_iconst (v := 1) dX3_compareBits_85 (by decide) ?_
  refine xe_icmp_ne (tgt := 93) dX3_compareBits_86 (by decide) (fun c2 => ?_) (fun c2 => ?_)
  · replace hF := if_p c2 hF
    refine xe_iconst (v := (-1)) dX3_compareBits_89 (by decide) ?_
    refine xe_goto (tgt := 94) dX3_compareBits_90 (by decide) ?_
    exact xe_ireturn dX3_compareBits_94 (xP_ret (mk := mkI) hF)
  · replace hF := if_n c2 hF
    refine xe_iconst (v := 1) dX3_compareBits_93 (by decide) ?_
    exact xe_ireturn dX3_compareBits_94 (xP_ret (mk := mkI) hF)
def BX3_compareBits_52 (x0 : Int32) (x1 : Int64) (x3 : Int64) (x6 : Int64) (s0 : Int64) (h0 : Hp) : Option (Int32 × Hp) :=
  if (s0 : Int64) < (x1 &&& x6) then
    BX3_compareBits_82 x0 h0
  else
    if (s0 : Int64) < (x3 &&& x6) then
      BX3_compareBits_82 x0 h0
    else
      if (x1 : Int64) < 0 then
        BX3_compareBits_109 x3 (x3 &&& x6) (0 - (x1 &&& x6)) h0
      else
        BX3_compareBits_109 x3 (x3 &&& x6) (x1 &&& x6) h0
set_option maxRecDepth 100000 in
set_option maxHeartbeats 4000000 in
theorem BX3_compareBits_52_ok {G : xG} {l : Launch} {x0 : Int32} {x1 : Int64} {x3 : Int64} {x6 : Int64} {s0 : Int64} {h0 h1 : Hp} {r : Int32} (hF : BX3_compareBits_52 x0 x1 x3 x6 s0 h0 = some (r, h1)) : xv G l mX3_compareBits 2 0 0 52 [(0, false, .int x0), (1, true, .long x1), (3, true, .long x3), (6, true, .long x6)] [.long s0] h0 (xP mkI r h1) := by
  unfold BX3_compareBits_52 at hF
  refine xe_lstore dX3_compareBits_52 (by decide) ?_
  refine xe_lload_n dX3_compareBits_54 rfl rfl ?_
  refine xe_lload dX3_compareBits_55 rfl ?_
  refine xe_land dX3_compareBits_57 ?_
  refine xe_lstore dX3_compareBits_58 (by decide) ?_
  refine xe_lload_n dX3_compareBits_60 rfl rfl ?_
  refine xe_lload dX3_compareBits_61 rfl ?_
  refine xe_land dX3_compareBits_63 ?_
  refine xe_lstore dX3_compareBits_64 (by decide) ?_
  refine xe_lload dX3_compareBits_66 rfl ?_
  refine xe_lload dX3_compareBits_68 rfl ?_
  refine xe_lcmp dX3_compareBits_70 ?_
  refine xe_lif_gt (tgt := 82) dX3_compareBits_71 (by decide) (fun c1 => ?_) (fun c1 => ?_)
  · replace hF := if_p c1 hF
    exact xv.lv (BX3_compareBits_82_ok hF) (xsub_cons rfl xsub_nil)
  · replace hF := if_n c1 hF
    refine xe_lload dX3_compareBits_74 rfl ?_
    refine xe_lload dX3_compareBits_76 rfl ?_
    refine xe_lcmp dX3_compareBits_78 ?_
    refine xe_lif_le (tgt := 95) dX3_compareBits_79 (by decide) (fun c2 => ?_) (fun c2 => ?_)
    · replace hF := if_p c2 hF
      exact xv.lv (BX3_compareBits_82_ok hF) (xsub_cons rfl xsub_nil)
    · replace hF := if_n c2 hF
      refine xe_lload_n dX3_compareBits_95 rfl rfl ?_
      refine xe_lconst (v := 0) dX3_compareBits_96 (by decide) ?_
      refine xe_lcmp dX3_compareBits_97 ?_
      refine xe_lif_ge (tgt := 107) dX3_compareBits_98 (by decide) (fun c3 => ?_) (fun c3 => ?_)
      · replace hF := if_p c3 hF
        refine xe_lload dX3_compareBits_101 rfl ?_
        refine xe_lneg dX3_compareBits_103 ?_
        refine xe_goto (tgt := 109) dX3_compareBits_104 (by decide) ?_
        exact xv.lv (BX3_compareBits_109_ok hF) (xsub_cons rfl (xsub_cons rfl xsub_nil))
      · replace hF := if_n c3 hF
        refine xe_lload dX3_compareBits_107 rfl ?_
        exact xv.lv (BX3_compareBits_109_ok hF) (xsub_cons rfl (xsub_cons rfl xsub_nil))
def BX3_compareBits_36 (x0 : Int32) (x1 : Int64) (x3 : Int64) (x5 : Int32) (s0 : Int64) (h0 : Hp) : Option (Int32 × Hp) :=
  if (x5 : Int32) = 0 then
    BX3_compareBits_52 x0 x1 x3 s0 2139095040 h0
  else
    BX3_compareBits_52 x0 x1 x3 s0 9218868437227405312 h0
set_option maxRecDepth 100000 in
set_option maxHeartbeats 4000000 in
theorem BX3_compareBits_36_ok {G : xG} {l : Launch} {x0 : Int32} {x1 : Int64} {x3 : Int64} {x5 : Int32} {s0 : Int64} {h0 h1 : Hp} {r : Int32} (hF : BX3_compareBits_36 x0 x1 x3 x5 s0 h0 = some (r, h1)) : xv G l mX3_compareBits 2 0 0 36 [(0, false, .int x0), (1, true, .long x1), (3, true, .long x3), (5, false, .int x5)] [.long s0] h0 (xP mkI r h1) := by
  unfold BX3_compareBits_36 at hF
  refine xe_lstore dX3_compareBits_36 (by decide) ?_
  refine xe_iload dX3_compareBits_38 rfl ?_
  refine xe_if_eq (tgt := 49) dX3_compareBits_40 (by decide) (fun c1 => ?_) (fun c1 => ?_)
  · replace hF := if_p c1 hF
    refine xe_ldc2 (v := 2139095040) dX3_compareBits_49 tw_803 ?_
    exact xv.lv (BX3_compareBits_52_ok hF) (xsub_cons rfl (xsub_cons rfl (xsub_cons rfl (xsub_cons rfl xsub_nil))))
  · replace hF := if_n c1 hF
    refine xe_ldc2 (v := 9218868437227405312) dX3_compareBits_43 tw_802 ?_
    refine xe_goto (tgt := 52) dX3_compareBits_46 (by decide) ?_
    exact xv.lv (BX3_compareBits_52_ok hF) (xsub_cons rfl (xsub_cons rfl (xsub_cons rfl (xsub_cons rfl xsub_nil))))
def BX3_compareBits_20 (x0 : Int32) (x1 : Int64) (x3 : Int64) (s0 : Int32) (h0 : Hp) : Option (Int32 × Hp) :=
  if (s0 : Int32) = 0 then
    BX3_compareBits_36 x0 x1 x3 s0 2147483647 h0
  else
    BX3_compareBits_36 x0 x1 x3 s0 9223372036854775807 h0
set_option maxRecDepth 100000 in
set_option maxHeartbeats 4000000 in
theorem BX3_compareBits_20_ok {G : xG} {l : Launch} {x0 : Int32} {x1 : Int64} {x3 : Int64} {s0 : Int32} {h0 h1 : Hp} {r : Int32} (hF : BX3_compareBits_20 x0 x1 x3 s0 h0 = some (r, h1)) : xv G l mX3_compareBits 2 0 0 20 [(0, false, .int x0), (1, true, .long x1), (3, true, .long x3)] [.int s0] h0 (xP mkI r h1) := by
  unfold BX3_compareBits_20 at hF
  refine xe_istore dX3_compareBits_20 (by decide) ?_
  refine xe_iload dX3_compareBits_22 rfl ?_
  refine xe_if_eq (tgt := 33) dX3_compareBits_24 (by decide) (fun c1 => ?_) (fun c1 => ?_)
  · replace hF := if_p c1 hF
    refine xe_ldc2 (v := 2147483647) dX3_compareBits_33 tw_801 ?_
    exact xv.lv (BX3_compareBits_36_ok hF) (xsub_cons rfl (xsub_cons rfl (xsub_cons rfl (xsub_cons rfl xsub_nil))))
  · replace hF := if_n c1 hF
    refine xe_ldc2 (v := 9223372036854775807) dX3_compareBits_27 tw_800 ?_
    refine xe_goto (tgt := 36) dX3_compareBits_30 (by decide) ?_
    exact xv.lv (BX3_compareBits_36_ok hF) (xsub_cons rfl (xsub_cons rfl (xsub_cons rfl (xsub_cons rfl xsub_nil))))
def FX3_compareBits (p0 : Int32) (p1 : Int64) (p2 : Int64) (h0 : Hp) : Option (Int32 × Hp) :=
  if (p0 : Int32) = 0 then
    cl (FX3_order p1 p2 h0) fun v2 h3 =>
    some (v2, h3)
  else
    if (2 : Int32) < p0 then
      BX3_compareBits_20 p0 p1 p2 1 h0
    else
      BX3_compareBits_20 p0 p1 p2 0 h0
set_option maxRecDepth 100000 in
set_option maxHeartbeats 4000000 in
theorem FX3_compareBits_ok {G : xG} {l : Launch} {p0 : Int32} {p1 : Int64} {p2 : Int64} {h0 h1 : Hp} {r : Int32} (hF : FX3_compareBits p0 p1 p2 h0 = some (r, h1)) : xc G l mX3_compareBits 2 0 0 [.int p0, .long p1, .long p2] h0 (xP mkI r h1) := by
  refine xo_I [.inl _, .inr (.inl _), .inr (.inl _)] (by decide) (Nat.le_of_ble_eq_true rfl) rfl ?_
  show xv _ _ _ _ _ _ _ [(0, false, .int p0), (1, true, .long p1), (3, true, .long p2)] _ _ _
  unfold FX3_compareBits at hF
  refine xe_iload_n dX3_compareBits_0 rfl rfl ?_
  refine xe_if_ne (tgt := 10) dX3_compareBits_1 (by decide) (fun c1 => ?_) (fun c1 => ?_)
  · replace hF := if_p c1 hF
    refine xe_lload_n dX3_compareBits_4 rfl rfl ?_
    refine xe_lload_n dX3_compareBits_5 rfl rfl ?_
    obtain ⟨v2, h3, o4, hF⟩ := cl_inv hF
    refine xz (xq_callS (As := [.long _, .long _]) (rest := []) dX3_compareBits_6 mk_X3_order ⟨tw_797, tw_798⟩ (FX3_order_ok o4) xP_q (by decide) (by decide) rfl rfl ?_)
    exact xe_ireturn dX3_compareBits_9 (xP_ret (mk := mkI) hF)
  · replace hF := if_n c1 hF
    refine xe_iload_n dX3_compareBits_10 rfl rfl ?_
    refine xe_iconst (v := 2) dX3_compareBits_11 (by decide) ?_
    refine xe_icmp_le (tgt := 19) dX3_compareBits_12 (by decide) (fun c5 => ?_) (fun c5 => ?_)
    · replace hF := if_p c5 hF
      refine xe_iconst (v := 1) dX3_compareBits_15 (by decide) ?_
      refine xe_goto (tgt := 20) dX3_compareBits_16 (by decide) ?_
      exact xv.lv (BX3_compareBits_20_ok hF) (xsub_cons rfl (xsub_cons rfl (xsub_cons rfl xsub_nil)))
    · replace hF := if_n c5 hF
      refine xe_iconst (v := 0) dX3_compareBits_19 (by decide) ?_
      exact xv.lv (BX3_compareBits_20_ok hF) (xsub_cons rfl (xsub_cons rfl (xsub_cons rfl xsub_nil)))
/-! SeldomOps$Numbers.narrow(II)I -/
def FX3_narrow (p0 : Int32) (p1 : Int32) (h0 : Hp) : Option (Int32 × Hp) :=
  if (p0 : Int32) = 5 then
    some ((Int32.toInt8 p1).toInt32, h0)
  else
  if (p0 : Int32) = 6 then
    some ((Int32.toInt16 p1).toInt32, h0)
  else
  some ((Int32.toUInt32 p1 % 65536).toInt32, h0)
set_option maxRecDepth 100000 in
set_option maxHeartbeats 4000000 in
theorem FX3_narrow_ok {G : xG} {l : Launch} {p0 : Int32} {p1 : Int32} {h0 h1 : Hp} {r : Int32} (hF : FX3_narrow p0 p1 h0 = some (r, h1)) : xc G l mX3_narrow 1 0 0 [.int p0, .int p1] h0 (xP mkI r h1) := by
  refine xo_I [.inl _, .inl _] (by decide) (Nat.le_of_ble_eq_true rfl) rfl ?_
  show xv _ _ _ _ _ _ _ [(0, false, .int p0), (1, false, .int p1)] _ _ _
  unfold FX3_narrow at hF
  refine xe_iload_n dX3_narrow_0 rfl rfl ?_
  refine xs_lcase (j := 5) (off := 27) (tgt := 28) dX3_narrow_1 (by decide) (by decide) (by decide) (fun c1 => ?_) (fun c1 => ?_)
  · replace hF := if_p c1 hF
    refine xe_iload_n dX3_narrow_28 rfl rfl ?_
    refine xe_i2b dX3_narrow_29 ?_
    exact xe_ireturn dX3_narrow_30 (xP_ret (mk := mkI) hF)
  replace hF := if_n c1 hF
  refine xs_lcase (j := 6) (off := 30) (tgt := 31) dX3_narrow_1 (by decide) (by decide) (by decide) (fun c2 => ?_) (fun c2 => ?_)
  · replace hF := if_p c2 hF
    refine xe_iload_n dX3_narrow_31 rfl rfl ?_
    refine xe_i2s dX3_narrow_32 ?_
    exact xe_ireturn dX3_narrow_33 (xP_ret (mk := mkI) hF)
  replace hF := if_n c2 hF
  refine xs_ldflt (tgt := 34) dX3_narrow_1 (by decide) (by show Op.lookupswitch.offset [(5, 27), (6, 30)] (33) _ = _; rw [lv_osw c1 (by decide), lv_osw c2 (by decide)]; rfl) (by decide) ?_
  refine xe_iload_n dX3_narrow_34 rfl rfl ?_
  refine xe_i2c dX3_narrow_35 ?_
  exact xe_ireturn dX3_narrow_36 (xP_ret (mk := mkI) hF)
/-! SeldomOps$Numbers.convert(IJ)J -/
def FX3_convert (p0 : Int32) (p1 : Int64) (h0 : Hp) : Option (Int64 × Hp) :=
  if (p0 : Int32) = 4 then
    some (p1, h0)
  else
    if (p0 : Int32) = 3 then
      some ((Int32.toInt64 (Int64.toInt32 p1)), h0)
    else
      cl (FX3_narrow (5 + p0) (Int64.toInt32 p1) h0) fun v3 h4 =>
      some ((Int32.toInt64 v3), h4)
set_option maxRecDepth 100000 in
set_option maxHeartbeats 4000000 in
theorem FX3_convert_ok {G : xG} {l : Launch} {p0 : Int32} {p1 : Int64} {h0 h1 : Hp} {r : Int64} (hF : FX3_convert p0 p1 h0 = some (r, h1)) : xc G l mX3_convert 2 0 0 [.int p0, .long p1] h0 (xP mkL r h1) := by
  refine xo_L [.inl _, .inr (.inl _)] (by decide) (Nat.le_of_ble_eq_true rfl) rfl ?_
  show xv _ _ _ _ _ _ _ [(0, false, .int p0), (1, true, .long p1)] _ _ _
  unfold FX3_convert at hF
  refine xe_iload_n dX3_convert_0 rfl rfl ?_
  refine xe_iconst (v := 4) dX3_convert_1 (by decide) ?_
  refine xe_icmp_ne (tgt := 7) dX3_convert_2 (by decide) (fun c1 => ?_) (fun c1 => ?_)
  · replace hF := if_p c1 hF
    refine xe_lload_n dX3_convert_5 rfl rfl ?_
    exact xe_lreturn dX3_convert_6 (xP_ret (mk := mkL) hF)
  · replace hF := if_n c1 hF
    refine xe_iload_n dX3_convert_7 rfl rfl ?_
    refine xe_iconst (v := 3) dX3_convert_8 (by decide) ?_
    refine xe_icmp_ne (tgt := 18) dX3_convert_9 (by decide) (fun c2 => ?_) (fun c2 => ?_)
    · replace hF := if_p c2 hF
      refine xe_lload_n dX3_convert_12 rfl rfl ?_
      refine xe_l2i dX3_convert_13 ?_
      refine xe_i2l dX3_convert_14 ?_
      refine xe_goto (tgt := 27) dX3_convert_15 (by decide) ?_
      exact xe_lreturn dX3_convert_27 (xP_ret (mk := mkL) hF)
    · replace hF := if_n c2 hF
      refine xe_iconst (v := 5) dX3_convert_18 (by decide) ?_
      refine xe_iload_n dX3_convert_19 rfl rfl ?_
      refine xe_iadd dX3_convert_20 ?_
      refine xe_lload_n dX3_convert_21 rfl rfl ?_
      refine xe_l2i dX3_convert_22 ?_
      obtain ⟨v3, h4, o5, hF⟩ := cl_inv hF
      refine xz (xq_callS (As := [.int _, .int _]) (rest := []) dX3_convert_23 mk_X3_narrow ⟨tw_790, tw_791⟩ (FX3_narrow_ok o5) xP_q (by decide) (by decide) rfl rfl ?_)
      refine xe_i2l dX3_convert_26 ?_
      exact xe_lreturn dX3_convert_27 (xP_ret (mk := mkL) hF)
/-! SeldomOps$Numbers.passes(II)Z -/
def FX3_passes (p0 : Int32) (p1 : Int32) (h0 : Hp) : Option (Int32 × Hp) :=
  if (p0 : Int32) = 0 then
    if (p1 : Int32) = 0 then
      bz 1 (some (1, h0))
    else
      bz 0 (some (0, h0))
  else
  if (p0 : Int32) = 1 then
    if (p1 : Int32) = 0 then
      bz 0 (some (0, h0))
    else
      bz 1 (some (1, h0))
  else
  if (p0 : Int32) = 2 then
    if (p1 : Int32) < 0 then
      bz 1 (some (1, h0))
    else
      bz 0 (some (0, h0))
  else
  if (p0 : Int32) = 3 then
    if (p1 : Int32) < 0 then
      bz 0 (some (0, h0))
    else
      bz 1 (some (1, h0))
  else
  if (p0 : Int32) = 4 then
    if (0 : Int32) < p1 then
      bz 1 (some (1, h0))
    else
      bz 0 (some (0, h0))
  else
  if (0 : Int32) < p1 then
    bz 0 (some (0, h0))
  else
    bz 1 (some (1, h0))
set_option maxRecDepth 100000 in
set_option maxHeartbeats 4000000 in
theorem FX3_passes_ok {G : xG} {l : Launch} {p0 : Int32} {p1 : Int32} {h0 h1 : Hp} {r : Int32} (hF : FX3_passes p0 p1 h0 = some (r, h1)) : xc G l mX3_passes 1 0 0 [.int p0, .int p1] h0 (xPZ r h1) := by
  refine xo_Z [.inl _, .inl _] (by decide) (Nat.le_of_ble_eq_true rfl) rfl ?_
  show xv _ _ _ _ _ _ _ [(0, false, .int p0), (1, false, .int p1)] _ _ _
  unfold FX3_passes at hF
  refine xe_iload_n dX3_passes_0 rfl rfl ?_
  refine xs_case (j := 0) (tgt := 36) dX3_passes_1 (by decide) (by decide) rfl (by decide) (fun c1 => ?_) (fun c1 => ?_)
  · replace hF := if_p c1 hF
    refine xe_iload_n dX3_passes_36 rfl rfl ?_
    refine xe_if_ne (tgt := 44) dX3_passes_37 (by decide) (fun c2 => ?_) (fun c2 => ?_)
    · replace hF := if_p c2 hF
      refine xe_iconst (v := 1) dX3_passes_40 (by decide) ?_
      refine xe_goto (tgt := 45) dX3_passes_41 (by decide) ?_
      obtain ⟨z3, hF⟩ := bz_inv hF
      exact xe_ireturn dX3_passes_45 (xPZ_ret z3 hF)
    · replace hF := if_n c2 hF
      refine xe_iconst (v := 0) dX3_passes_44 (by decide) ?_
      obtain ⟨z4, hF⟩ := bz_inv hF
      exact xe_ireturn dX3_passes_45 (xPZ_ret z4 hF)
  replace hF := if_n c1 hF
  refine xs_case (j := 1) (tgt := 46) dX3_passes_1 (by decide) (by decide) rfl (by decide) (fun c5 => ?_) (fun c5 => ?_)
  · replace hF := if_p c5 hF
    refine xe_iload_n dX3_passes_46 rfl rfl ?_
    refine xe_if_eq (tgt := 54) dX3_passes_47 (by decide) (fun c6 => ?_) (fun c6 => ?_)
    · replace hF := if_p c6 hF
      refine xe_iconst (v := 0) dX3_passes_54 (by decide) ?_
      obtain ⟨z7, hF⟩ := bz_inv hF
      exact xe_ireturn dX3_passes_55 (xPZ_ret z7 hF)
    · replace hF := if_n c6 hF
      refine xe_iconst (v := 1) dX3_passes_50 (by decide) ?_
      refine xe_goto (tgt := 55) dX3_passes_51 (by decide) ?_
      obtain ⟨z8, hF⟩ := bz_inv hF
      exact xe_ireturn dX3_passes_55 (xPZ_ret z8 hF)
  replace hF := if_n c5 hF
  refine xs_case (j := 2) (tgt := 56) dX3_passes_1 (by decide) (by decide) rfl (by decide) (fun c9 => ?_) (fun c9 => ?_)
  · replace hF := if_p c9 hF
    refine xe_iload_n dX3_passes_56 rfl rfl ?_
    refine xe_if_ge (tgt := 64) dX3_passes_57 (by decide) (fun c10 => ?_) (fun c10 => ?_)
    · replace hF := if_p c10 hF
      refine xe_iconst (v := 1) dX3_passes_60 (by decide) ?_
      refine xe_goto (tgt := 65) dX3_passes_61 (by decide) ?_
      obtain ⟨z11, hF⟩ := bz_inv hF
      exact xe_ireturn dX3_passes_65 (xPZ_ret z11 hF)
    · replace hF := if_n c10 hF
      refine xe_iconst (v := 0) dX3_passes_64 (by decide) ?_
      obtain ⟨z12, hF⟩ := bz_inv hF
      exact xe_ireturn dX3_passes_65 (xPZ_ret z12 hF)
  replace hF := if_n c9 hF
  refine xs_case (j := 3) (tgt := 66) dX3_passes_1 (by decide) (by decide) rfl (by decide) (fun c13 => ?_) (fun c13 => ?_)
  · replace hF := if_p c13 hF
    refine xe_iload_n dX3_passes_66 rfl rfl ?_
    refine xe_if_lt (tgt := 74) dX3_passes_67 (by decide) (fun c14 => ?_) (fun c14 => ?_)
    · replace hF := if_p c14 hF
      refine xe_iconst (v := 0) dX3_passes_74 (by decide) ?_
      obtain ⟨z15, hF⟩ := bz_inv hF
      exact xe_ireturn dX3_passes_75 (xPZ_ret z15 hF)
    · replace hF := if_n c14 hF
      refine xe_iconst (v := 1) dX3_passes_70 (by decide) ?_
      refine xe_goto (tgt := 75) dX3_passes_71 (by decide) ?_
      obtain ⟨z16, hF⟩ := bz_inv hF
      exact xe_ireturn dX3_passes_75 (xPZ_ret z16 hF)
  replace hF := if_n c13 hF
  refine xs_case (j := 4) (tgt := 76) dX3_passes_1 (by decide) (by decide) rfl (by decide) (fun c17 => ?_) (fun c17 => ?_)
  · replace hF := if_p c17 hF
    refine xe_iload_n dX3_passes_76 rfl rfl ?_
    refine xe_if_le (tgt := 84) dX3_passes_77 (by decide) (fun c18 => ?_) (fun c18 => ?_)
    · replace hF := if_p c18 hF
      refine xe_iconst (v := 1) dX3_passes_80 (by decide) ?_
      refine xe_goto (tgt := 85) dX3_passes_81 (by decide) ?_
      obtain ⟨z19, hF⟩ := bz_inv hF
      exact xe_ireturn dX3_passes_85 (xPZ_ret z19 hF)
    · replace hF := if_n c18 hF
      refine xe_iconst (v := 0) dX3_passes_84 (by decide) ?_
      obtain ⟨z20, hF⟩ := bz_inv hF
      exact xe_ireturn dX3_passes_85 (xPZ_ret z20 hF)
  replace hF := if_n c17 hF
  refine xs_rest (tgt := 86) [0, 1, 2, 3, 4] dX3_passes_1 (by decide) (List.forall_mem_cons.mpr ⟨c1, List.forall_mem_cons.mpr ⟨c5, List.forall_mem_cons.mpr ⟨c9, List.forall_mem_cons.mpr ⟨c13, List.forall_mem_cons.mpr ⟨c17, fun _ h => by cases h⟩⟩⟩⟩⟩) (by decide) ?_
  refine xe_iload_n dX3_passes_86 rfl rfl ?_
  refine xe_if_gt (tgt := 94) dX3_passes_87 (by decide) (fun c21 => ?_) (fun c21 => ?_)
  · replace hF := if_p c21 hF
    refine xe_iconst (v := 0) dX3_passes_94 (by decide) ?_
    obtain ⟨z22, hF⟩ := bz_inv hF
    exact xe_ireturn dX3_passes_95 (xPZ_ret z22 hF)
  · replace hF := if_n c21 hF
    refine xe_iconst (v := 1) dX3_passes_90 (by decide) ?_
    refine xe_goto (tgt := 95) dX3_passes_91 (by decide) ?_
    obtain ⟨z23, hF⟩ := bz_inv hF
    exact xe_ireturn dX3_passes_95 (xPZ_ret z23 hF)
/-! SeldomOps$Program.addConstant(J)I -/
def FX4_addConstant (p0 : Option Nat) (p1 : Int64) (h0 : Hp) : Option (Int32 × Hp) :=
  gI h0 p0 3 3 fun v1 =>
  gR h0 p0 3 2 fun v5 =>
  sL h0 v5 v1 p1 fun h9 =>
  gI h9 p0 3 3 fun v16 =>
  pI h9 p0 3 3 (v16 + 1) fun h23 =>
  some (v1, h23)
set_option maxRecDepth 100000 in
set_option maxHeartbeats 4000000 in
theorem FX4_addConstant_ok {G : xG} {l : Launch} {p0 : Option Nat} {p1 : Int64} {h0 h1 : Hp} {r : Int32} (hF : FX4_addConstant p0 p1 h0 = some (r, h1)) : xc G l mX4_addConstant 1 0 0 [va_rf p0, .long p1] h0 (xP mkI r h1) := by
  refine xo_I [.inr (.inr _), .inr (.inl _)] (by decide) (Nat.le_of_ble_eq_true rfl) rfl ?_
  show xv _ _ _ _ _ _ _ [(0, false, va_rf p0), (1, true, .long p1)] _ _ _
  unfold FX4_addConstant at hF
  refine xe_aload_n dX4_addConstant_0 rfl rfl ?_
  obtain ⟨a2, e3, t4, hF⟩ := gI_inv hF
  refine xq_getI dX4_addConstant_1 fl_Program_25 xk_3 e3 t4 rfl ?_
  refine xe_istore_n dX4_addConstant_4 rfl (by decide) ?_
  refine xe_aload_n dX4_addConstant_5 rfl rfl ?_
  obtain ⟨a6, e7, t8, hF⟩ := gR_inv hF
  refine xq_getR dX4_addConstant_6 fl_Program_21 xk_3 e7 t8 rfl ?_
  refine xe_iload_n dX4_addConstant_9 rfl rfl ?_
  refine xe_lload_n dX4_addConstant_10 rfl rfl ?_
  obtain ⟨a10, n11, e12, t13, b14, hF⟩ := sL_inv hF
  refine xq_last dX4_addConstant_11 e12 t13 b14 ?_
  refine xe_aload_n dX4_addConstant_12 rfl rfl ?_
  refine xe_dup dX4_addConstant_13 (va_rf_cat _) ?_
  obtain ⟨a17, e18, t19, hF⟩ := gI_inv hF
  refine xq_getI dX4_addConstant_14 fl_Program_25 xk_3 e18 t19 rfl ?_
  refine xe_iconst (v := 1) dX4_addConstant_17 (by decide) ?_
  refine xe_iadd dX4_addConstant_18 ?_
  obtain ⟨a20, e21, t22, hF⟩ := pI_inv hF
  refine xq_putI dX4_addConstant_19 fl_Program_25 xk_3 (by decide) (fun z => by cases z) e21 t22 (Or.inl rfl) ?_
  refine xe_iload_n dX4_addConstant_22 rfl rfl ?_
  exact xe_ireturn dX4_addConstant_23 (xP_ret (mk := mkI) hF)
/-! SeldomOps$Program.addMethod(I)I -/
def FX4_addMethod (p0 : Option Nat) (p1 : Int32) (h0 : Hp) : Option (Int32 × Hp) :=
  gI h0 p0 3 1 fun v1 =>
  gR h0 p0 3 0 fun v5 =>
  nA h0 (.inl 2) fun v9 h10 =>
  nz (some v9) none <|
  cl (FX2_init (some v9) p1 h10) fun v13 h14 =>
  sR h14 v5 "SeldomOps$Method" 2 v1 (some v9) fun h18 =>
  gI h18 p0 3 1 fun v27 =>
  pI h18 p0 3 1 (v27 + 1) fun h34 =>
  some (v1, h34)
set_option maxRecDepth 100000 in
set_option maxHeartbeats 4000000 in
theorem FX4_addMethod_ok {G : xG} {l : Launch} {p0 : Option Nat} {p1 : Int32} {h0 h1 : Hp} {r : Int32} (hF : FX4_addMethod p0 p1 h0 = some (r, h1)) : xc G l mX4_addMethod 3 14 2032 [va_rf p0, .int p1] h0 (xP mkI r h1) := by
  refine xo_I [.inr (.inr _), .inl _] (by decide) (Nat.le_of_ble_eq_true rfl) rfl ?_
  show xv _ _ _ _ _ _ _ [(0, false, va_rf p0), (1, false, .int p1)] _ _ _
  unfold FX4_addMethod at hF
  refine xe_aload_n dX4_addMethod_0 rfl rfl ?_
  obtain ⟨a2, e3, t4, hF⟩ := gI_inv hF
  refine xq_getI dX4_addMethod_1 fl_Program_17 xk_3 e3 t4 rfl ?_
  refine xe_istore_n dX4_addMethod_4 rfl (by decide) ?_
  refine xe_aload_n dX4_addMethod_5 rfl rfl ?_
  obtain ⟨a6, e7, t8, hF⟩ := gR_inv hF
  refine xq_getR dX4_addMethod_6 fl_Program_11 xk_3 e7 t8 rfl ?_
  refine xe_iload_n dX4_addMethod_9 rfl rfl ?_
  obtain ⟨v9, h10, e11, e12, hF⟩ := nA_inv hF
  refine xv.weaken (xn_new (k := 13) (n := 2016) dX4_addMethod_10 xk_2 (by decide) nw_Program_9 e11 e12 ?_) (by first | decide | omega) (by first | decide | (simp only [xnf]; omega))
  refine xe_dup dX4_addMethod_13 (va_rf_cat _) ?_
  refine xe_iload_n dX4_addMethod_14 rfl rfl ?_
  obtain ⟨a17, e16, hF⟩ := nzn_inv hF
  obtain ⟨v13, h14, o15, hF⟩ := cl_inv hF
  refine xv.weaken (xq_callI (k := 0) (n := 0) (As := [.int _]) (rest := [va_rf _, .int _, va_rf _]) dX4_addMethod_15 mk_X2_init ⟨rfl, rfl⟩ ⟨tw_275, tw_276⟩ e16 (FX2_init_ok o15) xP_q (by decide) (Nat.le_trans (cs_r (cs_i (cs_r cs_0))) (by decide)) rfl rfl ?_) (by first | decide | omega) (by first | decide | omega)
  obtain ⟨a19, n20, b21, e22, t23, f24, u25, w26, hF⟩ := sR_inv hF
  refine xq_aast dX4_addMethod_18 e22 t23 (by decide) u25 w26 rfl f24 ?_
  refine xe_aload_n dX4_addMethod_19 rfl rfl ?_
  refine xe_dup dX4_addMethod_20 (va_rf_cat _) ?_
  obtain ⟨a28, e29, t30, hF⟩ := gI_inv hF
  refine xq_getI dX4_addMethod_21 fl_Program_17 xk_3 e29 t30 rfl ?_
  refine xe_iconst (v := 1) dX4_addMethod_24 (by decide) ?_
  refine xe_iadd dX4_addMethod_25 ?_
  obtain ⟨a31, e32, t33, hF⟩ := pI_inv hF
  refine xq_putI dX4_addMethod_26 fl_Program_17 xk_3 (by decide) (fun z => by cases z) e32 t33 (Or.inl rfl) ?_
  refine xe_iload_n dX4_addMethod_29 rfl rfl ?_
  exact xe_ireturn dX4_addMethod_30 (xP_ret (mk := mkI) hF)
/-! SeldomOps$Table.<init>(ZII)V -/
def FX7_init (p0 : Option Nat) (p1 : Int32) (p2 : Int32) (p3 : Int32) (h0 : Hp) : Option (Unit × Hp) :=
  nz p0 none <|
  nA h0 (.inr (.int, 8)) fun v3 h4 =>
  pR h4 p0 6 3 (some v3) fun h10 =>
  nA h10 (.inr (.int, 8)) fun v12 h13 =>
  pR h13 p0 6 4 (some v12) fun h19 =>
  pI h19 p0 6 5 0 fun h24 =>
  pZ h24 p0 6 0 p1 fun h29 =>
  pI h29 p0 6 1 p2 fun h34 =>
  pI h34 p0 6 2 p3 fun h39 =>
  some ((), h39)
set_option maxRecDepth 100000 in
set_option maxHeartbeats 4000000 in
theorem FX7_init_ok {G : xG} {l : Launch} {p0 : Option Nat} {p1 : Int32} {p2 : Int32} {p3 : Int32} {h0 h1 : Hp} {r : Unit} (hF : FX7_init p0 p1 p2 p3 h0 = some (r, h1)) : xc G l mX7_init 1 2 16 [va_rf p0, .int p1, .int p2, .int p3] h0 (xP mkV r h1) := by
  refine xo_V [.inr (.inr _), .inl _, .inl _, .inl _] (by decide) (Nat.le_of_ble_eq_true rfl) rfl ?_
  show xv _ _ _ _ _ _ _ [(0, false, va_rf p0), (1, false, .int p1), (2, false, .int p2), (3, false, .int p3)] _ _ _
  unfold FX7_init at hF
  refine xe_aload_n dX7_init_0 rfl rfl ?_
  obtain ⟨a2, e1, hF⟩ := nzn_inv hF
  refine xq_objInit dX7_init_1 ⟨tw_437, tw_22, tw_23⟩ (by decide) (by decide) e1 ?_
  refine xe_aload_n dX7_init_4 rfl rfl ?_
  refine xe_bipush (v := 8) dX7_init_5 (by decide) ?_
  obtain ⟨v3, h4, e5, e6, hF⟩ := nA_inv hF
  refine xv.weaken (xn_newa (t := .int) (N := 8) (k := 1) (n := 8) dX7_init_7 rfl (Or.inl rfl) tw_153 (by decide) (by decide) (by decide) e5 e6 ?_) (by first | decide | omega) (by first | decide | (simp only [xnf]; omega))
  obtain ⟨a7, e8, t9, hF⟩ := pR_inv hF
  refine xq_putR dX7_init_9 fl_Table_9 xk_6 (by decide) (fun _ => ⟨rfl, _, _, rfl⟩) e8 t9 (Or.inr ⟨_, rfl⟩) ?_
  refine xe_aload_n dX7_init_12 rfl rfl ?_
  refine xe_bipush (v := 8) dX7_init_13 (by decide) ?_
  obtain ⟨v12, h13, e14, e15, hF⟩ := nA_inv hF
  refine xv.weaken (xn_newa (t := .int) (N := 8) (k := 0) (n := 0) dX7_init_15 rfl (Or.inl rfl) tw_153 (by decide) (by decide) (by decide) e14 e15 ?_) (by first | decide | omega) (by first | decide | (simp only [xnf]; omega))
  obtain ⟨a16, e17, t18, hF⟩ := pR_inv hF
  refine xq_putR dX7_init_17 fl_Table_15 xk_6 (by decide) (fun _ => ⟨rfl, _, _, rfl⟩) e17 t18 (Or.inr ⟨_, rfl⟩) ?_
  refine xe_aload_n dX7_init_20 rfl rfl ?_
  refine xe_iconst (v := 0) dX7_init_21 (by decide) ?_
  obtain ⟨a21, e22, t23, hF⟩ := pI_inv hF
  refine xq_putI dX7_init_22 fl_Table_18 xk_6 (by decide) (fun z => by cases z) e22 t23 (Or.inl rfl) ?_
  refine xe_aload_n dX7_init_25 rfl rfl ?_
  refine xe_iload_n dX7_init_26 rfl rfl ?_
  obtain ⟨a26, e27, t28, z30, hF⟩ := pZ_inv hF
  refine xq_putI dX7_init_27 fl_Table_22 xk_6 (by decide) (fun _ => ⟨rfl, _, _, rfl⟩) e27 t28 (Or.inr ⟨rfl, z30⟩) ?_
  refine xe_aload_n dX7_init_30 rfl rfl ?_
  refine xe_iload_n dX7_init_31 rfl rfl ?_
  obtain ⟨a31, e32, t33, hF⟩ := pI_inv hF
  refine xq_putI dX7_init_32 fl_Table_26 xk_6 (by decide) (fun _ => ⟨rfl, _, _, rfl⟩) e32 t33 (Or.inl rfl) ?_
  refine xe_aload_n dX7_init_35 rfl rfl ?_
  refine xe_iload_n dX7_init_36 rfl rfl ?_
  obtain ⟨a36, e37, t38, hF⟩ := pI_inv hF
  refine xq_putI dX7_init_37 fl_Table_29 xk_6 (by decide) (fun _ => ⟨rfl, _, _, rfl⟩) e37 t38 (Or.inl rfl) ?_
  exact xe_return dX7_init_40 (xP_ret (mk := mkV) hF)
/-! SeldomOps$Program.addTable(ZII)I -/
def FX4_addTable (p0 : Option Nat) (p1 : Int32) (p2 : Int32) (p3 : Int32) (h0 : Hp) : Option (Int32 × Hp) :=
  gI h0 p0 3 5 fun v1 =>
  gR h0 p0 3 4 fun v5 =>
  nA h0 (.inl 6) fun v9 h10 =>
  nz (some v9) none <|
  cl (FX7_init (some v9) p1 p2 p3 h10) fun v13 h14 =>
  sR h14 v5 "SeldomOps$Table" 6 v1 (some v9) fun h18 =>
  gI h18 p0 3 5 fun v27 =>
  pI h18 p0 3 5 (v27 + 1) fun h34 =>
  some (v1, h34)
set_option maxRecDepth 100000 in
set_option maxHeartbeats 4000000 in
theorem FX4_addTable_ok {G : xG} {l : Launch} {p0 : Option Nat} {p1 : Int32} {p2 : Int32} {p3 : Int32} {h0 h1 : Hp} {r : Int32} (hF : FX4_addTable p0 p1 p2 p3 h0 = some (r, h1)) : xc G l mX4_addTable 2 3 22 [va_rf p0, .int p1, .int p2, .int p3] h0 (xP mkI r h1) := by
  refine xo_I [.inr (.inr _), .inl _, .inl _, .inl _] (by decide) (Nat.le_of_ble_eq_true rfl) rfl ?_
  show xv _ _ _ _ _ _ _ [(0, false, va_rf p0), (1, false, .int p1), (2, false, .int p2), (3, false, .int p3)] _ _ _
  unfold FX4_addTable at hF
  refine xe_aload_n dX4_addTable_0 rfl rfl ?_
  obtain ⟨a2, e3, t4, hF⟩ := gI_inv hF
  refine xq_getI dX4_addTable_1 fl_Program_34 xk_3 e3 t4 rfl ?_
  refine xe_istore dX4_addTable_4 (by decide) ?_
  refine xe_aload_n dX4_addTable_6 rfl rfl ?_
  obtain ⟨a6, e7, t8, hF⟩ := gR_inv hF
  refine xq_getR dX4_addTable_7 fl_Program_30 xk_3 e7 t8 rfl ?_
  refine xe_iload dX4_addTable_10 rfl ?_
  obtain ⟨v9, h10, e11, e12, hF⟩ := nA_inv hF
  refine xv.weaken (xn_new (k := 2) (n := 16) dX4_addTable_12 xk_6 (by decide) nw_Program_28 e11 e12 ?_) (by first | decide | omega) (by first | decide | (simp only [xnf]; omega))
  refine xe_dup dX4_addTable_15 (va_rf_cat _) ?_
  refine xe_iload_n dX4_addTable_16 rfl rfl ?_
  refine xe_iload_n dX4_addTable_17 rfl rfl ?_
  refine xe_iload_n dX4_addTable_18 rfl rfl ?_
  obtain ⟨a17, e16, hF⟩ := nzn_inv hF
  obtain ⟨v13, h14, o15, hF⟩ := cl_inv hF
  refine xv.weaken (xq_callI (k := 0) (n := 0) (As := [.int _, .int _, .int _]) (rest := [va_rf _, .int _, va_rf _]) dX4_addTable_19 mk_X7_init ⟨rfl, rfl⟩ ⟨tw_434, tw_435⟩ e16 (FX7_init_ok o15) xP_q (by decide) (Nat.le_trans (cs_r (cs_i (cs_r cs_0))) (by decide)) rfl rfl ?_) (by first | decide | omega) (by first | decide | omega)
  obtain ⟨a19, n20, b21, e22, t23, f24, u25, w26, hF⟩ := sR_inv hF
  refine xq_aast dX4_addTable_22 e22 t23 (by decide) u25 w26 rfl f24 ?_
  refine xe_aload_n dX4_addTable_23 rfl rfl ?_
  refine xe_dup dX4_addTable_24 (va_rf_cat _) ?_
  obtain ⟨a28, e29, t30, hF⟩ := gI_inv hF
  refine xq_getI dX4_addTable_25 fl_Program_34 xk_3 e29 t30 rfl ?_
  refine xe_iconst (v := 1) dX4_addTable_28 (by decide) ?_
  refine xe_iadd dX4_addTable_29 ?_
  obtain ⟨a31, e32, t33, hF⟩ := pI_inv hF
  refine xq_putI dX4_addTable_30 fl_Program_34 xk_3 (by decide) (fun z => by cases z) e32 t33 (Or.inl rfl) ?_
  refine xe_iload dX4_addTable_33 rfl ?_
  exact xe_ireturn dX4_addTable_35 (xP_ret (mk := mkI) hF)
/-! SeldomOps$Program.allFaultless()Z -/
def BX4_allFaultless_2 : Nat → Option Nat → Int32 → Hp → Option (Int32 × Hp)
  | 0, _, _, _ => none
  | n + 1, x0, x1, h0 =>
    gI h0 x0 3 1 fun v1 =>
    if (x1 : Int32) < v1 then
      gR h0 x0 3 0 fun v6 =>
      aR h0 v6 "SeldomOps$Method" x1 fun v10 =>
      gI h0 v10 2 15 fun v16 =>
      if (v16 : Int32) = 0 then
        bz 0 (some (0, h0))
      else
        BX4_allFaultless_2 n x0 (x1 + 1) h0
    else
      bz 1 (some (1, h0))
set_option maxRecDepth 100000 in
set_option maxHeartbeats 4000000 in
theorem BX4_allFaultless_2_ok {G : xG} {l : Launch} : ∀ (n : Nat) {x0 : Option Nat} {x1 : Int32} {h0 h1 : Hp} {r : Int32} (hF : BX4_allFaultless_2 n x0 x1 h0 = some (r, h1)), xv G l mX4_allFaultless 1 0 0 2 [(0, false, va_rf x0), (1, false, .int x1)] [] h0 (xPZ r h1) := by
  intro n
  induction n with
  | zero => intro x0 x1 h0 h1 r hF; cases hF
  | succ n ih =>
    intro x0 x1 h0 h1 r hF
    unfold BX4_allFaultless_2 at hF
    refine xe_iload_n dX4_allFaultless_2 rfl rfl ?_
    refine xe_aload_n dX4_allFaultless_3 rfl rfl ?_
    obtain ⟨a2, e3, t4, hF⟩ := gI_inv hF
    refine xq_getI dX4_allFaultless_4 fl_Program_17 xk_3 e3 t4 rfl ?_
    refine xe_icmp_ge (tgt := 30) dX4_allFaultless_7 (by decide) (fun c5 => ?_) (fun c5 => ?_)
    · replace hF := if_p c5 hF
      refine xe_aload_n dX4_allFaultless_10 rfl rfl ?_
      obtain ⟨a7, e8, t9, hF⟩ := gR_inv hF
      refine xq_getR dX4_allFaultless_11 fl_Program_11 xk_3 e8 t9 rfl ?_
      refine xe_iload_n dX4_allFaultless_14 rfl rfl ?_
      obtain ⟨a11, n12, e13, t14, b15, hF⟩ := aR_inv hF
      refine xq_aald dX4_allFaultless_15 e13 t14 (by decide) b15 ?_
      obtain ⟨a17, e18, t19, hF⟩ := gI_inv hF
      refine xq_getI dX4_allFaultless_16 fl_Program_51 xk_2 e18 t19 rfl ?_
      refine xe_if_ne (tgt := 24) dX4_allFaultless_19 (by decide) (fun c20 => ?_) (fun c20 => ?_)
      · replace hF := if_p c20 hF
        refine xe_iconst (v := 0) dX4_allFaultless_22 (by decide) ?_
        obtain ⟨z21, hF⟩ := bz_inv hF
        exact xe_ireturn dX4_allFaultless_23 (xPZ_ret z21 hF)
      · replace hF := if_n c20 hF
        refine xe_iinc (v := _ + 1) dX4_allFaultless_24 rfl rfl (by decide) ?_
        refine xe_goto (tgt := 2) dX4_allFaultless_27 (by decide) ?_
        exact xv.lv (ih hF) (xsub_cons rfl (xsub_cons rfl xsub_nil))
    · replace hF := if_n c5 hF
      refine xe_iconst (v := 1) dX4_allFaultless_30 (by decide) ?_
      obtain ⟨z22, hF⟩ := bz_inv hF
      exact xe_ireturn dX4_allFaultless_31 (xPZ_ret z22 hF)
def FX4_allFaultless (p0 : Option Nat) (h0 : Hp) : Option (Int32 × Hp) :=
  BX4_allFaultless_2 100000 p0 0 h0
set_option maxRecDepth 100000 in
set_option maxHeartbeats 4000000 in
theorem FX4_allFaultless_ok {G : xG} {l : Launch} {p0 : Option Nat} {h0 h1 : Hp} {r : Int32} (hF : FX4_allFaultless p0 h0 = some (r, h1)) : xc G l mX4_allFaultless 1 0 0 [va_rf p0] h0 (xPZ r h1) := by
  refine xo_Z [.inr (.inr _)] (by decide) (Nat.le_of_ble_eq_true rfl) rfl ?_
  show xv _ _ _ _ _ _ _ [(0, false, va_rf p0)] _ _ _
  unfold FX4_allFaultless at hF
  refine xe_iconst (v := 0) dX4_allFaultless_0 (by decide) ?_
  refine xe_istore_n dX4_allFaultless_1 rfl (by decide) ?_
  exact xv.lv (BX4_allFaultless_2_ok _ hF) (xsub_cons rfl (xsub_cons rfl xsub_nil))
/-! SeldomOps$Program.forgetJudgements()V -/
def BX4_forgetJudgements_2 : Nat → Option Nat → Int32 → Hp → Option (Unit × Hp)
  | 0, _, _, _ => none
  | n + 1, x0, x1, h0 =>
    gI h0 x0 3 1 fun v1 =>
    if (x1 : Int32) < v1 then
      gR h0 x0 3 0 fun v6 =>
      aR h0 v6 "SeldomOps$Method" x1 fun v10 =>
      pZ h0 v10 2 14 0 fun h19 =>
      gR h19 x0 3 0 fun v21 =>
      aR h19 v21 "SeldomOps$Method" x1 fun v25 =>
      pZ h19 v25 2 15 0 fun h34 =>
      BX4_forgetJudgements_2 n x0 (x1 + 1) h34
    else
      some ((), h0)
set_option maxRecDepth 100000 in
set_option maxHeartbeats 4000000 in
theorem BX4_forgetJudgements_2_ok {G : xG} {l : Launch} : ∀ (n : Nat) {x0 : Option Nat} {x1 : Int32} {h0 h1 : Hp} {r : Unit} (hF : BX4_forgetJudgements_2 n x0 x1 h0 = some (r, h1)), xv G l mX4_forgetJudgements 1 0 0 2 [(0, false, va_rf x0), (1, false, .int x1)] [] h0 (xP mkV r h1) := by
  intro n
  induction n with
  | zero => intro x0 x1 h0 h1 r hF; cases hF
  | succ n ih =>
    intro x0 x1 h0 h1 r hF
    unfold BX4_forgetJudgements_2 at hF
    refine xe_iload_n dX4_forgetJudgements_2 rfl rfl ?_
    refine xe_aload_n dX4_forgetJudgements_3 rfl rfl ?_
    obtain ⟨a2, e3, t4, hF⟩ := gI_inv hF
    refine xq_getI dX4_forgetJudgements_4 fl_Program_17 xk_3 e3 t4 rfl ?_
    refine xe_icmp_ge (tgt := 36) dX4_forgetJudgements_7 (by decide) (fun c5 => ?_) (fun c5 => ?_)
    · replace hF := if_p c5 hF
      refine xe_aload_n dX4_forgetJudgements_10 rfl rfl ?_
      obtain ⟨a7, e8, t9, hF⟩ := gR_inv hF
      refine xq_getR dX4_forgetJudgements_11 fl_Program_11 xk_3 e8 t9 rfl ?_
      refine xe_iload_n dX4_forgetJudgements_14 rfl rfl ?_
      obtain ⟨a11, n12, e13, t14, b15, hF⟩ := aR_inv hF
      refine xq_aald dX4_forgetJudgements_15 e13 t14 (by decide) b15 ?_
      refine xe_iconst (v := 0) dX4_forgetJudgements_16 (by decide) ?_
      obtain ⟨a16, e17, t18, z20, hF⟩ := pZ_inv hF
      refine xq_putI dX4_forgetJudgements_17 fl_Program_47 xk_2 (by decide) (fun z => by cases z) e17 t18 (Or.inr ⟨rfl, z20⟩) ?_
      refine xe_aload_n dX4_forgetJudgements_20 rfl rfl ?_
      obtain ⟨a22, e23, t24, hF⟩ := gR_inv hF
      refine xq_getR dX4_forgetJudgements_21 fl_Program_11 xk_3 e23 t24 rfl ?_
      refine xe_iload_n dX4_forgetJudgements_24 rfl rfl ?_
      obtain ⟨a26, n27, e28, t29, b30, hF⟩ := aR_inv hF
      refine xq_aald dX4_forgetJudgements_25 e28 t29 (by decide) b30 ?_
      refine xe_iconst (v := 0) dX4_forgetJudgements_26 (by decide) ?_
      obtain ⟨a31, e32, t33, z35, hF⟩ := pZ_inv hF
      refine xq_putI dX4_forgetJudgements_27 fl_Program_51 xk_2 (by decide) (fun z => by cases z) e32 t33 (Or.inr ⟨rfl, z35⟩) ?_
      refine xe_iinc (v := _ + 1) dX4_forgetJudgements_30 rfl rfl (by decide) ?_
      refine xe_goto (tgt := 2) dX4_forgetJudgements_33 (by decide) ?_
      exact xv.lv (ih hF) (xsub_cons rfl (xsub_cons rfl xsub_nil))
    · replace hF := if_n c5 hF
      exact xe_return dX4_forgetJudgements_36 (xP_ret (mk := mkV) hF)
def FX4_forgetJudgements (p0 : Option Nat) (h0 : Hp) : Option (Unit × Hp) :=
  BX4_forgetJudgements_2 100000 p0 0 h0
set_option maxRecDepth 100000 in
set_option maxHeartbeats 4000000 in
theorem FX4_forgetJudgements_ok {G : xG} {l : Launch} {p0 : Option Nat} {h0 h1 : Hp} {r : Unit} (hF : FX4_forgetJudgements p0 h0 = some (r, h1)) : xc G l mX4_forgetJudgements 1 0 0 [va_rf p0] h0 (xP mkV r h1) := by
  refine xo_V [.inr (.inr _)] (by decide) (Nat.le_of_ble_eq_true rfl) rfl ?_
  show xv _ _ _ _ _ _ _ [(0, false, va_rf p0)] _ _ _
  unfold FX4_forgetJudgements at hF
  refine xe_iconst (v := 0) dX4_forgetJudgements_0 (by decide) ?_
  refine xe_istore_n dX4_forgetJudgements_1 rfl (by decide) ?_
  exact xv.lv (BX4_forgetJudgements_2_ok _ hF) (xsub_cons rfl (xsub_cons rfl xsub_nil))
/-! SeldomOps$Program.<init>()V -/
def FX4_init (p0 : Option Nat) (h0 : Hp) : Option (Unit × Hp) :=
  nz p0 none <|
  nA h0 (.inr (.object "SeldomOps$Method", 8)) fun v3 h4 =>
  pR h4 p0 3 0 (some v3) fun h10 =>
  pI h10 p0 3 1 0 fun h15 =>
  nA h15 (.inr (.long, 40)) fun v17 h18 =>
  pR h18 p0 3 2 (some v17) fun h24 =>
  pI h24 p0 3 3 0 fun h29 =>
  nA h29 (.inr (.object "SeldomOps$Table", 8)) fun v31 h32 =>
  pR h32 p0 3 4 (some v31) fun h38 =>
  pI h38 p0 3 5 0 fun h43 =>
  some ((), h43)
set_option maxRecDepth 100000 in
set_option maxHeartbeats 4000000 in
theorem FX4_init_ok {G : xG} {l : Launch} {p0 : Option Nat} {h0 h1 : Hp} {r : Unit} (hF : FX4_init p0 h0 = some (r, h1)) : xc G l mX4_init 1 3 56 [va_rf p0] h0 (xP mkV r h1) := by
  refine xo_V [.inr (.inr _)] (by decide) (Nat.le_of_ble_eq_true rfl) rfl ?_
  show xv _ _ _ _ _ _ _ [(0, false, va_rf p0)] _ _ _
  unfold FX4_init at hF
  refine xe_aload_n dX4_init_0 rfl rfl ?_
  obtain ⟨a2, e1, hF⟩ := nzn_inv hF
  refine xq_objInit dX4_init_1 ⟨tw_29, tw_22, tw_23⟩ (by decide) (by decide) e1 ?_
  refine xe_aload_n dX4_init_4 rfl rfl ?_
  refine xe_bipush (v := 8) dX4_init_5 (by decide) ?_
  obtain ⟨v3, h4, e5, e6, hF⟩ := nA_inv hF
  refine xv.weaken (xn_anewa (C := "SeldomOps$Method") (N := 8) (k := 2) (n := 48) dX4_init_7 (by decide) (by decide) tw_30 (by decide) (by decide) (by decide) e5 e6 ?_) (by first | decide | omega) (by first | decide | (simp only [xnf]; omega))
  obtain ⟨a7, e8, t9, hF⟩ := pR_inv hF
  refine xq_putR dX4_init_10 fl_Program_11 xk_3 (by decide) (fun _ => ⟨rfl, _, _, rfl⟩) e8 t9 (Or.inr ⟨_, rfl⟩) ?_
  refine xe_aload_n dX4_init_13 rfl rfl ?_
  refine xe_iconst (v := 0) dX4_init_14 (by decide) ?_
  obtain ⟨a12, e13, t14, hF⟩ := pI_inv hF
  refine xq_putI dX4_init_15 fl_Program_17 xk_3 (by decide) (fun z => by cases z) e13 t14 (Or.inl rfl) ?_
  refine xe_aload_n dX4_init_18 rfl rfl ?_
  refine xe_bipush (v := 40) dX4_init_19 (by decide) ?_
  obtain ⟨v17, h18, e19, e20, hF⟩ := nA_inv hF
  refine xv.weaken (xn_newa (t := .long) (N := 40) (k := 1) (n := 8) dX4_init_21 rfl (Or.inr (Or.inl rfl)) tw_59 (by decide) (by decide) (by decide) e19 e20 ?_) (by first | decide | omega) (by first | decide | (simp only [xnf]; omega))
  obtain ⟨a21, e22, t23, hF⟩ := pR_inv hF
  refine xq_putR dX4_init_23 fl_Program_21 xk_3 (by decide) (fun _ => ⟨rfl, _, _, rfl⟩) e22 t23 (Or.inr ⟨_, rfl⟩) ?_
  refine xe_aload_n dX4_init_26 rfl rfl ?_
  refine xe_iconst (v := 0) dX4_init_27 (by decide) ?_
  obtain ⟨a26, e27, t28, hF⟩ := pI_inv hF
  refine xq_putI dX4_init_28 fl_Program_25 xk_3 (by decide) (fun z => by cases z) e27 t28 (Or.inl rfl) ?_
  refine xe_aload_n dX4_init_31 rfl rfl ?_
  refine xe_bipush (v := 8) dX4_init_32 (by decide) ?_
  obtain ⟨v31, h32, e33, e34, hF⟩ := nA_inv hF
  refine xv.weaken (xn_anewa (C := "SeldomOps$Table") (N := 8) (k := 0) (n := 0) dX4_init_34 (by decide) (by decide) tw_32 (by decide) (by decide) (by decide) e33 e34 ?_) (by first | decide | omega) (by first | decide | (simp only [xnf]; omega))
  obtain ⟨a35, e36, t37, hF⟩ := pR_inv hF
  refine xq_putR dX4_init_37 fl_Program_30 xk_3 (by decide) (fun _ => ⟨rfl, _, _, rfl⟩) e36 t37 (Or.inr ⟨_, rfl⟩) ?_
  refine xe_aload_n dX4_init_40 rfl rfl ?_
  refine xe_iconst (v := 0) dX4_init_41 (by decide) ?_
  obtain ⟨a40, e41, t42, hF⟩ := pI_inv hF
  refine xq_putI dX4_init_42 fl_Program_34 xk_3 (by decide) (fun z => by cases z) e41 t42 (Or.inl rfl) ?_
  exact xe_return dX4_init_45 (xP_ret (mk := mkV) hF)
/-! SeldomOps$Program.readConstant(I)J -/
def FX4_readConstant (p0 : Option Nat) (p1 : Int32) (h0 : Hp) : Option (Int64 × Hp) :=
  gI h0 p0 3 3 fun v1 =>
  cl (FX11_within p1 v1 h0) fun v5 h6 =>
  if (v5 : Int32) = 0 then
    some (0, h6)
  else
    gR h6 p0 3 2 fun v9 =>
    aL h6 v9 p1 fun v13 =>
    some (v13, h6)
set_option maxRecDepth 100000 in
set_option maxHeartbeats 4000000 in
theorem FX4_readConstant_ok {G : xG} {l : Launch} {p0 : Option Nat} {p1 : Int32} {h0 h1 : Hp} {r : Int64} (hF : FX4_readConstant p0 p1 h0 = some (r, h1)) : xc G l mX4_readConstant 2 0 0 [va_rf p0, .int p1] h0 (xP mkL r h1) := by
  refine xo_L [.inr (.inr _), .inl _] (by decide) (Nat.le_of_ble_eq_true rfl) rfl ?_
  show xv _ _ _ _ _ _ _ [(0, false, va_rf p0), (1, false, .int p1)] _ _ _
  unfold FX4_readConstant at hF
  refine xe_iload_n dX4_readConstant_0 rfl rfl ?_
  refine xe_aload_n dX4_readConstant_1 rfl rfl ?_
  obtain ⟨a2, e3, t4, hF⟩ := gI_inv hF
  refine xq_getI dX4_readConstant_2 fl_Program_25 xk_3 e3 t4 rfl ?_
  obtain ⟨v5, h6, o7, hF⟩ := cl_inv hF
  refine xz (xq_callSN (As := [.int _, .int _]) (rest := []) dX4_readConstant_5 mk_X11_within ⟨tn_385, tw_264⟩ (FX11_within_ok o7) xPZ_q (by decide) (by decide) rfl rfl ?_)
  refine xe_if_eq (tgt := 20) dX4_readConstant_8 (by decide) (fun c8 => ?_) (fun c8 => ?_)
  · replace hF := if_p c8 hF
    refine xe_lconst (v := 0) dX4_readConstant_20 (by decide) ?_
    exact xe_lreturn dX4_readConstant_21 (xP_ret (mk := mkL) hF)
  · replace hF := if_n c8 hF
    refine xe_aload_n dX4_readConstant_11 rfl rfl ?_
    obtain ⟨a10, e11, t12, hF⟩ := gR_inv hF
    refine xq_getR dX4_readConstant_12 fl_Program_21 xk_3 e11 t12 rfl ?_
    refine xe_iload_n dX4_readConstant_15 rfl rfl ?_
    obtain ⟨a14, n15, e16, t17, b18, hF⟩ := aL_inv hF
    refine xq_lald dX4_readConstant_16 e16 t17 b18 ?_
    refine xe_goto (tgt := 21) dX4_readConstant_17 (by decide) ?_
    exact xe_lreturn dX4_readConstant_21 (xP_ret (mk := mkL) hF)
/-! SeldomOps$Shapes.tell(II)I -/
def FX6_tell (p0 : Option Nat) (p1 : Int32) (p2 : Int32) (h0 : Hp) : Option (Int32 × Hp) :=
  gR h0 p0 5 0 fun v1 =>
  aI h0 v1 .int p1 fun v5 =>
  if (v5 : Int32) = (-1) then
    some ((-1), h0)
  else
    gR h0 p0 5 0 fun v12 =>
    aI h0 v12 .int p1 fun v16 =>
    if (p2 : Int32) < v16 then
      if (p2 : Int32) = (-1) then
        gR h0 p0 5 0 fun v24 =>
        aI h0 v24 .int p1 fun v28 =>
        some (v28, h0)
      else
        if (p2 : Int32) < 0 then
          gR h0 p0 5 2 fun v35 =>
          aL h0 v35 (((p1 * 16) - 2) - p2) fun v39 =>
          some ((Int64.toInt32 v39), h0)
        else
          gR h0 p0 5 1 fun v45 =>
          aL h0 v45 ((p1 * 12) + p2) fun v49 =>
          some ((Int64.toInt32 v49), h0)
    else
      some ((-1), h0)
set_option maxRecDepth 100000 in
set_option maxHeartbeats 4000000 in
theorem FX6_tell_ok {G : xG} {l : Launch} {p0 : Option Nat} {p1 : Int32} {p2 : Int32} {h0 h1 : Hp} {r : Int32} (hF : FX6_tell p0 p1 p2 h0 = some (r, h1)) : xc G l mX6_tell 1 0 0 [va_rf p0, .int p1, .int p2] h0 (xP mkI r h1) := by
  refine xo_I [.inr (.inr _), .inl _, .inl _] (by decide) (Nat.le_of_ble_eq_true rfl) rfl ?_
  show xv _ _ _ _ _ _ _ [(0, false, va_rf p0), (1, false, .int p1), (2, false, .int p2)] _ _ _
  unfold FX6_tell at hF
  refine xe_aload_n dX6_tell_0 rfl rfl ?_
  obtain ⟨a2, e3, t4, hF⟩ := gR_inv hF
  refine xq_getR dX6_tell_1 fl_Shapes_9 xk_5 e3 t4 rfl ?_
  refine xe_iload_n dX6_tell_4 rfl rfl ?_
  obtain ⟨a6, n7, e8, t9, b10, hF⟩ := aI_inv hF
  refine xq_iald dX6_tell_5 e8 t9 b10 ?_
  refine xe_iconst (v := (-1)) dX6_tell_6 (by decide) ?_
  refine xe_icmp_eq (tgt := 20) dX6_tell_7 (by decide) (fun c11 => ?_) (fun c11 => ?_)
  · replace hF := if_p c11 hF
    refine xe_iconst (v := (-1)) dX6_tell_20 (by decide) ?_
    exact xe_ireturn dX6_tell_21 (xP_ret (mk := mkI) hF)
  · replace hF := if_n c11 hF
    refine xe_iload_n dX6_tell_10 rfl rfl ?_
    refine xe_aload_n dX6_tell_11 rfl rfl ?_
    obtain ⟨a13, e14, t15, hF⟩ := gR_inv hF
    refine xq_getR dX6_tell_12 fl_Shapes_9 xk_5 e14 t15 rfl ?_
    refine xe_iload_n dX6_tell_15 rfl rfl ?_
    obtain ⟨a17, n18, e19, t20, b21, hF⟩ := aI_inv hF
    refine xq_iald dX6_tell_16 e19 t20 b21 ?_
    refine xe_icmp_lt (tgt := 22) dX6_tell_17 (by decide) (fun c22 => ?_) (fun c22 => ?_)
    · replace hF := if_p c22 hF
      refine xe_iload_n dX6_tell_22 rfl rfl ?_
      refine xe_iconst (v := (-1)) dX6_tell_23 (by decide) ?_
      refine xe_icmp_ne (tgt := 34) dX6_tell_24 (by decide) (fun c23 => ?_) (fun c23 => ?_)
      · replace hF := if_p c23 hF
        refine xe_aload_n dX6_tell_27 rfl rfl ?_
        obtain ⟨a25, e26, t27, hF⟩ := gR_inv hF
        refine xq_getR dX6_tell_28 fl_Shapes_9 xk_5 e26 t27 rfl ?_
        refine xe_iload_n dX6_tell_31 rfl rfl ?_
        obtain ⟨a29, n30, e31, t32, b33, hF⟩ := aI_inv hF
        refine xq_iald dX6_tell_32 e31 t32 b33 ?_
        exact xe_ireturn dX6_tell_33 (xP_ret (mk := mkI) hF)
      · replace hF := if_n c23 hF
        refine xe_iload_n dX6_tell_34 rfl rfl ?_
        refine xe_if_lt (tgt := 52) dX6_tell_35 (by decide) (fun c34 => ?_) (fun c34 => ?_)
        · replace hF := if_p c34 hF
          refine xe_aload_n dX6_tell_52 rfl rfl ?_
          obtain ⟨a36, e37, t38, hF⟩ := gR_inv hF
          refine xq_getR dX6_tell_53 fl_Shapes_19 xk_5 e37 t38 rfl ?_
          refine xe_iload_n dX6_tell_56 rfl rfl ?_
          refine xe_bipush (v := 16) dX6_tell_57 (by decide) ?_
          refine xe_imul dX6_tell_59 ?_
          refine xe_iconst (v := 2) dX6_tell_60 (by decide) ?_
          refine xe_isub dX6_tell_61 ?_
          refine xe_iload_n dX6_tell_62 rfl rfl ?_
          refine xe_isub dX6_tell_63 ?_
          obtain ⟨a40, n41, e42, t43, b44, hF⟩ := aL_inv hF
          refine xq_lald dX6_tell_64 e42 t43 b44 ?_
          refine xe_l2i dX6_tell_65 ?_
          exact xe_ireturn dX6_tell_66 (xP_ret (mk := mkI) hF)
        · replace hF := if_n c34 hF
          refine xe_aload_n dX6_tell_38 rfl rfl ?_
          obtain ⟨a46, e47, t48, hF⟩ := gR_inv hF
          refine xq_getR dX6_tell_39 fl_Shapes_15 xk_5 e47 t48 rfl ?_
          refine xe_iload_n dX6_tell_42 rfl rfl ?_
          refine xe_bipush (v := 12) dX6_tell_43 (by decide) ?_
          refine xe_imul dX6_tell_45 ?_
          refine xe_iload_n dX6_tell_46 rfl rfl ?_
          refine xe_iadd dX6_tell_47 ?_
          obtain ⟨a50, n51, e52, t53, b54, hF⟩ := aL_inv hF
          refine xq_lald dX6_tell_48 e52 t53 b54 ?_
          refine xe_goto (tgt := 65) dX6_tell_49 (by decide) ?_
          refine xe_l2i dX6_tell_65 ?_
          exact xe_ireturn dX6_tell_66 (xP_ret (mk := mkI) hF)
    · replace hF := if_n c22 hF
      refine xe_iconst (v := (-1)) dX6_tell_20 (by decide) ?_
      exact xe_ireturn dX6_tell_21 (xP_ret (mk := mkI) hF)
/-! SeldomOps$Table.addEntry(II)I -/
def FX7_addEntry (p0 : Option Nat) (p1 : Int32) (p2 : Int32) (h0 : Hp) : Option (Int32 × Hp) :=
  gR h0 p0 6 3 fun v1 =>
  gI h0 p0 6 5 fun v5 =>
  sI h0 v1 v5 p1 fun h9 =>
  gR h9 p0 6 4 fun v16 =>
  gI h9 p0 6 5 fun v20 =>
  sI h9 v16 v20 p2 fun h24 =>
  gI h24 p0 6 5 fun v31 =>
  pI h24 p0 6 5 (v31 + 1) fun h38 =>
  gI h38 p0 6 5 fun v40 =>
  some (v40, h38)
set_option maxRecDepth 100000 in
set_option maxHeartbeats 4000000 in
theorem FX7_addEntry_ok {G : xG} {l : Launch} {p0 : Option Nat} {p1 : Int32} {p2 : Int32} {h0 h1 : Hp} {r : Int32} (hF : FX7_addEntry p0 p1 p2 h0 = some (r, h1)) : xc G l mX7_addEntry 1 0 0 [va_rf p0, .int p1, .int p2] h0 (xP mkI r h1) := by
  refine xo_I [.inr (.inr _), .inl _, .inl _] (by decide) (Nat.le_of_ble_eq_true rfl) rfl ?_
  show xv _ _ _ _ _ _ _ [(0, false, va_rf p0), (1, false, .int p1), (2, false, .int p2)] _ _ _
  unfold FX7_addEntry at hF
  refine xe_aload_n dX7_addEntry_0 rfl rfl ?_
  obtain ⟨a2, e3, t4, hF⟩ := gR_inv hF
  refine xq_getR dX7_addEntry_1 fl_Table_9 xk_6 e3 t4 rfl ?_
  refine xe_aload_n dX7_addEntry_4 rfl rfl ?_
  obtain ⟨a6, e7, t8, hF⟩ := gI_inv hF
  refine xq_getI dX7_addEntry_5 fl_Table_18 xk_6 e7 t8 rfl ?_
  refine xe_iload_n dX7_addEntry_8 rfl rfl ?_
  obtain ⟨a10, n11, e12, t13, b14, hF⟩ := sI_inv hF
  refine xq_iast dX7_addEntry_9 e12 t13 b14 ?_
  refine xe_aload_n dX7_addEntry_10 rfl rfl ?_
  obtain ⟨a17, e18, t19, hF⟩ := gR_inv hF
  refine xq_getR dX7_addEntry_11 fl_Table_15 xk_6 e18 t19 rfl ?_
  refine xe_aload_n dX7_addEntry_14 rfl rfl ?_
  obtain ⟨a21, e22, t23, hF⟩ := gI_inv hF
  refine xq_getI dX7_addEntry_15 fl_Table_18 xk_6 e22 t23 rfl ?_
  refine xe_iload_n dX7_addEntry_18 rfl rfl ?_
  obtain ⟨a25, n26, e27, t28, b29, hF⟩ := sI_inv hF
  refine xq_iast dX7_addEntry_19 e27 t28 b29 ?_
  refine xe_aload_n dX7_addEntry_20 rfl rfl ?_
  refine xe_dup dX7_addEntry_21 (va_rf_cat _) ?_
  obtain ⟨a32, e33, t34, hF⟩ := gI_inv hF
  refine xq_getI dX7_addEntry_22 fl_Table_18 xk_6 e33 t34 rfl ?_
  refine xe_iconst (v := 1) dX7_addEntry_25 (by decide) ?_
  refine xe_iadd dX7_addEntry_26 ?_
  obtain ⟨a35, e36, t37, hF⟩ := pI_inv hF
  refine xq_putI dX7_addEntry_27 fl_Table_18 xk_6 (by decide) (fun z => by cases z) e36 t37 (Or.inl rfl) ?_
  refine xe_aload_n dX7_addEntry_30 rfl rfl ?_
  obtain ⟨a41, e42, t43, hF⟩ := gI_inv hF
  refine xq_getI dX7_addEntry_31 fl_Table_18 xk_6 e42 t43 rfl ?_
  exact xe_ireturn dX7_addEntry_34 (xP_ret (mk := mkI) hF)
/-! SeldomOps$Table.mayFollow(I)Z -/
def FX7_mayFollow (p0 : Option Nat) (p1 : Int32) (h0 : Hp) : Option (Int32 × Hp) :=
  gI h0 p0 6 0 fun v1 =>
  if (v1 : Int32) = 0 then
    gI h0 p0 6 1 fun v6 =>
    gI h0 p0 6 5 fun v10 =>
    if ((Int32.toInt64 p1) : Int64) = ((Int32.toInt64 v6) + (Int32.toInt64 v10)) then
      bz 1 (some (1, h0))
    else
      bz 0 (some (0, h0))
  else
    gI h0 p0 6 5 fun v17 =>
    if (v17 : Int32) = 0 then
      bz 1 (some (1, h0))
    else
      gR h0 p0 6 3 fun v23 =>
      gI h0 p0 6 5 fun v27 =>
      aI h0 v23 .int (v27 - 1) fun v31 =>
      if (v31 : Int32) < p1 then
        bz 1 (some (1, h0))
      else
        bz 0 (some (0, h0))
set_option maxRecDepth 100000 in
set_option maxHeartbeats 4000000 in
theorem FX7_mayFollow_ok {G : xG} {l : Launch} {p0 : Option Nat} {p1 : Int32} {h0 h1 : Hp} {r : Int32} (hF : FX7_mayFollow p0 p1 h0 = some (r, h1)) : xc G l mX7_mayFollow 1 0 0 [va_rf p0, .int p1] h0 (xPZ r h1) := by
  refine xo_Z [.inr (.inr _), .inl _] (by decide) (Nat.le_of_ble_eq_true rfl) rfl ?_
  show xv _ _ _ _ _ _ _ [(0, false, va_rf p0), (1, false, .int p1)] _ _ _
  unfold FX7_mayFollow at hF
  refine xe_aload_n dX7_mayFollow_0 rfl rfl ?_
  obtain ⟨a2, e3, t4, hF⟩ := gI_inv hF
  refine xq_getI dX7_mayFollow_1 fl_Table_22 xk_6 e3 t4 rfl ?_
  refine xe_if_eq (tgt := 35) dX7_mayFollow_4 (by decide) (fun c5 => ?_) (fun c5 => ?_)
  · replace hF := if_p c5 hF
    refine xe_iload_n dX7_mayFollow_35 rfl rfl ?_
    refine xe_i2l dX7_mayFollow_36 ?_
    refine xe_aload_n dX7_mayFollow_37 rfl rfl ?_
    obtain ⟨a7, e8, t9, hF⟩ := gI_inv hF
    refine xq_getI dX7_mayFollow_38 fl_Table_26 xk_6 e8 t9 rfl ?_
    refine xe_i2l dX7_mayFollow_41 ?_
    refine xe_aload_n dX7_mayFollow_42 rfl rfl ?_
    obtain ⟨a11, e12, t13, hF⟩ := gI_inv hF
    refine xq_getI dX7_mayFollow_43 fl_Table_18 xk_6 e12 t13 rfl ?_
    refine xe_i2l dX7_mayFollow_46 ?_
    refine xe_ladd dX7_mayFollow_47 ?_
    refine xe_lcmp dX7_mayFollow_48 ?_
    refine xe_lif_ne (tgt := 56) dX7_mayFollow_49 (by decide) (fun c14 => ?_) (fun c14 => ?_)
    · replace hF := if_p c14 hF
      refine xe_iconst (v := 1) dX7_mayFollow_52 (by decide) ?_
      refine xe_goto (tgt := 57) dX7_mayFollow_53 (by decide) ?_
      obtain ⟨z15, hF⟩ := bz_inv hF
      exact xe_ireturn dX7_mayFollow_57 (xPZ_ret z15 hF)
    · replace hF := if_n c14 hF
      refine xe_iconst (v := 0) dX7_mayFollow_56 (by decide) ?_
      obtain ⟨z16, hF⟩ := bz_inv hF
      exact xe_ireturn dX7_mayFollow_57 (xPZ_ret z16 hF)
  · replace hF := if_n c5 hF
    refine xe_aload_n dX7_mayFollow_7 rfl rfl ?_
    obtain ⟨a18, e19, t20, hF⟩ := gI_inv hF
    refine xq_getI dX7_mayFollow_8 fl_Table_18 xk_6 e19 t20 rfl ?_
    refine xe_if_eq (tgt := 29) dX7_mayFollow_11 (by decide) (fun c21 => ?_) (fun c21 => ?_)
    · replace hF := if_p c21 hF
      refine xe_iconst (v := 1) dX7_mayFollow_29 (by decide) ?_
      refine xe_goto (tgt := 34) dX7_mayFollow_30 (by decide) ?_
      obtain ⟨z22, hF⟩ := bz_inv hF
      exact xe_ireturn dX7_mayFollow_34 (xPZ_ret z22 hF)
    · replace hF := if_n c21 hF
      refine xe_iload_n dX7_mayFollow_14 rfl rfl ?_
      refine xe_aload_n dX7_mayFollow_15 rfl rfl ?_
      obtain ⟨a24, e25, t26, hF⟩ := gR_inv hF
      refine xq_getR dX7_mayFollow_16 fl_Table_9 xk_6 e25 t26 rfl ?_
      refine xe_aload_n dX7_mayFollow_19 rfl rfl ?_
      obtain ⟨a28, e29, t30, hF⟩ := gI_inv hF
      refine xq_getI dX7_mayFollow_20 fl_Table_18 xk_6 e29 t30 rfl ?_
      refine xe_iconst (v := 1) dX7_mayFollow_23 (by decide) ?_
      refine xe_isub dX7_mayFollow_24 ?_
      obtain ⟨a32, n33, e34, t35, b36, hF⟩ := aI_inv hF
      refine xq_iald dX7_mayFollow_25 e34 t35 b36 ?_
      refine xe_icmp_le (tgt := 33) dX7_mayFollow_26 (by decide) (fun c37 => ?_) (fun c37 => ?_)
      · replace hF := if_p c37 hF
        refine xe_iconst (v := 1) dX7_mayFollow_29 (by decide) ?_
        refine xe_goto (tgt := 34) dX7_mayFollow_30 (by decide) ?_
        obtain ⟨z38, hF⟩ := bz_inv hF
        exact xe_ireturn dX7_mayFollow_34 (xPZ_ret z38 hF)
      · replace hF := if_n c37 hF
        refine xe_iconst (v := 0) dX7_mayFollow_33 (by decide) ?_
        obtain ⟨z39, hF⟩ := bz_inv hF
        exact xe_ireturn dX7_mayFollow_34 (xPZ_ret z39 hF)
/-! SeldomOps$Table.targetFor(I)I -/
def BX7_targetFor_2 : Nat → Option Nat → Int32 → Int32 → Hp → Option (Int32 × Hp)
  | 0, _, _, _, _ => none
  | n + 1, x0, x1, x2, h0 =>
    gI h0 x0 6 5 fun v1 =>
    if (x2 : Int32) < v1 then
      gR h0 x0 6 3 fun v6 =>
      aI h0 v6 .int x2 fun v10 =>
      if (v10 : Int32) = x1 then
        gR h0 x0 6 4 fun v17 =>
        aI h0 v17 .int x2 fun v21 =>
        some (v21, h0)
      else
        BX7_targetFor_2 n x0 x1 (x2 + 1) h0
    else
      gI h0 x0 6 2 fun v27 =>
      some (v27, h0)
set_option maxRecDepth 100000 in
set_option maxHeartbeats 4000000 in
theorem BX7_targetFor_2_ok {G : xG} {l : Launch} : ∀ (n : Nat) {x0 : Option Nat} {x1 : Int32} {x2 : Int32} {h0 h1 : Hp} {r : Int32} (hF : BX7_targetFor_2 n x0 x1 x2 h0 = some (r, h1)), xv G l mX7_targetFor 1 0 0 2 [(0, false, va_rf x0), (1, false, .int x1), (2, false, .int x2)] [] h0 (xP mkI r h1) := by
  intro n
  induction n with
  | zero => intro x0 x1 x2 h0 h1 r hF; cases hF
  | succ n ih =>
    intro x0 x1 x2 h0 h1 r hF
    unfold BX7_targetFor_2 at hF
    refine xe_iload_n dX7_targetFor_2 rfl rfl ?_
    refine xe_aload_n dX7_targetFor_3 rfl rfl ?_
    obtain ⟨a2, e3, t4, hF⟩ := gI_inv hF
    refine xq_getI dX7_targetFor_4 fl_Table_18 xk_6 e3 t4 rfl ?_
    refine xe_icmp_ge (tgt := 33) dX7_targetFor_7 (by decide) (fun c5 => ?_) (fun c5 => ?_)
    · replace hF := if_p c5 hF
      refine xe_aload_n dX7_targetFor_10 rfl rfl ?_
      obtain ⟨a7, e8, t9, hF⟩ := gR_inv hF
      refine xq_getR dX7_targetFor_11 fl_Table_9 xk_6 e8 t9 rfl ?_
      refine xe_iload_n dX7_targetFor_14 rfl rfl ?_
      obtain ⟨a11, n12, e13, t14, b15, hF⟩ := aI_inv hF
      refine xq_iald dX7_targetFor_15 e13 t14 b15 ?_
      refine xe_iload_n dX7_targetFor_16 rfl rfl ?_
      refine xe_icmp_ne (tgt := 27) dX7_targetFor_17 (by decide) (fun c16 => ?_) (fun c16 => ?_)
      · replace hF := if_p c16 hF
        refine xe_aload_n dX7_targetFor_20 rfl rfl ?_
        obtain ⟨a18, e19, t20, hF⟩ := gR_inv hF
        refine xq_getR dX7_targetFor_21 fl_Table_15 xk_6 e19 t20 rfl ?_
        refine xe_iload_n dX7_targetFor_24 rfl rfl ?_
        obtain ⟨a22, n23, e24, t25, b26, hF⟩ := aI_inv hF
        refine xq_iald dX7_targetFor_25 e24 t25 b26 ?_
        exact xe_ireturn dX7_targetFor_26 (xP_ret (mk := mkI) hF)
      · replace hF := if_n c16 hF
        refine xe_iinc (v := _ + 1) dX7_targetFor_27 rfl rfl (by decide) ?_
        refine xe_goto (tgt := 2) dX7_targetFor_30 (by decide) ?_
        exact xv.lv (ih hF) (xsub_cons rfl (xsub_cons rfl (xsub_cons rfl xsub_nil)))
    · replace hF := if_n c5 hF
      refine xe_aload_n dX7_targetFor_33 rfl rfl ?_
      obtain ⟨a28, e29, t30, hF⟩ := gI_inv hF
      refine xq_getI dX7_targetFor_34 fl_Table_29 xk_6 e29 t30 rfl ?_
      exact xe_ireturn dX7_targetFor_37 (xP_ret (mk := mkI) hF)
def FX7_targetFor (p0 : Option Nat) (p1 : Int32) (h0 : Hp) : Option (Int32 × Hp) :=
  BX7_targetFor_2 100000 p0 p1 0 h0
set_option maxRecDepth 100000 in
set_option maxHeartbeats 4000000 in
theorem FX7_targetFor_ok {G : xG} {l : Launch} {p0 : Option Nat} {p1 : Int32} {h0 h1 : Hp} {r : Int32} (hF : FX7_targetFor p0 p1 h0 = some (r, h1)) : xc G l mX7_targetFor 1 0 0 [va_rf p0, .int p1] h0 (xP mkI r h1) := by
  refine xo_I [.inr (.inr _), .inl _] (by decide) (Nat.le_of_ble_eq_true rfl) rfl ?_
  show xv _ _ _ _ _ _ _ [(0, false, va_rf p0), (1, false, .int p1)] _ _ _
  unfold FX7_targetFor at hF
  refine xe_iconst (v := 0) dX7_targetFor_0 (by decide) ?_
  refine xe_istore_n dX7_targetFor_1 rfl (by decide) ?_
  exact xv.lv (BX7_targetFor_2_ok _ hF) (xsub_cons rfl (xsub_cons rfl (xsub_cons rfl xsub_nil)))
/-! SeldomOps$Things.add(II)I -/
def FX8_add (p0 : Option Nat) (p1 : Int32) (p2 : Int32) (h0 : Hp) : Option (Int32 × Hp) :=
  gI h0 p0 7 4 fun v1 =>
  if (v1 : Int32) = 60 then
    some ((-1), h0)
  else
    gI h0 p0 7 4 fun v6 =>
    gI h0 p0 7 4 fun v10 =>
    pI h0 p0 7 4 (v10 + 1) fun h17 =>
    gR h17 p0 7 0 fun v19 =>
    sI h17 v19 v6 p1 fun h23 =>
    gR h23 p0 7 1 fun v30 =>
    sI h23 v30 v6 p2 fun h34 =>
    gR h34 p0 7 2 fun v41 =>
    sI h34 v41 v6 0 fun h45 =>
    some (v6, h45)
set_option maxRecDepth 100000 in
set_option maxHeartbeats 4000000 in
theorem FX8_add_ok {G : xG} {l : Launch} {p0 : Option Nat} {p1 : Int32} {p2 : Int32} {h0 h1 : Hp} {r : Int32} (hF : FX8_add p0 p1 p2 h0 = some (r, h1)) : xc G l mX8_add 1 0 0 [va_rf p0, .int p1, .int p2] h0 (xP mkI r h1) := by
  refine xo_I [.inr (.inr _), .inl _, .inl _] (by decide) (Nat.le_of_ble_eq_true rfl) rfl ?_
  show xv _ _ _ _ _ _ _ [(0, false, va_rf p0), (1, false, .int p1), (2, false, .int p2)] _ _ _
  unfold FX8_add at hF
  refine xe_aload_n dX8_add_0 rfl rfl ?_
  obtain ⟨a2, e3, t4, hF⟩ := gI_inv hF
  refine xq_getI dX8_add_1 fl_Things_25 xk_7 e3 t4 rfl ?_
  refine xe_bipush (v := 60) dX8_add_4 (by decide) ?_
  refine xe_icmp_ne (tgt := 11) dX8_add_6 (by decide) (fun c5 => ?_) (fun c5 => ?_)
  · replace hF := if_p c5 hF
    refine xe_iconst (v := (-1)) dX8_add_9 (by decide) ?_
    exact xe_ireturn dX8_add_10 (xP_ret (mk := mkI) hF)
  · replace hF := if_n c5 hF
    refine xe_aload_n dX8_add_11 rfl rfl ?_
    obtain ⟨a7, e8, t9, hF⟩ := gI_inv hF
    refine xq_getI dX8_add_12 fl_Things_25 xk_7 e8 t9 rfl ?_
    refine xe_istore_n dX8_add_15 rfl (by decide) ?_
    refine xe_aload_n dX8_add_16 rfl rfl ?_
    refine xe_dup dX8_add_17 (va_rf_cat _) ?_
    obtain ⟨a11, e12, t13, hF⟩ := gI_inv hF
    refine xq_getI dX8_add_18 fl_Things_25 xk_7 e12 t13 rfl ?_
    refine xe_iconst (v := 1) dX8_add_21 (by decide) ?_
    refine xe_iadd dX8_add_22 ?_
    obtain ⟨a14, e15, t16, hF⟩ := pI_inv hF
    refine xq_putI dX8_add_23 fl_Things_25 xk_7 (by decide) (fun z => by cases z) e15 t16 (Or.inl rfl) ?_
    refine xe_aload_n dX8_add_26 rfl rfl ?_
    obtain ⟨a20, e21, t22, hF⟩ := gR_inv hF
    refine xq_getR dX8_add_27 fl_Things_9 xk_7 e21 t22 rfl ?_
    refine xe_iload_n dX8_add_30 rfl rfl ?_
    refine xe_iload_n dX8_add_31 rfl rfl ?_
    obtain ⟨a24, n25, e26, t27, b28, hF⟩ := sI_inv hF
    refine xq_iast dX8_add_32 e26 t27 b28 ?_
    refine xe_aload_n dX8_add_33 rfl rfl ?_
    obtain ⟨a31, e32, t33, hF⟩ := gR_inv hF
    refine xq_getR dX8_add_34 fl_Things_15 xk_7 e32 t33 rfl ?_
    refine xe_iload_n dX8_add_37 rfl rfl ?_
    refine xe_iload_n dX8_add_38 rfl rfl ?_
    obtain ⟨a35, n36, e37, t38, b39, hF⟩ := sI_inv hF
    refine xq_iast dX8_add_39 e37 t38 b39 ?_
    refine xe_aload_n dX8_add_40 rfl rfl ?_
    obtain ⟨a42, e43, t44, hF⟩ := gR_inv hF
    refine xq_getR dX8_add_41 fl_Things_18 xk_7 e43 t44 rfl ?_
    refine xe_iload_n dX8_add_44 rfl rfl ?_
    refine xe_iconst (v := 0) dX8_add_45 (by decide) ?_
    obtain ⟨a46, n47, e48, t49, b50, hF⟩ := sI_inv hF
    refine xq_iast dX8_add_46 e48 t49 b50 ?_
    refine xe_iload_n dX8_add_47 rfl rfl ?_
    exact xe_ireturn dX8_add_48 (xP_ret (mk := mkI) hF)
/-! SeldomOps$Things.cellSort(I)I -/
def FX8_cellSort (p0 : Int32) (h0 : Hp) : Option (Int32 × Hp) :=
  if (p0 : Int32) < 16 then
    some ((p0 - p0 / 8 * 8), h0)
  else
    some (4, h0)
set_option maxRecDepth 100000 in
set_option maxHeartbeats 4000000 in
theorem FX8_cellSort_ok {G : xG} {l : Launch} {p0 : Int32} {h0 h1 : Hp} {r : Int32} (hF : FX8_cellSort p0 h0 = some (r, h1)) : xc G l mX8_cellSort 1 0 0 [.int p0] h0 (xP mkI r h1) := by
  refine xo_I [.inl _] (by decide) (Nat.le_of_ble_eq_true rfl) rfl ?_
  show xv _ _ _ _ _ _ _ [(0, false, .int p0)] _ _ _
  unfold FX8_cellSort at hF
  refine xe_iload_n dX8_cellSort_0 rfl rfl ?_
  refine xe_bipush (v := 16) dX8_cellSort_1 (by decide) ?_
  refine xe_icmp_lt (tgt := 10) dX8_cellSort_3 (by decide) (fun c1 => ?_) (fun c1 => ?_)
  · replace hF := if_p c1 hF
    refine xe_iload_n dX8_cellSort_10 rfl rfl ?_
    refine xe_bipush (v := 8) dX8_cellSort_11 (by decide) ?_
    refine xe_irem dX8_cellSort_13 (by decide) ?_
    exact xe_ireturn dX8_cellSort_14 (xP_ret (mk := mkI) hF)
  · replace hF := if_n c1 hF
    refine xe_iconst (v := 4) dX8_cellSort_6 (by decide) ?_
    refine xe_goto (tgt := 14) dX8_cellSort_7 (by decide) ?_
    exact xe_ireturn dX8_cellSort_14 (xP_ret (mk := mkI) hF)
/-! SeldomOps$Things.clear()V -/
def FX8_clear (p0 : Option Nat) (h0 : Hp) : Option (Unit × Hp) :=
  pI h0 p0 7 4 0 fun h4 =>
  some ((), h4)
set_option maxRecDepth 100000 in
set_option maxHeartbeats 4000000 in
theorem FX8_clear_ok {G : xG} {l : Launch} {p0 : Option Nat} {h0 h1 : Hp} {r : Unit} (hF : FX8_clear p0 h0 = some (r, h1)) : xc G l mX8_clear 1 0 0 [va_rf p0] h0 (xP mkV r h1) := by
  refine xo_V [.inr (.inr _)] (by decide) (Nat.le_of_ble_eq_true rfl) rfl ?_
  show xv _ _ _ _ _ _ _ [(0, false, va_rf p0)] _ _ _
  unfold FX8_clear at hF
  refine xe_aload_n dX8_clear_0 rfl rfl ?_
  refine xe_iconst (v := 0) dX8_clear_1 (by decide) ?_
  obtain ⟨a1, e2, t3, hF⟩ := pI_inv hF
  refine xq_putI dX8_clear_2 fl_Things_25 xk_7 (by decide) (fun z => by cases z) e2 t3 (Or.inl rfl) ?_
  exact xe_return dX8_clear_5 (xP_ret (mk := mkV) hF)
/-! SeldomOps$Things.describe(II)I -/
def FX8_describe (p0 : Option Nat) (p1 : Int32) (p2 : Int32) (h0 : Hp) : Option (Int32 × Hp) :=
  gI h0 p0 7 4 fun v1 =>
  cl (FX11_within p1 v1 h0) fun v5 h6 =>
  if (v5 : Int32) = 0 then
    some ((-2), h6)
  else
    if (p2 : Int32) = 0 then
      gR h6 p0 7 0 fun v10 =>
      aI h6 v10 .int p1 fun v14 =>
      some (v14, h6)
    else
    if (p2 : Int32) = 1 then
      gR h6 p0 7 1 fun v21 =>
      aI h6 v21 .int p1 fun v25 =>
      some (v25, h6)
    else
    if (p2 : Int32) = 2 then
      gR h6 p0 7 2 fun v32 =>
      aI h6 v32 .int p1 fun v36 =>
      some (v36, h6)
    else
    some ((-2), h6)
set_option maxRecDepth 100000 in
set_option maxHeartbeats 4000000 in
theorem FX8_describe_ok {G : xG} {l : Launch} {p0 : Option Nat} {p1 : Int32} {p2 : Int32} {h0 h1 : Hp} {r : Int32} (hF : FX8_describe p0 p1 p2 h0 = some (r, h1)) : xc G l mX8_describe 2 0 0 [va_rf p0, .int p1, .int p2] h0 (xP mkI r h1) := by
  refine xo_I [.inr (.inr _), .inl _, .inl _] (by decide) (Nat.le_of_ble_eq_true rfl) rfl ?_
  show xv _ _ _ _ _ _ _ [(0, false, va_rf p0), (1, false, .int p1), (2, false, .int p2)] _ _ _
  unfold FX8_describe at hF
  refine xe_iload_n dX8_describe_0 rfl rfl ?_
  refine xe_aload_n dX8_describe_1 rfl rfl ?_
  obtain ⟨a2, e3, t4, hF⟩ := gI_inv hF
  refine xq_getI dX8_describe_2 fl_Things_25 xk_7 e3 t4 rfl ?_
  obtain ⟨v5, h6, o7, hF⟩ := cl_inv hF
  refine xz (xq_callSN (As := [.int _, .int _]) (rest := []) dX8_describe_5 mk_X11_within ⟨tn_867, tw_264⟩ (FX11_within_ok o7) xPZ_q (by decide) (by decide) rfl rfl ?_)
  refine xe_if_ne (tgt := 14) dX8_describe_8 (by decide) (fun c8 => ?_) (fun c8 => ?_)
  · replace hF := if_p c8 hF
    refine xe_bipush (v := (-2)) dX8_describe_11 (by decide) ?_
    exact xe_ireturn dX8_describe_13 (xP_ret (mk := mkI) hF)
  · replace hF := if_n c8 hF
    refine xe_iload_n dX8_describe_14 rfl rfl ?_
    refine xs_case (j := 0) (tgt := 40) dX8_describe_15 (by decide) (by decide) rfl (by decide) (fun c9 => ?_) (fun c9 => ?_)
    · replace hF := if_p c9 hF
      refine xe_aload_n dX8_describe_40 rfl rfl ?_
      obtain ⟨a11, e12, t13, hF⟩ := gR_inv hF
      refine xq_getR dX8_describe_41 fl_Things_9 xk_7 e12 t13 rfl ?_
      refine xe_iload_n dX8_describe_44 rfl rfl ?_
      obtain ⟨a15, n16, e17, t18, b19, hF⟩ := aI_inv hF
      refine xq_iald dX8_describe_45 e17 t18 b19 ?_
      exact xe_ireturn dX8_describe_46 (xP_ret (mk := mkI) hF)
    replace hF := if_n c9 hF
    refine xs_case (j := 1) (tgt := 47) dX8_describe_15 (by decide) (by decide) rfl (by decide) (fun c20 => ?_) (fun c20 => ?_)
    · replace hF := if_p c20 hF
      refine xe_aload_n dX8_describe_47 rfl rfl ?_
      obtain ⟨a22, e23, t24, hF⟩ := gR_inv hF
      refine xq_getR dX8_describe_48 fl_Things_15 xk_7 e23 t24 rfl ?_
      refine xe_iload_n dX8_describe_51 rfl rfl ?_
      obtain ⟨a26, n27, e28, t29, b30, hF⟩ := aI_inv hF
      refine xq_iald dX8_describe_52 e28 t29 b30 ?_
      exact xe_ireturn dX8_describe_53 (xP_ret (mk := mkI) hF)
    replace hF := if_n c20 hF
    refine xs_case (j := 2) (tgt := 54) dX8_describe_15 (by decide) (by decide) rfl (by decide) (fun c31 => ?_) (fun c31 => ?_)
    · replace hF := if_p c31 hF
      refine xe_aload_n dX8_describe_54 rfl rfl ?_
      obtain ⟨a33, e34, t35, hF⟩ := gR_inv hF
      refine xq_getR dX8_describe_55 fl_Things_18 xk_7 e34 t35 rfl ?_
      refine xe_iload_n dX8_describe_58 rfl rfl ?_
      obtain ⟨a37, n38, e39, t40, b41, hF⟩ := aI_inv hF
      refine xq_iald dX8_describe_59 e39 t40 b41 ?_
      exact xe_ireturn dX8_describe_60 (xP_ret (mk := mkI) hF)
    replace hF := if_n c31 hF
    refine xs_rest (tgt := 61) [0, 1, 2] dX8_describe_15 (by decide) (List.forall_mem_cons.mpr ⟨c9, List.forall_mem_cons.mpr ⟨c20, List.forall_mem_cons.mpr ⟨c31, fun _ h => by cases h⟩⟩⟩) (by decide) ?_
    refine xe_bipush (v := (-2)) dX8_describe_61 (by decide) ?_
    exact xe_ireturn dX8_describe_63 (xP_ret (mk := mkI) hF)
/-! SeldomOps$Things.failureNumber(I)I -/
def FX8_failureNumber (p0 : Option Nat) (p1 : Int32) (h0 : Hp) : Option (Int32 × Hp) :=
  gI h0 p0 7 4 fun v1 =>
  cl (FX11_within p1 v1 h0) fun v5 h6 =>
  if (v5 : Int32) = 0 then
    some ((-1), h6)
  else
    gR h6 p0 7 0 fun v9 =>
    aI h6 v9 .int p1 fun v13 =>
    if (v13 : Int32) < 0 then
      gR h6 p0 7 0 fun v20 =>
      aI h6 v20 .int p1 fun v24 =>
      some ((v24 - (-100)), h6)
    else
      some ((-1), h6)
set_option maxRecDepth 100000 in
set_option maxHeartbeats 4000000 in
theorem FX8_failureNumber_ok {G : xG} {l : Launch} {p0 : Option Nat} {p1 : Int32} {h0 h1 : Hp} {r : Int32} (hF : FX8_failureNumber p0 p1 h0 = some (r, h1)) : xc G l mX8_failureNumber 2 0 0 [va_rf p0, .int p1] h0 (xP mkI r h1) := by
  refine xo_I [.inr (.inr _), .inl _] (by decide) (Nat.le_of_ble_eq_true rfl) rfl ?_
  show xv _ _ _ _ _ _ _ [(0, false, va_rf p0), (1, false, .int p1)] _ _ _
  unfold FX8_failureNumber at hF
  refine xe_iload_n dX8_failureNumber_0 rfl rfl ?_
  refine xe_aload_n dX8_failureNumber_1 rfl rfl ?_
  obtain ⟨a2, e3, t4, hF⟩ := gI_inv hF
  refine xq_getI dX8_failureNumber_2 fl_Things_25 xk_7 e3 t4 rfl ?_
  obtain ⟨v5, h6, o7, hF⟩ := cl_inv hF
  refine xz (xq_callSN (As := [.int _, .int _]) (rest := []) dX8_failureNumber_5 mk_X11_within ⟨tn_867, tw_264⟩ (FX11_within_ok o7) xPZ_q (by decide) (by decide) rfl rfl ?_)
  refine xe_if_eq (tgt := 32) dX8_failureNumber_8 (by decide) (fun c8 => ?_) (fun c8 => ?_)
  · replace hF := if_p c8 hF
    refine xe_iconst (v := (-1)) dX8_failureNumber_32 (by decide) ?_
    exact xe_ireturn dX8_failureNumber_33 (xP_ret (mk := mkI) hF)
  · replace hF := if_n c8 hF
    refine xe_aload_n dX8_failureNumber_11 rfl rfl ?_
    obtain ⟨a10, e11, t12, hF⟩ := gR_inv hF
    refine xq_getR dX8_failureNumber_12 fl_Things_9 xk_7 e11 t12 rfl ?_
    refine xe_iload_n dX8_failureNumber_15 rfl rfl ?_
    obtain ⟨a14, n15, e16, t17, b18, hF⟩ := aI_inv hF
    refine xq_iald dX8_failureNumber_16 e16 t17 b18 ?_
    refine xe_if_ge (tgt := 32) dX8_failureNumber_17 (by decide) (fun c19 => ?_) (fun c19 => ?_)
    · replace hF := if_p c19 hF
      refine xe_aload_n dX8_failureNumber_20 rfl rfl ?_
      obtain ⟨a21, e22, t23, hF⟩ := gR_inv hF
      refine xq_getR dX8_failureNumber_21 fl_Things_9 xk_7 e22 t23 rfl ?_
      refine xe_iload_n dX8_failureNumber_24 rfl rfl ?_
      obtain ⟨a25, n26, e27, t28, b29, hF⟩ := aI_inv hF
      refine xq_iald dX8_failureNumber_25 e27 t28 b29 ?_
      refine xe_bipush (v := (-100)) dX8_failureNumber_26 (by decide) ?_
      refine xe_isub dX8_failureNumber_28 ?_
      refine xe_goto (tgt := 33) dX8_failureNumber_29 (by decide) ?_
      exact xe_ireturn dX8_failureNumber_33 (xP_ret (mk := mkI) hF)
    · replace hF := if_n c19 hF
      refine xe_iconst (v := (-1)) dX8_failureNumber_32 (by decide) ?_
      exact xe_ireturn dX8_failureNumber_33 (xP_ret (mk := mkI) hF)
/-! SeldomOps$Things.hasCell(II)Z -/
def FX8_hasCell (p0 : Option Nat) (p1 : Int32) (p2 : Int32) (h0 : Hp) : Option (Int32 × Hp) :=
  if (p1 : Int32) < 0 then
    bz 0 (some (0, h0))
  else
    gI h0 p0 7 4 fun v3 =>
    if (p1 : Int32) < v3 then
      if (p2 : Int32) < 0 then
        bz 0 (some (0, h0))
      else
        gR h0 p0 7 1 fun v10 =>
        aI h0 v10 .int p1 fun v14 =>
        if (p2 : Int32) < v14 then
          bz 1 (some (1, h0))
        else
          bz 0 (some (0, h0))
    else
      bz 0 (some (0, h0))
set_option maxRecDepth 100000 in
set_option maxHeartbeats 4000000 in
theorem FX8_hasCell_ok {G : xG} {l : Launch} {p0 : Option Nat} {p1 : Int32} {p2 : Int32} {h0 h1 : Hp} {r : Int32} (hF : FX8_hasCell p0 p1 p2 h0 = some (r, h1)) : xc G l mX8_hasCell 1 0 0 [va_rf p0, .int p1, .int p2] h0 (xPZ r h1) := by
  refine xo_Z [.inr (.inr _), .inl _, .inl _] (by decide) (Nat.le_of_ble_eq_true rfl) rfl ?_
  show xv _ _ _ _ _ _ _ [(0, false, va_rf p0), (1, false, .int p1), (2, false, .int p2)] _ _ _
  unfold FX8_hasCell at hF
  refine xe_iload_n dX8_hasCell_0 rfl rfl ?_
  refine xe_if_lt (tgt := 30) dX8_hasCell_1 (by decide) (fun c1 => ?_) (fun c1 => ?_)
  · replace hF := if_p c1 hF
    refine xe_iconst (v := 0) dX8_hasCell_30 (by decide) ?_
    obtain ⟨z2, hF⟩ := bz_inv hF
    exact xe_ireturn dX8_hasCell_31 (xPZ_ret z2 hF)
  · replace hF := if_n c1 hF
    refine xe_iload_n dX8_hasCell_4 rfl rfl ?_
    refine xe_aload_n dX8_hasCell_5 rfl rfl ?_
    obtain ⟨a4, e5, t6, hF⟩ := gI_inv hF
    refine xq_getI dX8_hasCell_6 fl_Things_25 xk_7 e5 t6 rfl ?_
    refine xe_icmp_ge (tgt := 30) dX8_hasCell_9 (by decide) (fun c7 => ?_) (fun c7 => ?_)
    · replace hF := if_p c7 hF
      refine xe_iload_n dX8_hasCell_12 rfl rfl ?_
      refine xe_if_lt (tgt := 30) dX8_hasCell_13 (by decide) (fun c8 => ?_) (fun c8 => ?_)
      · replace hF := if_p c8 hF
        refine xe_iconst (v := 0) dX8_hasCell_30 (by decide) ?_
        obtain ⟨z9, hF⟩ := bz_inv hF
        exact xe_ireturn dX8_hasCell_31 (xPZ_ret z9 hF)
      · replace hF := if_n c8 hF
        refine xe_iload_n dX8_hasCell_16 rfl rfl ?_
        refine xe_aload_n dX8_hasCell_17 rfl rfl ?_
        obtain ⟨a11, e12, t13, hF⟩ := gR_inv hF
        refine xq_getR dX8_hasCell_18 fl_Things_15 xk_7 e12 t13 rfl ?_
        refine xe_iload_n dX8_hasCell_21 rfl rfl ?_
        obtain ⟨a15, n16, e17, t18, b19, hF⟩ := aI_inv hF
        refine xq_iald dX8_hasCell_22 e17 t18 b19 ?_
        refine xe_icmp_ge (tgt := 30) dX8_hasCell_23 (by decide) (fun c20 => ?_) (fun c20 => ?_)
        · replace hF := if_p c20 hF
          refine xe_iconst (v := 1) dX8_hasCell_26 (by decide) ?_
          refine xe_goto (tgt := 31) dX8_hasCell_27 (by decide) ?_
          obtain ⟨z21, hF⟩ := bz_inv hF
          exact xe_ireturn dX8_hasCell_31 (xPZ_ret z21 hF)
        · replace hF := if_n c20 hF
          refine xe_iconst (v := 0) dX8_hasCell_30 (by decide) ?_
          obtain ⟨z22, hF⟩ := bz_inv hF
          exact xe_ireturn dX8_hasCell_31 (xPZ_ret z22 hF)
    · replace hF := if_n c7 hF
      refine xe_iconst (v := 0) dX8_hasCell_30 (by decide) ?_
      obtain ⟨z23, hF⟩ := bz_inv hF
      exact xe_ireturn dX8_hasCell_31 (xPZ_ret z23 hF)
/-! SeldomOps$Things.haveRoom([II)Z -/
def BX8_haveRoom_62 (x5 : Int64) (h0 : Hp) : Option (Int32 × Hp) :=
  if (60 : Int64) < x5 then
    bz 0 (some (0, h0))
  else
    bz 1 (some (1, h0))
set_option maxRecDepth 100000 in
set_option maxHeartbeats 4000000 in
theorem BX8_haveRoom_62_ok {G : xG} {l : Launch} {x5 : Int64} {h0 h1 : Hp} {r : Int32} (hF : BX8_haveRoom_62 x5 h0 = some (r, h1)) : xv G l mX8_haveRoom 1 0 0 62 [(5, true, .long x5)] [] h0 (xPZ r h1) := by
  unfold BX8_haveRoom_62 at hF
  refine xe_lload dX8_haveRoom_62 rfl ?_
  refine xe_ldc2 (v := 60) dX8_haveRoom_64 tw_835 ?_
  refine xe_lcmp dX8_haveRoom_67 ?_
  refine xe_lif_gt (tgt := 75) dX8_haveRoom_68 (by decide) (fun c1 => ?_) (fun c1 => ?_)
  · replace hF := if_p c1 hF
    refine xe_iconst (v := 0) dX8_haveRoom_75 (by decide) ?_
    obtain ⟨z2, hF⟩ := bz_inv hF
    exact xe_ireturn dX8_haveRoom_76 (xPZ_ret z2 hF)
  · replace hF := if_n c1 hF
    refine xe_iconst (v := 1) dX8_haveRoom_71 (by decide) ?_
    refine xe_goto (tgt := 76) dX8_haveRoom_72 (by decide) ?_
    obtain ⟨z3, hF⟩ := bz_inv hF
    exact xe_ireturn dX8_haveRoom_76 (xPZ_ret z3 hF)
def BX8_haveRoom_42 (k12 : Option Nat → Int32 → Int64 → Int64 → Int32 → Hp → Option (Int32 × Hp)) (x1 : Option Nat) (x2 : Int32) (x3 : Int64) (x5 : Int64) (x7 : Int32) (h0 : Hp) : Option (Int32 × Hp) :=
  aI h0 x1 .int x7 fun v1 =>
  k12 x1 x2 (x3 * (Int32.toInt64 v1)) (x5 + x3) (x7 + 1) h0
set_option maxRecDepth 100000 in
set_option maxHeartbeats 4000000 in
theorem BX8_haveRoom_42_ok {G : xG} {l : Launch} {k12 : Option Nat → Int32 → Int64 → Int64 → Int32 → Hp → Option (Int32 × Hp)} (hk12 : ∀ {x1 : Option Nat} {x2 : Int32} {x3 : Int64} {x5 : Int64} {x7 : Int32} {h0 h1 : Hp} {r : Int32}, k12 x1 x2 x3 x5 x7 h0 = some (r, h1) → xv G l mX8_haveRoom 1 0 0 12 [(1, false, va_rf x1), (2, false, .int x2), (3, true, .long x3), (5, true, .long x5), (7, false, .int x7)] [] h0 (xPZ r h1)) {x1 : Option Nat} {x2 : Int32} {x3 : Int64} {x5 : Int64} {x7 : Int32} {h0 h1 : Hp} {r : Int32} (hF : BX8_haveRoom_42 k12 x1 x2 x3 x5 x7 h0 = some (r, h1)) : xv G l mX8_haveRoom 1 0 0 42 [(1, false, va_rf x1), (2, false, .int x2), (3, true, .long x3), (5, true, .long x5), (7, false, .int x7)] [] h0 (xPZ r h1) := by
  unfold BX8_haveRoom_42 at hF
  refine xe_lload dX8_haveRoom_42 rfl ?_
  refine xe_lload_n dX8_haveRoom_44 rfl rfl ?_
  refine xe_ladd dX8_haveRoom_45 ?_
  refine xe_lstore dX8_haveRoom_46 (by decide) ?_
  refine xe_lload_n dX8_haveRoom_48 rfl rfl ?_
  refine xe_aload_n dX8_haveRoom_49 rfl rfl ?_
  refine xe_iload dX8_haveRoom_50 rfl ?_
  obtain ⟨a2, n3, e4, t5, b6, hF⟩ := aI_inv hF
  refine xq_iald dX8_haveRoom_52 e4 t5 b6 ?_
  refine xe_i2l dX8_haveRoom_53 ?_
  refine xe_lmul dX8_haveRoom_54 ?_
  refine xe_lstore_n dX8_haveRoom_55 rfl (by decide) ?_
  refine xe_iinc (v := _ + 1) dX8_haveRoom_56 rfl rfl (by decide) ?_
  refine xe_goto (tgt := 12) dX8_haveRoom_59 (by decide) ?_
  exact xv.lv (hk12 hF) (xsub_cons rfl (xsub_cons rfl (xsub_cons rfl (xsub_cons rfl (xsub_cons rfl xsub_nil)))))
def BX8_haveRoom_12 : Nat → Option Nat → Int32 → Int64 → Int64 → Int32 → Hp → Option (Int32 × Hp)
  | 0, _, _, _, _, _, _ => none
  | n + 1, x1, x2, x3, x5, x7, h0 =>
    if (x7 : Int32) < x2 then
      ln h0 x1 .int fun v2 =>
      if (x7 : Int32) < v2 then
        if (0 : Int64) < x3 then
          aI h0 x1 .int x7 fun v9 =>
          if (100 : Int32) < v9 then
            bz 0 (some (0, h0))
          else
            BX8_haveRoom_42 (BX8_haveRoom_12 n) x1 x2 x3 x5 x7 h0
        else
          BX8_haveRoom_42 (BX8_haveRoom_12 n) x1 x2 x3 x5 x7 h0
      else
        BX8_haveRoom_62 x5 h0
    else
      BX8_haveRoom_62 x5 h0
set_option maxRecDepth 100000 in
set_option maxHeartbeats 4000000 in
theorem BX8_haveRoom_12_ok {G : xG} {l : Launch} : ∀ (n : Nat) {x1 : Option Nat} {x2 : Int32} {x3 : Int64} {x5 : Int64} {x7 : Int32} {h0 h1 : Hp} {r : Int32} (hF : BX8_haveRoom_12 n x1 x2 x3 x5 x7 h0 = some (r, h1)), xv G l mX8_haveRoom 1 0 0 12 [(1, false, va_rf x1), (2, false, .int x2), (3, true, .long x3), (5, true, .long x5), (7, false, .int x7)] [] h0 (xPZ r h1) := by
  intro n
  induction n with
  | zero => intro x1 x2 x3 x5 x7 h0 h1 r hF; cases hF
  | succ n ih =>
    intro x1 x2 x3 x5 x7 h0 h1 r hF
    unfold BX8_haveRoom_12 at hF
    refine xe_iload dX8_haveRoom_12 rfl ?_
    refine xe_iload_n dX8_haveRoom_14 rfl rfl ?_
    refine xe_icmp_ge (tgt := 62) dX8_haveRoom_15 (by decide) (fun c1 => ?_) (fun c1 => ?_)
    · replace hF := if_p c1 hF
      refine xe_iload dX8_haveRoom_18 rfl ?_
      refine xe_aload_n dX8_haveRoom_20 rfl rfl ?_
      obtain ⟨a3, n4, e5, t6, hF⟩ := ln_inv hF
      refine xq_alen dX8_haveRoom_21 e5 t6 (by decide) ?_
      refine xe_icmp_ge (tgt := 62) dX8_haveRoom_22 (by decide) (fun c7 => ?_) (fun c7 => ?_)
      · replace hF := if_p c7 hF
        refine xe_lload_n dX8_haveRoom_25 rfl rfl ?_
        refine xe_lconst (v := 0) dX8_haveRoom_26 (by decide) ?_
        refine xe_lcmp dX8_haveRoom_27 ?_
        refine xe_lif_le (tgt := 42) dX8_haveRoom_28 (by decide) (fun c8 => ?_) (fun c8 => ?_)
        · replace hF := if_p c8 hF
          refine xe_aload_n dX8_haveRoom_31 rfl rfl ?_
          refine xe_iload dX8_haveRoom_32 rfl ?_
          obtain ⟨a10, n11, e12, t13, b14, hF⟩ := aI_inv hF
          refine xq_iald dX8_haveRoom_34 e12 t13 b14 ?_
          refine xe_bipush (v := 100) dX8_haveRoom_35 (by decide) ?_
          refine xe_icmp_le (tgt := 42) dX8_haveRoom_37 (by decide) (fun c15 => ?_) (fun c15 => ?_)
          · replace hF := if_p c15 hF
            refine xe_iconst (v := 0) dX8_haveRoom_40 (by decide) ?_
            obtain ⟨z16, hF⟩ := bz_inv hF
            exact xe_ireturn dX8_haveRoom_41 (xPZ_ret z16 hF)
          · replace hF := if_n c15 hF
            exact xv.lv (BX8_haveRoom_42_ok ih hF) (xsub_cons rfl (xsub_cons rfl (xsub_cons rfl (xsub_cons rfl (xsub_cons rfl xsub_nil)))))
        · replace hF := if_n c8 hF
          exact xv.lv (BX8_haveRoom_42_ok ih hF) (xsub_cons rfl (xsub_cons rfl (xsub_cons rfl (xsub_cons rfl (xsub_cons rfl xsub_nil)))))
      · replace hF := if_n c7 hF
        exact xv.lv (BX8_haveRoom_62_ok hF) (xsub_cons rfl xsub_nil)
    · replace hF := if_n c1 hF
      exact xv.lv (BX8_haveRoom_62_ok hF) (xsub_cons rfl xsub_nil)
def FX8_haveRoom (p0 : Option Nat) (p1 : Option Nat) (p2 : Int32) (h0 : Hp) : Option (Int32 × Hp) :=
  gI h0 p0 7 4 fun v1 =>
  BX8_haveRoom_12 100000 p1 p2 1 (Int32.toInt64 v1) 0 h0
set_option maxRecDepth 100000 in
set_option maxHeartbeats 4000000 in
theorem FX8_haveRoom_ok {G : xG} {l : Launch} {p0 : Option Nat} {p1 : Option Nat} {p2 : Int32} {h0 h1 : Hp} {r : Int32} (hF : FX8_haveRoom p0 p1 p2 h0 = some (r, h1)) : xc G l mX8_haveRoom 1 0 0 [va_rf p0, va_rf p1, .int p2] h0 (xPZ r h1) := by
  refine xo_Z [.inr (.inr _), .inr (.inr _), .inl _] (by decide) (Nat.le_of_ble_eq_true rfl) rfl ?_
  show xv _ _ _ _ _ _ _ [(0, false, va_rf p0), (1, false, va_rf p1), (2, false, .int p2)] _ _ _
  unfold FX8_haveRoom at hF
  refine xe_lconst (v := 1) dX8_haveRoom_0 (by decide) ?_
  refine xe_lstore_n dX8_haveRoom_1 rfl (by decide) ?_
  refine xe_aload_n dX8_haveRoom_2 rfl rfl ?_
  obtain ⟨a2, e3, t4, hF⟩ := gI_inv hF
  refine xq_getI dX8_haveRoom_3 fl_Things_25 xk_7 e3 t4 rfl ?_
  refine xe_i2l dX8_haveRoom_6 ?_
  refine xe_lstore dX8_haveRoom_7 (by decide) ?_
  refine xe_iconst (v := 0) dX8_haveRoom_9 (by decide) ?_
  refine xe_istore dX8_haveRoom_10 (by decide) ?_
  exact xv.lv (BX8_haveRoom_12_ok _ hF) (xsub_cons rfl (xsub_cons rfl (xsub_cons rfl (xsub_cons rfl (xsub_cons rfl xsub_nil)))))
/-! SeldomOps$Things.<init>()V -/
def FX8_init (p0 : Option Nat) (h0 : Hp) : Option (Unit × Hp) :=
  nz p0 none <|
  nA h0 (.inr (.int, 60)) fun v3 h4 =>
  pR h4 p0 7 0 (some v3) fun h10 =>
  nA h10 (.inr (.int, 60)) fun v12 h13 =>
  pR h13 p0 7 1 (some v12) fun h19 =>
  nA h19 (.inr (.int, 60)) fun v21 h22 =>
  pR h22 p0 7 2 (some v21) fun h28 =>
  nA h28 (.inr (.long, 6000)) fun v30 h31 =>
  pR h31 p0 7 3 (some v30) fun h37 =>
  pI h37 p0 7 4 0 fun h42 =>
  some ((), h42)
set_option maxRecDepth 100000 in
set_option maxHeartbeats 4000000 in
theorem FX8_init_ok {G : xG} {l : Launch} {p0 : Option Nat} {h0 h1 : Hp} {r : Unit} (hF : FX8_init p0 h0 = some (r, h1)) : xc G l mX8_init 1 4 6180 [va_rf p0] h0 (xP mkV r h1) := by
  refine xo_V [.inr (.inr _)] (by decide) (Nat.le_of_ble_eq_true rfl) rfl ?_
  show xv _ _ _ _ _ _ _ [(0, false, va_rf p0)] _ _ _
  unfold FX8_init at hF
  refine xe_aload_n dX8_init_0 rfl rfl ?_
  obtain ⟨a2, e1, hF⟩ := nzn_inv hF
  refine xq_objInit dX8_init_1 ⟨tw_133, tw_22, tw_23⟩ (by decide) (by decide) e1 ?_
  refine xe_aload_n dX8_init_4 rfl rfl ?_
  refine xe_bipush (v := 60) dX8_init_5 (by decide) ?_
  obtain ⟨v3, h4, e5, e6, hF⟩ := nA_inv hF
  refine xv.weaken (xn_newa (t := .int) (N := 60) (k := 3) (n := 6120) dX8_init_7 rfl (Or.inl rfl) tw_153 (by decide) (by decide) (by decide) e5 e6 ?_) (by first | decide | omega) (by first | decide | (simp only [xnf]; omega))
  obtain ⟨a7, e8, t9, hF⟩ := pR_inv hF
  refine xq_putR dX8_init_9 fl_Things_9 xk_7 (by decide) (fun _ => ⟨rfl, _, _, rfl⟩) e8 t9 (Or.inr ⟨_, rfl⟩) ?_
  refine xe_aload_n dX8_init_12 rfl rfl ?_
  refine xe_bipush (v := 60) dX8_init_13 (by decide) ?_
  obtain ⟨v12, h13, e14, e15, hF⟩ := nA_inv hF
  refine xv.weaken (xn_newa (t := .int) (N := 60) (k := 2) (n := 6060) dX8_init_15 rfl (Or.inl rfl) tw_153 (by decide) (by decide) (by decide) e14 e15 ?_) (by first | decide | omega) (by first | decide | (simp only [xnf]; omega))
  obtain ⟨a16, e17, t18, hF⟩ := pR_inv hF
  refine xq_putR dX8_init_17 fl_Things_15 xk_7 (by decide) (fun _ => ⟨rfl, _, _, rfl⟩) e17 t18 (Or.inr ⟨_, rfl⟩) ?_
  refine xe_aload_n dX8_init_20 rfl rfl ?_
  refine xe_bipush (v := 60) dX8_init_21 (by decide) ?_
  obtain ⟨v21, h22, e23, e24, hF⟩ := nA_inv hF
  refine xv.weaken (xn_newa (t := .int) (N := 60) (k := 1) (n := 6000) dX8_init_23 rfl (Or.inl rfl) tw_153 (by decide) (by decide) (by decide) e23 e24 ?_) (by first | decide | omega) (by first | decide | (simp only [xnf]; omega))
  obtain ⟨a25, e26, t27, hF⟩ := pR_inv hF
  refine xq_putR dX8_init_25 fl_Things_18 xk_7 (by decide) (fun _ => ⟨rfl, _, _, rfl⟩) e26 t27 (Or.inr ⟨_, rfl⟩) ?_
  refine xe_aload_n dX8_init_28 rfl rfl ?_
  refine xe_sipush (v := 6000) dX8_init_29 (by decide) ?_
  obtain ⟨v30, h31, e32, e33, hF⟩ := nA_inv hF
  refine xv.weaken (xn_newa (t := .long) (N := 6000) (k := 0) (n := 0) dX8_init_32 rfl (Or.inr (Or.inl rfl)) tw_59 (by decide) (by decide) (by decide) e32 e33 ?_) (by first | decide | omega) (by first | decide | (simp only [xnf]; omega))
  obtain ⟨a34, e35, t36, hF⟩ := pR_inv hF
  refine xq_putR dX8_init_34 fl_Things_21 xk_7 (by decide) (fun _ => ⟨rfl, _, _, rfl⟩) e35 t36 (Or.inr ⟨_, rfl⟩) ?_
  refine xe_aload_n dX8_init_37 rfl rfl ?_
  refine xe_iconst (v := 0) dX8_init_38 (by decide) ?_
  obtain ⟨a39, e40, t41, hF⟩ := pI_inv hF
  refine xq_putI dX8_init_39 fl_Things_25 xk_7 (by decide) (fun z => by cases z) e40 t41 (Or.inl rfl) ?_
  exact xe_return dX8_init_42 (xP_ret (mk := mkV) hF)
/-! SeldomOps$Things.isArray(I)Z -/
def FX8_isArray (p0 : Option Nat) (p1 : Int32) (h0 : Hp) : Option (Int32 × Hp) :=
  gI h0 p0 7 4 fun v1 =>
  cl (FX11_within p1 v1 h0) fun v5 h6 =>
  if (v5 : Int32) = 0 then
    bz 0 (some (0, h6))
  else
    gR h6 p0 7 0 fun v10 =>
    aI h6 v10 .int p1 fun v14 =>
    if (v14 : Int32) < 0 then
      bz 0 (some (0, h6))
    else
      bz 1 (some (1, h6))
set_option maxRecDepth 100000 in
set_option maxHeartbeats 4000000 in
theorem FX8_isArray_ok {G : xG} {l : Launch} {p0 : Option Nat} {p1 : Int32} {h0 h1 : Hp} {r : Int32} (hF : FX8_isArray p0 p1 h0 = some (r, h1)) : xc G l mX8_isArray 2 0 0 [va_rf p0, .int p1] h0 (xPZ r h1) := by
  refine xo_Z [.inr (.inr _), .inl _] (by decide) (Nat.le_of_ble_eq_true rfl) rfl ?_
  show xv _ _ _ _ _ _ _ [(0, false, va_rf p0), (1, false, .int p1)] _ _ _
  unfold FX8_isArray at hF
  refine xe_iload_n dX8_isArray_0 rfl rfl ?_
  refine xe_aload_n dX8_isArray_1 rfl rfl ?_
  obtain ⟨a2, e3, t4, hF⟩ := gI_inv hF
  refine xq_getI dX8_isArray_2 fl_Things_25 xk_7 e3 t4 rfl ?_
  obtain ⟨v5, h6, o7, hF⟩ := cl_inv hF
  refine xz (xq_callSN (As := [.int _, .int _]) (rest := []) dX8_isArray_5 mk_X11_within ⟨tn_867, tw_264⟩ (FX11_within_ok o7) xPZ_q (by decide) (by decide) rfl rfl ?_)
  refine xe_if_eq (tgt := 24) dX8_isArray_8 (by decide) (fun c8 => ?_) (fun c8 => ?_)
  · replace hF := if_p c8 hF
    refine xe_iconst (v := 0) dX8_isArray_24 (by decide) ?_
    obtain ⟨z9, hF⟩ := bz_inv hF
    exact xe_ireturn dX8_isArray_25 (xPZ_ret z9 hF)
  · replace hF := if_n c8 hF
    refine xe_aload_n dX8_isArray_11 rfl rfl ?_
    obtain ⟨a11, e12, t13, hF⟩ := gR_inv hF
    refine xq_getR dX8_isArray_12 fl_Things_9 xk_7 e12 t13 rfl ?_
    refine xe_iload_n dX8_isArray_15 rfl rfl ?_
    obtain ⟨a15, n16, e17, t18, b19, hF⟩ := aI_inv hF
    refine xq_iald dX8_isArray_16 e17 t18 b19 ?_
    refine xe_if_lt (tgt := 24) dX8_isArray_17 (by decide) (fun c20 => ?_) (fun c20 => ?_)
    · replace hF := if_p c20 hF
      refine xe_iconst (v := 0) dX8_isArray_24 (by decide) ?_
      obtain ⟨z21, hF⟩ := bz_inv hF
      exact xe_ireturn dX8_isArray_25 (xPZ_ret z21 hF)
    · replace hF := if_n c20 hF
      refine xe_iconst (v := 1) dX8_isArray_20 (by decide) ?_
      refine xe_goto (tgt := 25) dX8_isArray_21 (by decide) ?_
      obtain ⟨z22, hF⟩ := bz_inv hF
      exact xe_ireturn dX8_isArray_25 (xPZ_ret z22 hF)
/-! SeldomOps$Things.isOfType(II)Z -/
def FX8_isOfType (p0 : Option Nat) (p1 : Int32) (p2 : Int32) (h0 : Hp) : Option (Int32 × Hp) :=
  gI h0 p0 7 4 fun v1 =>
  cl (FX11_within p1 v1 h0) fun v5 h6 =>
  if (v5 : Int32) = 0 then
    bz 0 (some (0, h6))
  else
    gR h6 p0 7 0 fun v10 =>
    aI h6 v10 .int p1 fun v14 =>
    if (v14 : Int32) = p2 then
      bz 1 (some (1, h6))
    else
      bz 0 (some (0, h6))
set_option maxRecDepth 100000 in
set_option maxHeartbeats 4000000 in
theorem FX8_isOfType_ok {G : xG} {l : Launch} {p0 : Option Nat} {p1 : Int32} {p2 : Int32} {h0 h1 : Hp} {r : Int32} (hF : FX8_isOfType p0 p1 p2 h0 = some (r, h1)) : xc G l mX8_isOfType 2 0 0 [va_rf p0, .int p1, .int p2] h0 (xPZ r h1) := by
  refine xo_Z [.inr (.inr _), .inl _, .inl _] (by decide) (Nat.le_of_ble_eq_true rfl) rfl ?_
  show xv _ _ _ _ _ _ _ [(0, false, va_rf p0), (1, false, .int p1), (2, false, .int p2)] _ _ _
  unfold FX8_isOfType at hF
  refine xe_iload_n dX8_isOfType_0 rfl rfl ?_
  refine xe_aload_n dX8_isOfType_1 rfl rfl ?_
  obtain ⟨a2, e3, t4, hF⟩ := gI_inv hF
  refine xq_getI dX8_isOfType_2 fl_Things_25 xk_7 e3 t4 rfl ?_
  obtain ⟨v5, h6, o7, hF⟩ := cl_inv hF
  refine xz (xq_callSN (As := [.int _, .int _]) (rest := []) dX8_isOfType_5 mk_X11_within ⟨tn_867, tw_264⟩ (FX11_within_ok o7) xPZ_q (by decide) (by decide) rfl rfl ?_)
  refine xe_if_eq (tgt := 25) dX8_isOfType_8 (by decide) (fun c8 => ?_) (fun c8 => ?_)
  · replace hF := if_p c8 hF
    refine xe_iconst (v := 0) dX8_isOfType_25 (by decide) ?_
    obtain ⟨z9, hF⟩ := bz_inv hF
    exact xe_ireturn dX8_isOfType_26 (xPZ_ret z9 hF)
  · replace hF := if_n c8 hF
    refine xe_aload_n dX8_isOfType_11 rfl rfl ?_
    obtain ⟨a11, e12, t13, hF⟩ := gR_inv hF
    refine xq_getR dX8_isOfType_12 fl_Things_9 xk_7 e12 t13 rfl ?_
    refine xe_iload_n dX8_isOfType_15 rfl rfl ?_
    obtain ⟨a15, n16, e17, t18, b19, hF⟩ := aI_inv hF
    refine xq_iald dX8_isOfType_16 e17 t18 b19 ?_
    refine xe_iload_n dX8_isOfType_17 rfl rfl ?_
    refine xe_icmp_ne (tgt := 25) dX8_isOfType_18 (by decide) (fun c20 => ?_) (fun c20 => ?_)
    · replace hF := if_p c20 hF
      refine xe_iconst (v := 1) dX8_isOfType_21 (by decide) ?_
      refine xe_goto (tgt := 26) dX8_isOfType_22 (by decide) ?_
      obtain ⟨z21, hF⟩ := bz_inv hF
      exact xe_ireturn dX8_isOfType_26 (xPZ_ret z21 hF)
    · replace hF := if_n c20 hF
      refine xe_iconst (v := 0) dX8_isOfType_25 (by decide) ?_
      obtain ⟨z22, hF⟩ := bz_inv hF
      exact xe_ireturn dX8_isOfType_26 (xPZ_ret z22 hF)
/-! SeldomOps$Things.makeFailure(I)I -/
def FX8_makeFailure (p0 : Option Nat) (p1 : Int32) (h0 : Hp) : Option (Int32 × Hp) :=
  rcv h0 p0 7 <|
  cl (FX8_add p0 ((-100) + p1) 0 h0) fun v1 h2 =>
  some (v1, h2)
set_option maxRecDepth 100000 in
set_option maxHeartbeats 4000000 in
theorem FX8_makeFailure_ok {G : xG} {l : Launch} {p0 : Option Nat} {p1 : Int32} {h0 h1 : Hp} {r : Int32} (hF : FX8_makeFailure p0 p1 h0 = some (r, h1)) : xc G l mX8_makeFailure 2 0 0 [va_rf p0, .int p1] h0 (xP mkI r h1) := by
  refine xo_I [.inr (.inr _), .inl _] (by decide) (Nat.le_of_ble_eq_true rfl) rfl ?_
  show xv _ _ _ _ _ _ _ [(0, false, va_rf p0), (1, false, .int p1)] _ _ _
  unfold FX8_makeFailure at hF
  refine xe_aload_n dX8_makeFailure_0 rfl rfl ?_
  refine xe_bipush (v := (-100)) dX8_makeFailure_1 (by decide) ?_
  refine xe_iload_n dX8_makeFailure_3 rfl rfl ?_
  refine xe_iadd dX8_makeFailure_4 ?_
  refine xe_iconst (v := 0) dX8_makeFailure_5 (by decide) ?_
  obtain ⟨a6, e4, t5, hF⟩ := rcv_inv hF
  obtain ⟨v1, h2, o3, hF⟩ := cl_inv hF
  refine xz (xq_callV (As := [.int _, .int _]) (rest := []) dX8_makeFailure_6 mk_X8_add ⟨tw_839, tw_841, ts_27⟩ (ci := 7) rfl e4 t5 (FX8_add_ok o3) xP_q (by decide) (by decide) rfl rfl ?_)
  exact xe_ireturn dX8_makeFailure_9 (xP_ret (mk := mkI) hF)
/-! SeldomOps$Things.write(IIJ)V -/
def FX8_write (p0 : Option Nat) (p1 : Int32) (p2 : Int32) (p3 : Int64) (h0 : Hp) : Option (Unit × Hp) :=
  rcv h0 p0 7 <|
  cl (FX8_hasCell p0 p1 p2 h0) fun v1 h2 =>
  if (v1 : Int32) = 0 then
    some ((), h2)
  else
    gR h2 p0 7 3 fun v8 =>
    sL h2 v8 ((p1 * 100) + p2) p3 fun h12 =>
    some ((), h12)
set_option maxRecDepth 100000 in
set_option maxHeartbeats 4000000 in
theorem FX8_write_ok {G : xG} {l : Launch} {p0 : Option Nat} {p1 : Int32} {p2 : Int32} {p3 : Int64} {h0 h1 : Hp} {r : Unit} (hF : FX8_write p0 p1 p2 p3 h0 = some (r, h1)) : xc G l mX8_write 2 0 0 [va_rf p0, .int p1, .int p2, .long p3] h0 (xP mkV r h1) := by
  refine xo_V [.inr (.inr _), .inl _, .inl _, .inr (.inl _)] (by decide) (Nat.le_of_ble_eq_true rfl) rfl ?_
  show xv _ _ _ _ _ _ _ [(0, false, va_rf p0), (1, false, .int p1), (2, false, .int p2), (3, true, .long p3)] _ _ _
  unfold FX8_write at hF
  refine xe_aload_n dX8_write_0 rfl rfl ?_
  refine xe_iload_n dX8_write_1 rfl rfl ?_
  refine xe_iload_n dX8_write_2 rfl rfl ?_
  obtain ⟨a6, e4, t5, hF⟩ := rcv_inv hF
  obtain ⟨v1, h2, o3, hF⟩ := cl_inv hF
  refine xz (xq_callV (As := [.int _, .int _]) (rest := []) dX8_write_3 mk_X8_hasCell ⟨tw_851, tw_852, tw_853⟩ (ci := 7) rfl e4 t5 (FX8_hasCell_ok o3) xPZ_q (by decide) (by decide) rfl rfl ?_)
  refine xe_if_eq (tgt := 21) dX8_write_6 (by decide) (fun c7 => ?_) (fun c7 => ?_)
  · replace hF := if_p c7 hF
    exact xe_return dX8_write_21 (xP_ret (mk := mkV) hF)
  · replace hF := if_n c7 hF
    refine xe_aload_n dX8_write_9 rfl rfl ?_
    obtain ⟨a9, e10, t11, hF⟩ := gR_inv hF
    refine xq_getR dX8_write_10 fl_Things_21 xk_7 e10 t11 rfl ?_
    refine xe_iload_n dX8_write_13 rfl rfl ?_
    refine xe_bipush (v := 100) dX8_write_14 (by decide) ?_
    refine xe_imul dX8_write_16 ?_
    refine xe_iload_n dX8_write_17 rfl rfl ?_
    refine xe_iadd dX8_write_18 ?_
    refine xe_lload_n dX8_write_19 rfl rfl ?_
    obtain ⟨a13, n14, e15, t16, b17, hF⟩ := sL_inv hF
    refine xq_last dX8_write_20 e15 t16 b17 ?_
    exact xe_return dX8_write_21 (xP_ret (mk := mkV) hF)
/-! SeldomOps$Things.makeRow(LSeldomOps$Things;I[III)I -/
def BX8_makeRow_79 (kr : Option Nat → Int32 → Option Nat → Int32 → Int32 → Hp → Option (Int32 × Hp)) (k42 : Option Nat → Int32 → Option Nat → Int32 → Int32 → Int32 → Int32 → Int32 → Hp → Option (Int32 × Hp)) (x0 : Option Nat) (x1 : Int32) (x2 : Option Nat) (x3 : Int32) (x4 : Int32) (x5 : Int32) (x6 : Int32) (x7 : Int32) (s0 : Option Nat) (s1 : Int32) (s2 : Int32) (s3 : Int64) (h0 : Hp) : Option (Int32 × Hp) :=
  rcv h0 s0 7 <|
  cl (FX8_write s0 s1 s2 s3 h0) fun v1 h2 =>
  k42 x0 x1 x2 x3 x4 x5 x6 (x7 + 1) h2
set_option maxRecDepth 100000 in
set_option maxHeartbeats 4000000 in
theorem BX8_makeRow_79_ok {G : xG} {l : Launch} {f : Nat} {kr : Option Nat → Int32 → Option Nat → Int32 → Int32 → Hp → Option (Int32 × Hp)} (hkr : ∀ {p0 : Option Nat} {p1 : Int32} {p2 : Option Nat} {p3 : Int32} {p4 : Int32} {h0 h1 : Hp} {r : Int32}, kr p0 p1 p2 p3 p4 h0 = some (r, h1) → xc G l mX8_makeRow (3 + f) 0 0 [va_rf p0, .int p1, va_rf p2, .int p3, .int p4] h0 (xP mkI r h1)) {k42 : Option Nat → Int32 → Option Nat → Int32 → Int32 → Int32 → Int32 → Int32 → Hp → Option (Int32 × Hp)} (hk42 : ∀ {x0 : Option Nat} {x1 : Int32} {x2 : Option Nat} {x3 : Int32} {x4 : Int32} {x5 : Int32} {x6 : Int32} {x7 : Int32} {h0 h1 : Hp} {r : Int32}, k42 x0 x1 x2 x3 x4 x5 x6 x7 h0 = some (r, h1) → xv G l mX8_makeRow (3 + (f + 1)) 0 0 42 [(0, false, va_rf x0), (1, false, .int x1), (2, false, va_rf x2), (3, false, .int x3), (4, false, .int x4), (5, false, .int x5), (6, false, .int x6), (7, false, .int x7)] [] h0 (xP mkI r h1)) {x0 : Option Nat} {x1 : Int32} {x2 : Option Nat} {x3 : Int32} {x4 : Int32} {x5 : Int32} {x6 : Int32} {x7 : Int32} {s0 : Option Nat} {s1 : Int32} {s2 : Int32} {s3 : Int64} {h0 h1 : Hp} {r : Int32} (hF : BX8_makeRow_79 kr k42 x0 x1 x2 x3 x4 x5 x6 x7 s0 s1 s2 s3 h0 = some (r, h1)) : xv G l mX8_makeRow (3 + (f + 1)) 0 0 79 [(0, false, va_rf x0), (1, false, .int x1), (2, false, va_rf x2), (3, false, .int x3), (4, false, .int x4), (5, false, .int x5), (6, false, .int x6), (7, false, .int x7)] [.long s3, .int s2, .int s1, va_rf s0] h0 (xP mkI r h1) := by
  unfold BX8_makeRow_79 at hF
  obtain ⟨a6, e4, t5, hF⟩ := rcv_inv hF
  obtain ⟨v1, h2, o3, hF⟩ := cl_inv hF
  refine xz (xq_callV (As := [.int _, .int _, .long _]) (rest := []) dX8_makeRow_79 mk_X8_write ⟨tw_847, tw_848, tw_849⟩ (ci := 7) rfl e4 t5 (FX8_write_ok o3) xP_q (by omega) (by decide) rfl rfl ?_)
  refine xe_iinc (v := _ + 1) dX8_makeRow_82 rfl rfl (by decide) ?_
  refine xe_goto (tgt := 42) dX8_makeRow_85 (by decide) ?_
  exact xv.lv (hk42 hF) (xsub_cons rfl (xsub_cons rfl (xsub_cons rfl (xsub_cons rfl (xsub_cons rfl (xsub_cons rfl (xsub_cons rfl (xsub_cons rfl xsub_nil))))))))
def BX8_makeRow_42 (kr : Option Nat → Int32 → Option Nat → Int32 → Int32 → Hp → Option (Int32 × Hp)) : Nat → Option Nat → Int32 → Option Nat → Int32 → Int32 → Int32 → Int32 → Int32 → Hp → Option (Int32 × Hp)
  | 0, _, _, _, _, _, _, _, _, _ => none
  | n + 1, x0, x1, x2, x3, x4, x5, x6, x7, h0 =>
    aI h0 x2 .int x3 fun v1 =>
    if (x7 : Int32) < v1 then
      if (x6 : Int32) = 0 then
        BX8_makeRow_79 kr (BX8_makeRow_42 kr n) x0 x1 x2 x3 x4 x5 x6 x7 x0 x5 x7 0 h0
      else
        cl (kr x0 (x1 - 8) x2 (x3 + 1) x4 h0) fun v9 h10 =>
        BX8_makeRow_79 kr (BX8_makeRow_42 kr n) x0 x1 x2 x3 x4 x5 x6 x7 x0 x5 x7 (Int32.toInt64 v9) h10
    else
      some (x5, h0)
set_option maxRecDepth 100000 in
set_option maxHeartbeats 4000000 in
theorem BX8_makeRow_42_ok {G : xG} {l : Launch} {f : Nat} {kr : Option Nat → Int32 → Option Nat → Int32 → Int32 → Hp → Option (Int32 × Hp)} (hkr : ∀ {p0 : Option Nat} {p1 : Int32} {p2 : Option Nat} {p3 : Int32} {p4 : Int32} {h0 h1 : Hp} {r : Int32}, kr p0 p1 p2 p3 p4 h0 = some (r, h1) → xc G l mX8_makeRow (3 + f) 0 0 [va_rf p0, .int p1, va_rf p2, .int p3, .int p4] h0 (xP mkI r h1)) : ∀ (n : Nat) {x0 : Option Nat} {x1 : Int32} {x2 : Option Nat} {x3 : Int32} {x4 : Int32} {x5 : Int32} {x6 : Int32} {x7 : Int32} {h0 h1 : Hp} {r : Int32} (hF : BX8_makeRow_42 kr n x0 x1 x2 x3 x4 x5 x6 x7 h0 = some (r, h1)), xv G l mX8_makeRow (3 + (f + 1)) 0 0 42 [(0, false, va_rf x0), (1, false, .int x1), (2, false, va_rf x2), (3, false, .int x3), (4, false, .int x4), (5, false, .int x5), (6, false, .int x6), (7, false, .int x7)] [] h0 (xP mkI r h1) := by
  intro n
  induction n with
  | zero => intro x0 x1 x2 x3 x4 x5 x6 x7 h0 h1 r hF; cases hF
  | succ n ih =>
    intro x0 x1 x2 x3 x4 x5 x6 x7 h0 h1 r hF
    unfold BX8_makeRow_42 at hF
    refine xe_iload dX8_makeRow_42 rfl ?_
    refine xe_aload_n dX8_makeRow_44 rfl rfl ?_
    refine xe_iload_n dX8_makeRow_45 rfl rfl ?_
    obtain ⟨a2, n3, e4, t5, b6, hF⟩ := aI_inv hF
    refine xq_iald dX8_makeRow_46 e4 t5 b6 ?_
    refine xe_icmp_ge (tgt := 88) dX8_makeRow_47 (by decide) (fun c7 => ?_) (fun c7 => ?_)
    · replace hF := if_p c7 hF
      refine xe_aload_n dX8_makeRow_50 rfl rfl ?_
      refine xe_iload dX8_makeRow_51 rfl ?_
      refine xe_iload dX8_makeRow_53 rfl ?_
      refine xe_iload dX8_makeRow_55 rfl ?_
      refine xe_if_eq (tgt := 78) dX8_makeRow_57 (by decide) (fun c8 => ?_) (fun c8 => ?_)
      · replace hF := if_p c8 hF
        refine xe_lconst (v := 0) dX8_makeRow_78 (by decide) ?_
        exact xv.lv (BX8_makeRow_79_ok hkr ih hF) (xsub_cons rfl (xsub_cons rfl (xsub_cons rfl (xsub_cons rfl (xsub_cons rfl (xsub_cons rfl (xsub_cons rfl (xsub_cons rfl xsub_nil))))))))
      · replace hF := if_n c8 hF
        refine xe_aload_n dX8_makeRow_60 rfl rfl ?_
        refine xe_iload_n dX8_makeRow_61 rfl rfl ?_
        refine xe_bipush (v := 8) dX8_makeRow_62 (by decide) ?_
        refine xe_isub dX8_makeRow_64 ?_
        refine xe_aload_n dX8_makeRow_65 rfl rfl ?_
        refine xe_iload_n dX8_makeRow_66 rfl rfl ?_
        refine xe_iconst (v := 1) dX8_makeRow_67 (by decide) ?_
        refine xe_iadd dX8_makeRow_68 ?_
        refine xe_iload dX8_makeRow_69 rfl ?_
        obtain ⟨v9, h10, o11, hF⟩ := cl_inv hF
        refine xz (xq_callS (As := [va_rf _, .int _, va_rf _, .int _, .int _]) (rest := [.int _, .int _, va_rf _]) dX8_makeRow_71 mk_X8_makeRow ⟨tw_846, tw_837⟩ (hkr o11) xP_q (by omega) (Nat.le_trans (cs_i (cs_i (cs_r cs_0))) (by decide)) rfl rfl ?_)
        refine xe_i2l dX8_makeRow_74 ?_
        refine xe_goto (tgt := 79) dX8_makeRow_75 (by decide) ?_
        exact xv.lv (BX8_makeRow_79_ok hkr ih hF) (xsub_cons rfl (xsub_cons rfl (xsub_cons rfl (xsub_cons rfl (xsub_cons rfl (xsub_cons rfl (xsub_cons rfl (xsub_cons rfl xsub_nil))))))))
    · replace hF := if_n c7 hF
      refine xe_iload dX8_makeRow_88 rfl ?_
      exact xe_ireturn dX8_makeRow_90 (xP_ret (mk := mkI) hF)
def BX8_makeRow_37 (kr : Option Nat → Int32 → Option Nat → Int32 → Int32 → Hp → Option (Int32 × Hp)) (x0 : Option Nat) (x1 : Int32) (x2 : Option Nat) (x3 : Int32) (x4 : Int32) (x5 : Int32) (s0 : Int32) (h0 : Hp) : Option (Int32 × Hp) :=
  BX8_makeRow_42 kr 100000 x0 x1 x2 x3 x4 x5 s0 0 h0
set_option maxRecDepth 100000 in
set_option maxHeartbeats 4000000 in
theorem BX8_makeRow_37_ok {G : xG} {l : Launch} {f : Nat} {kr : Option Nat → Int32 → Option Nat → Int32 → Int32 → Hp → Option (Int32 × Hp)} (hkr : ∀ {p0 : Option Nat} {p1 : Int32} {p2 : Option Nat} {p3 : Int32} {p4 : Int32} {h0 h1 : Hp} {r : Int32}, kr p0 p1 p2 p3 p4 h0 = some (r, h1) → xc G l mX8_makeRow (3 + f) 0 0 [va_rf p0, .int p1, va_rf p2, .int p3, .int p4] h0 (xP mkI r h1)) {x0 : Option Nat} {x1 : Int32} {x2 : Option Nat} {x3 : Int32} {x4 : Int32} {x5 : Int32} {s0 : Int32} {h0 h1 : Hp} {r : Int32} (hF : BX8_makeRow_37 kr x0 x1 x2 x3 x4 x5 s0 h0 = some (r, h1)) : xv G l mX8_makeRow (3 + (f + 1)) 0 0 37 [(0, false, va_rf x0), (1, false, .int x1), (2, false, va_rf x2), (3, false, .int x3), (4, false, .int x4), (5, false, .int x5)] [.int s0] h0 (xP mkI r h1) := by
  unfold BX8_makeRow_37 at hF
  refine xe_istore dX8_makeRow_37 (by decide) ?_
  refine xe_iconst (v := 0) dX8_makeRow_39 (by decide) ?_
  refine xe_istore dX8_makeRow_40 (by decide) ?_
  exact xv.lv (BX8_makeRow_42_ok hkr _ hF) (xsub_cons rfl (xsub_cons rfl (xsub_cons rfl (xsub_cons rfl (xsub_cons rfl (xsub_cons rfl (xsub_cons rfl (xsub_cons rfl xsub_nil))))))))
def EX8_makeRow (kr : Option Nat → Int32 → Option Nat → Int32 → Int32 → Hp → Option (Int32 × Hp)) (p0 : Option Nat) (p1 : Int32) (p2 : Option Nat) (p3 : Int32) (p4 : Int32) (h0 : Hp) : Option (Int32 × Hp) :=
  if (p3 : Int32) < p4 then
    ln h0 p2 .int fun v2 =>
    if (p3 : Int32) < v2 then
      aI h0 p2 .int p3 fun v8 =>
      rcv h0 p0 7 <|
      cl (FX8_add p0 p1 v8 h0) fun v14 h15 =>
      cl (FX8_cellSort p1 h15) fun v20 h21 =>
      if (v20 : Int32) = 4 then
        BX8_makeRow_37 kr p0 p1 p2 p3 p4 v14 1 h21
      else
        BX8_makeRow_37 kr p0 p1 p2 p3 p4 v14 0 h21
    else
      some ((-1), h0)
  else
    some ((-1), h0)
def FX8_makeRow : Nat → Option Nat → Int32 → Option Nat → Int32 → Int32 → Hp → Option (Int32 × Hp)
  | 0, _, _, _, _, _, _ => none
  | f + 1, p0, p1, p2, p3, p4, h0 => EX8_makeRow (FX8_makeRow f) p0 p1 p2 p3 p4 h0
set_option maxRecDepth 100000 in
set_option maxHeartbeats 4000000 in
theorem EX8_makeRow_ok {G : xG} {l : Launch} {f : Nat} {kr : Option Nat → Int32 → Option Nat → Int32 → Int32 → Hp → Option (Int32 × Hp)} (hkr : ∀ {p0 : Option Nat} {p1 : Int32} {p2 : Option Nat} {p3 : Int32} {p4 : Int32} {h0 h1 : Hp} {r : Int32}, kr p0 p1 p2 p3 p4 h0 = some (r, h1) → xc G l mX8_makeRow (3 + f) 0 0 [va_rf p0, .int p1, va_rf p2, .int p3, .int p4] h0 (xP mkI r h1)) {p0 : Option Nat} {p1 : Int32} {p2 : Option Nat} {p3 : Int32} {p4 : Int32} {h0 h1 : Hp} {r : Int32} (hF : EX8_makeRow kr p0 p1 p2 p3 p4 h0 = some (r, h1)) : xc G l mX8_makeRow (3 + (f + 1)) 0 0 [va_rf p0, .int p1, va_rf p2, .int p3, .int p4] h0 (xP mkI r h1) := by
  refine xo_I [.inr (.inr _), .inl _, .inr (.inr _), .inl _, .inl _] (by decide) (Nat.le_of_ble_eq_true rfl) rfl ?_
  show xv _ _ _ _ _ _ _ [(0, false, va_rf p0), (1, false, .int p1), (2, false, va_rf p2), (3, false, .int p3), (4, false, .int p4)] _ _ _
  unfold EX8_makeRow at hF
  refine xe_iload_n dX8_makeRow_0 rfl rfl ?_
  refine xe_iload dX8_makeRow_1 rfl ?_
  refine xe_icmp_ge (tgt := 12) dX8_makeRow_3 (by decide) (fun c1 => ?_) (fun c1 => ?_)
  · replace hF := if_p c1 hF
    refine xe_iload_n dX8_makeRow_6 rfl rfl ?_
    refine xe_aload_n dX8_makeRow_7 rfl rfl ?_
    obtain ⟨a3, n4, e5, t6, hF⟩ := ln_inv hF
    refine xq_alen dX8_makeRow_8 e5 t6 (by decide) ?_
    refine xe_icmp_lt (tgt := 14) dX8_makeRow_9 (by decide) (fun c7 => ?_) (fun c7 => ?_)
    · replace hF := if_p c7 hF
      refine xe_aload_n dX8_makeRow_14 rfl rfl ?_
      refine xe_iload_n dX8_makeRow_15 rfl rfl ?_
      refine xe_aload_n dX8_makeRow_16 rfl rfl ?_
      refine xe_iload_n dX8_makeRow_17 rfl rfl ?_
      obtain ⟨a9, n10, e11, t12, b13, hF⟩ := aI_inv hF
      refine xq_iald dX8_makeRow_18 e11 t12 b13 ?_
      obtain ⟨a19, e17, t18, hF⟩ := rcv_inv hF
      obtain ⟨v14, h15, o16, hF⟩ := cl_inv hF
      refine xz (xq_callV (As := [.int _, .int _]) (rest := []) dX8_makeRow_19 mk_X8_add ⟨tw_839, tw_841, ts_27⟩ (ci := 7) rfl e17 t18 (FX8_add_ok o16) xP_q (by omega) (by decide) rfl rfl ?_)
      refine xe_istore dX8_makeRow_22 (by decide) ?_
      refine xe_iload_n dX8_makeRow_24 rfl rfl ?_
      obtain ⟨v20, h21, o22, hF⟩ := cl_inv hF
      refine xz (xq_callS (As := [.int _]) (rest := []) dX8_makeRow_25 mk_X8_cellSort ⟨tw_843, tw_844⟩ (FX8_cellSort_ok o22) xP_q (by omega) (by decide) rfl rfl ?_)
      refine xe_iconst (v := 4) dX8_makeRow_28 (by decide) ?_
      refine xe_icmp_ne (tgt := 36) dX8_makeRow_29 (by decide) (fun c23 => ?_) (fun c23 => ?_)
      · replace hF := if_p c23 hF
        refine xe_iconst (v := 1) dX8_makeRow_32 (by decide) ?_
        refine xe_goto (tgt := 37) dX8_makeRow_33 (by decide) ?_
        exact xv.lv (BX8_makeRow_37_ok hkr hF) (xsub_cons rfl (xsub_cons rfl (xsub_cons rfl (xsub_cons rfl (xsub_cons rfl (xsub_cons rfl xsub_nil))))))
      · replace hF := if_n c23 hF
        refine xe_iconst (v := 0) dX8_makeRow_36 (by decide) ?_
        exact xv.lv (BX8_makeRow_37_ok hkr hF) (xsub_cons rfl (xsub_cons rfl (xsub_cons rfl (xsub_cons rfl (xsub_cons rfl (xsub_cons rfl xsub_nil))))))
    · replace hF := if_n c7 hF
      refine xe_iconst (v := (-1)) dX8_makeRow_12 (by decide) ?_
      exact xe_ireturn dX8_makeRow_13 (xP_ret (mk := mkI) hF)
  · replace hF := if_n c1 hF
    refine xe_iconst (v := (-1)) dX8_makeRow_12 (by decide) ?_
    exact xe_ireturn dX8_makeRow_13 (xP_ret (mk := mkI) hF)
theorem FX8_makeRow_ok {G : xG} {l : Launch} : ∀ {f : Nat} {p0 : Option Nat} {p1 : Int32} {p2 : Option Nat} {p3 : Int32} {p4 : Int32} {h0 h1 : Hp} {r : Int32} (hF : FX8_makeRow f p0 p1 p2 p3 p4 h0 = some (r, h1)), xc G l mX8_makeRow (3 + f) 0 0 [va_rf p0, .int p1, va_rf p2, .int p3, .int p4] h0 (xP mkI r h1)
  | 0, _, _, _, _, _, _, _, _, hF => by cases hF
  | f + 1, _, _, _, _, _, _, _, _, hF => EX8_makeRow_ok (FX8_makeRow_ok (f := f)) hF
