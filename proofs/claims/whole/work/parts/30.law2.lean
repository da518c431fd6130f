abbrev mL_law : xM := (yL_law, cL_law, 4, some .boolean)
def BL_law_839 (L : Nat) (xs : Nat → Int32) (k18 : Option Nat → Option Nat → Int32 → Hp → Option (Int32 × Hp)) (x1 : Option Nat) (x2 : Option Nat) (x3 : Int32) (h0 : Hp) : Option (Int32 × Hp) :=
  k18 x1 x2 (x3 + 6) h0
set_option maxRecDepth 100000 in
set_option maxHeartbeats 4000000 in
theorem BL_law_839_ok {D : va_G} {cA : FieldType → ClassId} {b0 : Nat} {sa : Nat → Nat} {L : Nat} {xs : Nat → Int32} {l : Launch} {n : Nat} {k18 : Option Nat → Option Nat → Int32 → Hp → Option (Int32 × Hp)} (hk18 : ∀ {x1 : Option Nat} {x2 : Option Nat} {x3 : Int32} {h0 h1 : Hp} {r : Int32}, k18 x1 x2 x3 h0 = some (r, h1) → xv (D, cA, b0, sa, L, xs) l mL_law 15 (n * 14) (n * 2032) 18 [(0, false, va_rf (some (sa 2))), (1, false, va_rf x1), (2, false, va_rf x2), (3, false, .int x3)] [] h0 (xPZ r h1)) {x1 : Option Nat} {x2 : Option Nat} {x3 : Int32} {h0 h1 : Hp} {r : Int32} (hF : BL_law_839 L xs k18 x1 x2 x3 h0 = some (r, h1)) : xv (D, cA, b0, sa, L, xs) l mL_law 15 (n * 14 + 0) (n * 2032 + 0) 839 [(0, false, va_rf (some (sa 2))), (1, false, va_rf x1), (2, false, va_rf x2), (3, false, .int x3)] [] h0 (xPZ r h1) := by
  unfold BL_law_839 at hF
  refine xe_iinc (v := _ + 6) dL_law_839 rfl rfl (by decide) ?_
  refine xe_goto (tgt := 18) dL_law_842 (by decide) ?_
  exact xv.weaken (xv.lv (hk18 hF) (xsub_cons rfl (xsub_cons rfl (xsub_cons rfl (xsub_cons rfl xsub_nil))))) (by first | decide | omega) (by first | decide | omega)
def BL_law_453 (L : Nat) (xs : Nat → Int32) (k18 : Option Nat → Option Nat → Int32 → Hp → Option (Int32 × Hp)) (x1 : Option Nat) (x2 : Option Nat) (x3 : Int32) (s0 : Int32) (s1 : Option Nat) (s2 : Int32) (h0 : Hp) : Option (Int32 × Hp) :=
  tS L xs (x3 + 2) fun v1 =>
  tS L xs (x3 + 3) fun v3 =>
  rcv h0 s1 11 <|
  cl (FX12_table s1 s2 v1 v3 h0) fun v5 h6 =>
  if (s0 : Int32) = v5 then
    BL_law_839 L xs k18 x1 x2 x3 h6
  else
    bz 0 (some (0, h6))
set_option maxRecDepth 100000 in
set_option maxHeartbeats 4000000 in
theorem BL_law_453_ok {D : va_G} {cA : FieldType → ClassId} {b0 : Nat} {sa : Nat → Nat} {L : Nat} {xs : Nat → Int32} {l : Launch} {n : Nat} {k18 : Option Nat → Option Nat → Int32 → Hp → Option (Int32 × Hp)} (hk18 : ∀ {x1 : Option Nat} {x2 : Option Nat} {x3 : Int32} {h0 h1 : Hp} {r : Int32}, k18 x1 x2 x3 h0 = some (r, h1) → xv (D, cA, b0, sa, L, xs) l mL_law 15 (n * 14) (n * 2032) 18 [(0, false, va_rf (some (sa 2))), (1, false, va_rf x1), (2, false, va_rf x2), (3, false, .int x3)] [] h0 (xPZ r h1)) {x1 : Option Nat} {x2 : Option Nat} {x3 : Int32} {s0 : Int32} {s1 : Option Nat} {s2 : Int32} {h0 h1 : Hp} {r : Int32} (hF : BL_law_453 L xs k18 x1 x2 x3 s0 s1 s2 h0 = some (r, h1)) : xv (D, cA, b0, sa, L, xs) l mL_law 15 (n * 14 + 0) (n * 2032 + 0) 453 [(0, false, va_rf (some (sa 2))), (1, false, va_rf x1), (2, false, va_rf x2), (3, false, .int x3)] [.int s2, va_rf s1, .int s0] h0 (xPZ r h1) := by
  unfold BL_law_453 at hF
  refine xe_aload_n dL_law_453 rfl rfl ?_
  refine xe_iload_n dL_law_454 rfl rfl ?_
  refine xe_iconst (v := 2) dL_law_455 (by decide) ?_
  refine xe_iadd dL_law_456 ?_
  obtain ⟨n2, hF⟩ := inb_inv hF
  refine xe_tald (kst := 2) dL_law_457 (by decide) n2 ?_
  refine xe_aload_n dL_law_458 rfl rfl ?_
  refine xe_iload_n dL_law_459 rfl rfl ?_
  refine xe_iconst (v := 3) dL_law_460 (by decide) ?_
  refine xe_iadd dL_law_461 ?_
  obtain ⟨n4, hF⟩ := inb_inv hF
  refine xe_tald (kst := 2) dL_law_462 (by decide) n4 ?_
  obtain ⟨a10, e8, t9, hF⟩ := rcv_inv hF
  obtain ⟨v5, h6, o7, hF⟩ := cl_inv hF
  refine xz (xq_callV (As := [.int _, .int _, .int _]) (rest := [.int _]) dL_law_463 mk_X12_table ⟨tw_1215, tw_1216, tw_1217⟩ (ci := 11) rfl e8 t9 (FX12_table_ok o7) xP_q (by decide) (Nat.le_trans (cs_i cs_0) (by decide)) rfl rfl ?_)
  refine xe_icmp_eq (tgt := 839) dL_law_466 (by decide) (fun c11 => ?_) (fun c11 => ?_)
  · replace hF := if_p c11 hF
    exact xv.weaken (xv.lv (BL_law_839_ok hk18 hF) (xsub_cons rfl (xsub_cons rfl (xsub_cons rfl (xsub_cons rfl xsub_nil))))) (by first | decide | omega) (by first | decide | omega)
  · replace hF := if_n c11 hF
    refine xe_iconst (v := 0) dL_law_469 (by decide) ?_
    obtain ⟨z12, hF⟩ := bz_inv hF
    exact xe_ireturn dL_law_470 (xPZ_ret z12 hF)
def BL_law_426 (L : Nat) (xs : Nat → Int32) (k18 : Option Nat → Option Nat → Int32 → Hp → Option (Int32 × Hp)) (x1 : Option Nat) (x2 : Option Nat) (x3 : Int32) (s0 : Option Nat) (s1 : Int32) (h0 : Hp) : Option (Int32 × Hp) :=
  tS L xs (x3 + 2) fun v1 =>
  tS L xs (x3 + 3) fun v3 =>
  rcv h0 s0 10 <|
  cl (FX11_table s0 s1 v1 v3 h0) fun v5 h6 =>
  tS L xs (x3 + 1) fun v11 =>
  if (v11 : Int32) = 0 then
    BL_law_453 L xs k18 x1 x2 x3 v5 x2 0 h6
  else
    BL_law_453 L xs k18 x1 x2 x3 v5 x2 1 h6
set_option maxRecDepth 100000 in
set_option maxHeartbeats 4000000 in
theorem BL_law_426_ok {D : va_G} {cA : FieldType → ClassId} {b0 : Nat} {sa : Nat → Nat} {L : Nat} {xs : Nat → Int32} {l : Launch} {n : Nat} {k18 : Option Nat → Option Nat → Int32 → Hp → Option (Int32 × Hp)} (hk18 : ∀ {x1 : Option Nat} {x2 : Option Nat} {x3 : Int32} {h0 h1 : Hp} {r : Int32}, k18 x1 x2 x3 h0 = some (r, h1) → xv (D, cA, b0, sa, L, xs) l mL_law 15 (n * 14) (n * 2032) 18 [(0, false, va_rf (some (sa 2))), (1, false, va_rf x1), (2, false, va_rf x2), (3, false, .int x3)] [] h0 (xPZ r h1)) {x1 : Option Nat} {x2 : Option Nat} {x3 : Int32} {s0 : Option Nat} {s1 : Int32} {h0 h1 : Hp} {r : Int32} (hF : BL_law_426 L xs k18 x1 x2 x3 s0 s1 h0 = some (r, h1)) : xv (D, cA, b0, sa, L, xs) l mL_law 15 (n * 14 + 3) (n * 2032 + 22) 426 [(0, false, va_rf (some (sa 2))), (1, false, va_rf x1), (2, false, va_rf x2), (3, false, .int x3)] [.int s1, va_rf s0] h0 (xPZ r h1) := by
  unfold BL_law_426 at hF
  refine xe_aload_n dL_law_426 rfl rfl ?_
  refine xe_iload_n dL_law_427 rfl rfl ?_
  refine xe_iconst (v := 2) dL_law_428 (by decide) ?_
  refine xe_iadd dL_law_429 ?_
  obtain ⟨n2, hF⟩ := inb_inv hF
  refine xe_tald (kst := 2) dL_law_430 (by decide) n2 ?_
  refine xe_aload_n dL_law_431 rfl rfl ?_
  refine xe_iload_n dL_law_432 rfl rfl ?_
  refine xe_iconst (v := 3) dL_law_433 (by decide) ?_
  refine xe_iadd dL_law_434 ?_
  obtain ⟨n4, hF⟩ := inb_inv hF
  refine xe_tald (kst := 2) dL_law_435 (by decide) n4 ?_
  obtain ⟨a10, e8, t9, hF⟩ := rcv_inv hF
  obtain ⟨v5, h6, o7, hF⟩ := cl_inv hF
  refine xv.weaken (xq_callV (k := n * 14 + 0) (n := n * 2032 + 0) (As := [.int _, .int _, .int _]) (rest := []) dL_law_436 mk_X11_table ⟨tw_425, tw_426, tw_427⟩ (ci := 10) rfl e8 t9 (FX11_table_ok o7) xP_q (by decide) (by decide) rfl rfl ?_) (by first | decide | omega) (by first | decide | omega)
  refine xe_aload_n dL_law_439 rfl rfl ?_
  refine xe_aload_n dL_law_440 rfl rfl ?_
  refine xe_iload_n dL_law_441 rfl rfl ?_
  refine xe_iconst (v := 1) dL_law_442 (by decide) ?_
  refine xe_iadd dL_law_443 ?_
  obtain ⟨n12, hF⟩ := inb_inv hF
  refine xe_tald (kst := 2) dL_law_444 (by decide) n12 ?_
  refine xe_if_eq (tgt := 452) dL_law_445 (by decide) (fun c13 => ?_) (fun c13 => ?_)
  · replace hF := if_p c13 hF
    refine xe_iconst (v := 0) dL_law_452 (by decide) ?_
    exact xv.weaken (xv.lv (BL_law_453_ok hk18 hF) (xsub_cons rfl (xsub_cons rfl (xsub_cons rfl (xsub_cons rfl xsub_nil))))) (by first | decide | omega) (by first | decide | omega)
  · replace hF := if_n c13 hF
    refine xe_iconst (v := 1) dL_law_448 (by decide) ?_
    refine xe_goto (tgt := 453) dL_law_449 (by decide) ?_
    exact xv.weaken (xv.lv (BL_law_453_ok hk18 hF) (xsub_cons rfl (xsub_cons rfl (xsub_cons rfl (xsub_cons rfl xsub_nil))))) (by first | decide | omega) (by first | decide | omega)
def BL_law_18 (L : Nat) (xs : Nat → Int32) : Nat → Option Nat → Option Nat → Int32 → Hp → Option (Int32 × Hp)
  | 0, _, _, _, _ => none
  | n + 1, x1, x2, x3, h0 =>
    if (((Int32.ofNat L) - 6) : Int32) < x3 then
      bz 1 (some (1, h0))
    else
      tS L xs x3 fun v3 =>
      if ((v3 &&& 31) : Int32) = 0 then
        tS L xs (x3 + 1) fun v6 =>
        rcv h0 x1 10 <|
        cl (FX11_method x1 v6 h0) fun v8 h9 =>
        tS L xs (x3 + 1) fun v14 =>
        rcv h9 x2 11 <|
        cl (FX12_method x2 v14 h9) fun v16 h17 =>
        if (v8 : Int32) = v16 then
          BL_law_839 L xs (BL_law_18 L xs n) x1 x2 x3 h17
        else
          bz 0 (some (0, h17))
      else
      if ((v3 &&& 31) : Int32) = 1 then
        tS L xs (x3 + 1) fun v25 =>
        tS L xs (x3 + 2) fun v27 =>
        rcv h0 x1 10 <|
        cl (FX11_argument x1 v25 v27 h0) fun v29 h30 =>
        tS L xs (x3 + 1) fun v35 =>
        tS L xs (x3 + 2) fun v37 =>
        rcv h30 x2 11 <|
        cl (FX12_argument x2 v35 v37 h30) fun v39 h40 =>
        if (v29 : Int32) = v39 then
          BL_law_839 L xs (BL_law_18 L xs n) x1 x2 x3 h40
        else
          bz 0 (some (0, h40))
      else
      if ((v3 &&& 31) : Int32) = 2 then
        tS L xs (x3 + 1) fun v48 =>
        tS L xs (x3 + 2) fun v50 =>
        tS L xs (x3 + 3) fun v52 =>
        tS L xs (x3 + 4) fun v54 =>
        rcv h0 x1 10 <|
        cl (FX11_op x1 v48 v50 v52 v54 h0) fun v56 h57 =>
        tS L xs (x3 + 1) fun v62 =>
        tS L xs (x3 + 2) fun v64 =>
        tS L xs (x3 + 3) fun v66 =>
        tS L xs (x3 + 4) fun v68 =>
        rcv h57 x2 11 <|
        cl (FX12_op x2 v62 v64 v66 v68 h57) fun v70 h71 =>
        if (v56 : Int32) = v70 then
          BL_law_839 L xs (BL_law_18 L xs n) x1 x2 x3 h71
        else
          bz 0 (some (0, h71))
      else
      if ((v3 &&& 31) : Int32) = 3 then
        tS L xs (x3 + 1) fun v79 =>
        tS L xs (x3 + 2) fun v81 =>
        tS L xs (x3 + 3) fun v83 =>
        tS L xs (x3 + 4) fun v85 =>
        tS L xs (x3 + 5) fun v87 =>
        rcv h0 x1 10 <|
        cl (FX11_alter x1 v79 v81 v83 v85 v87 h0) fun v89 h90 =>
        tS L xs (x3 + 1) fun v95 =>
        tS L xs (x3 + 2) fun v97 =>
        tS L xs (x3 + 3) fun v99 =>
        tS L xs (x3 + 4) fun v101 =>
        tS L xs (x3 + 5) fun v103 =>
        rcv h90 x2 11 <|
        cl (FX12_alter x2 v95 v97 v99 v101 v103 h90) fun v105 h106 =>
        if (v89 : Int32) = v105 then
          BL_law_839 L xs (BL_law_18 L xs n) x1 x2 x3 h106
        else
          bz 0 (some (0, h106))
      else
      if ((v3 &&& 31) : Int32) = 4 then
        tS L xs (x3 + 1) fun v114 =>
        tS L xs (x3 + 2) fun v116 =>
        tS L xs (x3 + 3) fun v118 =>
        tS L xs (x3 + 4) fun v120 =>
        tS L xs (x3 + 5) fun v122 =>
        rcv h0 x1 10 <|
        cl (FX11_handler x1 v114 v116 v118 v120 v122 h0) fun v124 h125 =>
        tS L xs (x3 + 1) fun v130 =>
        tS L xs (x3 + 2) fun v132 =>
        tS L xs (x3 + 3) fun v134 =>
        tS L xs (x3 + 4) fun v136 =>
        tS L xs (x3 + 5) fun v138 =>
        rcv h125 x2 11 <|
        cl (FX12_handler x2 v130 v132 v134 v136 v138 h125) fun v140 h141 =>
        if (v124 : Int32) = v140 then
          BL_law_839 L xs (BL_law_18 L xs n) x1 x2 x3 h141
        else
          bz 0 (some (0, h141))
      else
      if ((v3 &&& 31) : Int32) = 5 then
        tS L xs (x3 + 1) fun v149 =>
        tS L xs (x3 + 2) fun v151 =>
        rcv h0 x1 10 <|
        cl (FX11_constant x1 (((Int32.toInt64 v149) <<< (Int32.toInt64 32 &&& 63)) ||| ((Int32.toInt64 v151) &&& 4294967295)) h0) fun v153 h154 =>
        tS L xs (x3 + 1) fun v159 =>
        tS L xs (x3 + 2) fun v161 =>
        rcv h154 x2 11 <|
        cl (FX12_constant x2 (((Int32.toInt64 v159) <<< (Int32.toInt64 32 &&& 63)) ||| ((Int32.toInt64 v161) &&& 4294967295)) h154) fun v163 h164 =>
        if (v153 : Int32) = v163 then
          BL_law_839 L xs (BL_law_18 L xs n) x1 x2 x3 h164
        else
          bz 0 (some (0, h164))
      else
      if ((v3 &&& 31) : Int32) = 6 then
        tS L xs (x3 + 1) fun v172 =>
        if (v172 : Int32) = 0 then
          BL_law_426 L xs (BL_law_18 L xs n) x1 x2 x3 x1 0 h0
        else
          BL_law_426 L xs (BL_law_18 L xs n) x1 x2 x3 x1 1 h0
      else
      if ((v3 &&& 31) : Int32) = 7 then
        tS L xs (x3 + 1) fun v176 =>
        tS L xs (x3 + 2) fun v178 =>
        tS L xs (x3 + 3) fun v180 =>
        rcv h0 x1 10 <|
        cl (FX11_entry x1 v176 v178 v180 h0) fun v182 h183 =>
        tS L xs (x3 + 1) fun v188 =>
        tS L xs (x3 + 2) fun v190 =>
        tS L xs (x3 + 3) fun v192 =>
        rcv h183 x2 11 <|
        cl (FX12_entry x2 v188 v190 v192 h183) fun v194 h195 =>
        if (v182 : Int32) = v194 then
          BL_law_839 L xs (BL_law_18 L xs n) x1 x2 x3 h195
        else
          bz 0 (some (0, h195))
      else
      if ((v3 &&& 31) : Int32) = 8 then
        tS L xs (x3 + 1) fun v203 =>
        rcv h0 x1 10 <|
        cl (FX11_count x1 v203 h0) fun v205 h206 =>
        tS L xs (x3 + 1) fun v211 =>
        rcv h206 x2 11 <|
        cl (FX12_count x2 v211 h206) fun v213 h214 =>
        if (v205 : Int32) = v213 then
          BL_law_839 L xs (BL_law_18 L xs n) x1 x2 x3 h214
        else
          bz 0 (some (0, h214))
      else
      if ((v3 &&& 31) : Int32) = 9 then
        tS L xs (x3 + 1) fun v222 =>
        rcv h0 x1 10 <|
        cl (FX11_judge x1 v222 h0) fun v224 h225 =>
        tS L xs (x3 + 1) fun v230 =>
        rcv h225 x2 11 <|
        cl (FX12_judge x2 v230 h225) fun v232 h233 =>
        if (v224 : Int32) = v232 then
          BL_law_839 L xs (BL_law_18 L xs n) x1 x2 x3 h233
        else
          bz 0 (some (0, h233))
      else
      if ((v3 &&& 31) : Int32) = 10 then
        tS L xs (x3 + 1) fun v241 =>
        rcv h0 x1 10 <|
        cl (FX11_fault x1 v241 h0) fun v243 h244 =>
        tS L xs (x3 + 1) fun v249 =>
        rcv h244 x2 11 <|
        cl (FX12_fault x2 v249 h244) fun v251 h252 =>
        if (v243 : Int32) = v251 then
          BL_law_839 L xs (BL_law_18 L xs n) x1 x2 x3 h252
        else
          bz 0 (some (0, h252))
      else
      if ((v3 &&& 31) : Int32) = 11 then
        tS L xs (x3 + 1) fun v260 =>
        rcv h0 x1 10 <|
        cl (FX11_good x1 v260 h0) fun v262 h263 =>
        tS L xs (x3 + 1) fun v268 =>
        rcv h263 x2 11 <|
        cl (FX12_good x2 v268 h263) fun v270 h271 =>
        if (v262 : Int32) = v270 then
          BL_law_839 L xs (BL_law_18 L xs n) x1 x2 x3 h271
        else
          bz 0 (some (0, h271))
      else
      if ((v3 &&& 31) : Int32) = 12 then
        tS L xs (x3 + 1) fun v279 =>
        tS L xs (x3 + 2) fun v281 =>
        tS L xs (x3 + 3) fun v283 =>
        rcv h0 x1 10 <|
        cl (FX11_shape x1 v279 v281 v283 h0) fun v285 h286 =>
        tS L xs (x3 + 1) fun v291 =>
        tS L xs (x3 + 2) fun v293 =>
        tS L xs (x3 + 3) fun v295 =>
        rcv h286 x2 11 <|
        cl (FX12_shape x2 v291 v293 v295 h286) fun v297 h298 =>
        if (v285 : Int32) = v297 then
          BL_law_839 L xs (BL_law_18 L xs n) x1 x2 x3 h298
        else
          bz 0 (some (0, h298))
      else
      if ((v3 &&& 31) : Int32) = 13 then
        tS L xs (x3 + 1) fun v306 =>
        tS L xs (x3 + 2) fun v308 =>
        rcv h0 x1 10 <|
        cl (FX11_give x1 (((Int32.toInt64 v306) <<< (Int32.toInt64 32 &&& 63)) ||| ((Int32.toInt64 v308) &&& 4294967295)) h0) fun v310 h311 =>
        tS L xs (x3 + 1) fun v316 =>
        tS L xs (x3 + 2) fun v318 =>
        rcv h311 x2 11 <|
        cl (FX12_give x2 (((Int32.toInt64 v316) <<< (Int32.toInt64 32 &&& 63)) ||| ((Int32.toInt64 v318) &&& 4294967295)) h311) fun v320 h321 =>
        if (v310 : Int32) = v320 then
          BL_law_839 L xs (BL_law_18 L xs n) x1 x2 x3 h321
        else
          bz 0 (some (0, h321))
      else
      if ((v3 &&& 31) : Int32) = 14 then
        tS L xs (x3 + 1) fun v329 =>
        tS L xs (x3 + 2) fun v331 =>
        rcv h0 x1 10 <|
        cl (FX11_walk x1 v329 v331 h0) fun v333 h334 =>
        tS L xs (x3 + 1) fun v339 =>
        tS L xs (x3 + 2) fun v341 =>
        rcv h334 x2 11 <|
        cl (FX12_walk x2 v339 v341 h334) fun v343 h344 =>
        if (v333 : Int32) = v343 then
          BL_law_839 L xs (BL_law_18 L xs n) x1 x2 x3 h344
        else
          bz 0 (some (0, h344))
      else
      if ((v3 &&& 31) : Int32) = 15 then
        rcv h0 x1 10 <|
        cl (FX11_value x1 h0) fun v352 h353 =>
        rcv h353 x2 11 <|
        cl (FX12_value x2 h353) fun v358 h359 =>
        if (v352 : Int64) = v358 then
          BL_law_839 L xs (BL_law_18 L xs n) x1 x2 x3 h359
        else
          bz 0 (some (0, h359))
      else
      if ((v3 &&& 31) : Int32) = 16 then
        tS L xs (x3 + 1) fun v367 =>
        rcv h0 x1 10 <|
        cl (FX11_told x1 v367 h0) fun v369 h370 =>
        tS L xs (x3 + 1) fun v375 =>
        rcv h370 x2 11 <|
        cl (FX12_told x2 v375 h370) fun v377 h378 =>
        if (v369 : Int32) = v377 then
          BL_law_839 L xs (BL_law_18 L xs n) x1 x2 x3 h378
        else
          bz 0 (some (0, h378))
      else
      if ((v3 &&& 31) : Int32) = 17 then
        tS L xs (x3 + 1) fun v386 =>
        tS L xs (x3 + 2) fun v388 =>
        rcv h0 x1 10 <|
        cl (FX11_thing x1 v386 v388 h0) fun v390 h391 =>
        tS L xs (x3 + 1) fun v396 =>
        tS L xs (x3 + 2) fun v398 =>
        rcv h391 x2 11 <|
        cl (FX12_thing x2 v396 v398 h391) fun v400 h401 =>
        if (v390 : Int32) = v400 then
          BL_law_839 L xs (BL_law_18 L xs n) x1 x2 x3 h401
        else
          bz 0 (some (0, h401))
      else
      if ((v3 &&& 31) : Int32) = 18 then
        tS L xs (x3 + 1) fun v409 =>
        tS L xs (x3 + 2) fun v411 =>
        rcv h0 x1 10 <|
        cl (FX11_cell x1 v409 v411 h0) fun v413 h414 =>
        tS L xs (x3 + 1) fun v419 =>
        tS L xs (x3 + 2) fun v421 =>
        rcv h414 x2 11 <|
        cl (FX12_cell x2 v419 v421 h414) fun v423 h424 =>
        if (v413 : Int64) = v423 then
          BL_law_839 L xs (BL_law_18 L xs n) x1 x2 x3 h424
        else
          bz 0 (some (0, h424))
      else
      BL_law_839 L xs (BL_law_18 L xs n) x1 x2 x3 h0
set_option maxRecDepth 100000 in
set_option maxHeartbeats 4000000 in
theorem BL_law_18_ok {D : va_G} {cA : FieldType → ClassId} {b0 : Nat} {sa : Nat → Nat} {L : Nat} {xs : Nat → Int32} {l : Launch} : ∀ (n : Nat) {x1 : Option Nat} {x2 : Option Nat} {x3 : Int32} {h0 h1 : Hp} {r : Int32} (hF : BL_law_18 L xs n x1 x2 x3 h0 = some (r, h1)), xv (D, cA, b0, sa, L, xs) l mL_law 15 (n * 14) (n * 2032) 18 [(0, false, va_rf (some (sa 2))), (1, false, va_rf x1), (2, false, va_rf x2), (3, false, .int x3)] [] h0 (xPZ r h1) := by
  intro n
  induction n with
  | zero => intro x1 x2 x3 h0 h1 r hF; cases hF
  | succ n ih =>
    intro x1 x2 x3 h0 h1 r hF
    unfold BL_law_18 at hF
    refine xe_iload_n dL_law_18 rfl rfl ?_
    refine xe_aload_n dL_law_19 rfl rfl ?_
    refine xe_tlen (kst := 2) (v := Int32.ofNat L) dL_law_20 (by decide) rfl ?_
    refine xe_bipush (v := 6) dL_law_21 (by decide) ?_
    refine xe_isub dL_law_23 ?_
    refine xe_icmp_gt (tgt := 845) dL_law_24 (by decide) (fun c1 => ?_) (fun c1 => ?_)
    · replace hF := if_p c1 hF
      refine xe_iconst (v := 1) dL_law_845 (by decide) ?_
      obtain ⟨z2, hF⟩ := bz_inv hF
      exact xe_ireturn dL_law_846 (xPZ_ret z2 hF)
    · replace hF := if_n c1 hF
      refine xe_aload_n dL_law_27 rfl rfl ?_
      refine xe_iload_n dL_law_28 rfl rfl ?_
      obtain ⟨n4, hF⟩ := inb_inv hF
      refine xe_tald (kst := 2) dL_law_29 (by decide) n4 ?_
      refine xe_bipush (v := 31) dL_law_30 (by decide) ?_
      refine xe_iand dL_law_32 ?_
      refine xs_case (j := 0) (tgt := 124) dL_law_33 (by decide) (by decide) rfl (by decide) (fun c5 => ?_) (fun c5 => ?_)
      · replace hF := if_p c5 hF
        refine xe_aload_n dL_law_124 rfl rfl ?_
        refine xe_aload_n dL_law_125 rfl rfl ?_
        refine xe_iload_n dL_law_126 rfl rfl ?_
        refine xe_iconst (v := 1) dL_law_127 (by decide) ?_
        refine xe_iadd dL_law_128 ?_
        obtain ⟨n7, hF⟩ := inb_inv hF
        refine xe_tald (kst := 2) dL_law_129 (by decide) n7 ?_
        obtain ⟨a13, e11, t12, hF⟩ := rcv_inv hF
        obtain ⟨v8, h9, o10, hF⟩ := cl_inv hF
        refine xv.weaken (xq_callV (k := n * 14 + 0) (n := n * 2032 + 0) (As := [.int _]) (rest := []) dL_law_130 mk_X11_method ⟨tw_259, tw_260, tw_261⟩ (ci := 10) rfl e11 t12 (FX11_method_ok o10) xP_q (by decide) (by decide) rfl rfl ?_) (by first | decide | omega) (by first | decide | omega)
        refine xe_aload_n dL_law_133 rfl rfl ?_
        refine xe_aload_n dL_law_134 rfl rfl ?_
        refine xe_iload_n dL_law_135 rfl rfl ?_
        refine xe_iconst (v := 1) dL_law_136 (by decide) ?_
        refine xe_iadd dL_law_137 ?_
        obtain ⟨n15, hF⟩ := inb_inv hF
        refine xe_tald (kst := 2) dL_law_138 (by decide) n15 ?_
        obtain ⟨a21, e19, t20, hF⟩ := rcv_inv hF
        obtain ⟨v16, h17, o18, hF⟩ := cl_inv hF
        refine xz (xq_callV (As := [.int _]) (rest := [.int _]) dL_law_139 mk_X12_method ⟨tw_1169, tw_1170, tw_1171⟩ (ci := 11) rfl e19 t20 (FX12_method_ok o18) xP_q (by decide) (Nat.le_trans (cs_i cs_0) (by decide)) rfl rfl ?_)
        refine xe_icmp_eq (tgt := 839) dL_law_142 (by decide) (fun c22 => ?_) (fun c22 => ?_)
        · replace hF := if_p c22 hF
          exact xv.weaken (xv.lv (BL_law_839_ok ih hF) (xsub_cons rfl (xsub_cons rfl (xsub_cons rfl (xsub_cons rfl xsub_nil))))) (by first | decide | omega) (by first | decide | omega)
        · replace hF := if_n c22 hF
          refine xe_iconst (v := 0) dL_law_145 (by decide) ?_
          obtain ⟨z23, hF⟩ := bz_inv hF
          exact xe_ireturn dL_law_146 (xPZ_ret z23 hF)
      replace hF := if_n c5 hF
      refine xs_case (j := 1) (tgt := 147) dL_law_33 (by decide) (by decide) rfl (by decide) (fun c24 => ?_) (fun c24 => ?_)
      · replace hF := if_p c24 hF
        refine xe_aload_n dL_law_147 rfl rfl ?_
        refine xe_aload_n dL_law_148 rfl rfl ?_
        refine xe_iload_n dL_law_149 rfl rfl ?_
        refine xe_iconst (v := 1) dL_law_150 (by decide) ?_
        refine xe_iadd dL_law_151 ?_
        obtain ⟨n26, hF⟩ := inb_inv hF
        refine xe_tald (kst := 2) dL_law_152 (by decide) n26 ?_
        refine xe_aload_n dL_law_153 rfl rfl ?_
        refine xe_iload_n dL_law_154 rfl rfl ?_
        refine xe_iconst (v := 2) dL_law_155 (by decide) ?_
        refine xe_iadd dL_law_156 ?_
        obtain ⟨n28, hF⟩ := inb_inv hF
        refine xe_tald (kst := 2) dL_law_157 (by decide) n28 ?_
        obtain ⟨a34, e32, t33, hF⟩ := rcv_inv hF
        obtain ⟨v29, h30, o31, hF⟩ := cl_inv hF
        refine xz (xq_callV (As := [.int _, .int _]) (rest := []) dL_law_158 mk_X11_argument ⟨tw_377, tw_378, tw_379⟩ (ci := 10) rfl e32 t33 (FX11_argument_ok o31) xP_q (by decide) (by decide) rfl rfl ?_)
        refine xe_aload_n dL_law_161 rfl rfl ?_
        refine xe_aload_n dL_law_162 rfl rfl ?_
        refine xe_iload_n dL_law_163 rfl rfl ?_
        refine xe_iconst (v := 1) dL_law_164 (by decide) ?_
        refine xe_iadd dL_law_165 ?_
        obtain ⟨n36, hF⟩ := inb_inv hF
        refine xe_tald (kst := 2) dL_law_166 (by decide) n36 ?_
        refine xe_aload_n dL_law_167 rfl rfl ?_
        refine xe_iload_n dL_law_168 rfl rfl ?_
        refine xe_iconst (v := 2) dL_law_169 (by decide) ?_
        refine xe_iadd dL_law_170 ?_
        obtain ⟨n38, hF⟩ := inb_inv hF
        refine xe_tald (kst := 2) dL_law_171 (by decide) n38 ?_
        obtain ⟨a44, e42, t43, hF⟩ := rcv_inv hF
        obtain ⟨v39, h40, o41, hF⟩ := cl_inv hF
        refine xz (xq_callV (As := [.int _, .int _]) (rest := [.int _]) dL_law_172 mk_X12_argument ⟨tw_1181, tw_1182, tw_1183⟩ (ci := 11) rfl e42 t43 (FX12_argument_ok o41) xP_q (by decide) (Nat.le_trans (cs_i cs_0) (by decide)) rfl rfl ?_)
        refine xe_icmp_eq (tgt := 839) dL_law_175 (by decide) (fun c45 => ?_) (fun c45 => ?_)
        · replace hF := if_p c45 hF
          exact xv.weaken (xv.lv (BL_law_839_ok ih hF) (xsub_cons rfl (xsub_cons rfl (xsub_cons rfl (xsub_cons rfl xsub_nil))))) (by first | decide | omega) (by first | decide | omega)
        · replace hF := if_n c45 hF
          refine xe_iconst (v := 0) dL_law_178 (by decide) ?_
          obtain ⟨z46, hF⟩ := bz_inv hF
          exact xe_ireturn dL_law_179 (xPZ_ret z46 hF)
      replace hF := if_n c24 hF
      refine xs_case (j := 2) (tgt := 180) dL_law_33 (by decide) (by decide) rfl (by decide) (fun c47 => ?_) (fun c47 => ?_)
      · replace hF := if_p c47 hF
        refine xe_aload_n dL_law_180 rfl rfl ?_
        refine xe_aload_n dL_law_181 rfl rfl ?_
        refine xe_iload_n dL_law_182 rfl rfl ?_
        refine xe_iconst (v := 1) dL_law_183 (by decide) ?_
        refine xe_iadd dL_law_184 ?_
        obtain ⟨n49, hF⟩ := inb_inv hF
        refine xe_tald (kst := 2) dL_law_185 (by decide) n49 ?_
        refine xe_aload_n dL_law_186 rfl rfl ?_
        refine xe_iload_n dL_law_187 rfl rfl ?_
        refine xe_iconst (v := 2) dL_law_188 (by decide) ?_
        refine xe_iadd dL_law_189 ?_
        obtain ⟨n51, hF⟩ := inb_inv hF
        refine xe_tald (kst := 2) dL_law_190 (by decide) n51 ?_
        refine xe_aload_n dL_law_191 rfl rfl ?_
        refine xe_iload_n dL_law_192 rfl rfl ?_
        refine xe_iconst (v := 3) dL_law_193 (by decide) ?_
        refine xe_iadd dL_law_194 ?_
        obtain ⟨n53, hF⟩ := inb_inv hF
        refine xe_tald (kst := 2) dL_law_195 (by decide) n53 ?_
        refine xe_aload_n dL_law_196 rfl rfl ?_
        refine xe_iload_n dL_law_197 rfl rfl ?_
        refine xe_iconst (v := 4) dL_law_198 (by decide) ?_
        refine xe_iadd dL_law_199 ?_
        obtain ⟨n55, hF⟩ := inb_inv hF
        refine xe_tald (kst := 2) dL_law_200 (by decide) n55 ?_
        obtain ⟨a61, e59, t60, hF⟩ := rcv_inv hF
        obtain ⟨v56, h57, o58, hF⟩ := cl_inv hF
        refine xz (xq_callV (As := [.int _, .int _, .int _, .int _]) (rest := []) dL_law_201 mk_X11_op ⟨tw_397, tw_398, tw_399⟩ (ci := 10) rfl e59 t60 (FX11_op_ok o58) xP_q (by decide) (by decide) rfl rfl ?_)
        refine xe_aload_n dL_law_204 rfl rfl ?_
        refine xe_aload_n dL_law_205 rfl rfl ?_
        refine xe_iload_n dL_law_206 rfl rfl ?_
        refine xe_iconst (v := 1) dL_law_207 (by decide) ?_
        refine xe_iadd dL_law_208 ?_
        obtain ⟨n63, hF⟩ := inb_inv hF
        refine xe_tald (kst := 2) dL_law_209 (by decide) n63 ?_
        refine xe_aload_n dL_law_210 rfl rfl ?_
        refine xe_iload_n dL_law_211 rfl rfl ?_
        refine xe_iconst (v := 2) dL_law_212 (by decide) ?_
        refine xe_iadd dL_law_213 ?_
        obtain ⟨n65, hF⟩ := inb_inv hF
        refine xe_tald (kst := 2) dL_law_214 (by decide) n65 ?_
        refine xe_aload_n dL_law_215 rfl rfl ?_
        refine xe_iload_n dL_law_216 rfl rfl ?_
        refine xe_iconst (v := 3) dL_law_217 (by decide) ?_
        refine xe_iadd dL_law_218 ?_
        obtain ⟨n67, hF⟩ := inb_inv hF
        refine xe_tald (kst := 2) dL_law_219 (by decide) n67 ?_
        refine xe_aload_n dL_law_220 rfl rfl ?_
        refine xe_iload_n dL_law_221 rfl rfl ?_
        refine xe_iconst (v := 4) dL_law_222 (by decide) ?_
        refine xe_iadd dL_law_223 ?_
        obtain ⟨n69, hF⟩ := inb_inv hF
        refine xe_tald (kst := 2) dL_law_224 (by decide) n69 ?_
        obtain ⟨a75, e73, t74, hF⟩ := rcv_inv hF
        obtain ⟨v70, h71, o72, hF⟩ := cl_inv hF
        refine xz (xq_callV (As := [.int _, .int _, .int _, .int _]) (rest := [.int _]) dL_law_225 mk_X12_op ⟨tw_1193, tw_1194, tw_1195⟩ (ci := 11) rfl e73 t74 (FX12_op_ok o72) xP_q (by decide) (Nat.le_trans (cs_i cs_0) (by decide)) rfl rfl ?_)
        refine xe_icmp_eq (tgt := 839) dL_law_228 (by decide) (fun c76 => ?_) (fun c76 => ?_)
        · replace hF := if_p c76 hF
          exact xv.weaken (xv.lv (BL_law_839_ok ih hF) (xsub_cons rfl (xsub_cons rfl (xsub_cons rfl (xsub_cons rfl xsub_nil))))) (by first | decide | omega) (by first | decide | omega)
        · replace hF := if_n c76 hF
          refine xe_iconst (v := 0) dL_law_231 (by decide) ?_
          obtain ⟨z77, hF⟩ := bz_inv hF
          exact xe_ireturn dL_law_232 (xPZ_ret z77 hF)
      replace hF := if_n c47 hF
      refine xs_case (j := 3) (tgt := 233) dL_law_33 (by decide) (by decide) rfl (by decide) (fun c78 => ?_) (fun c78 => ?_)
      · replace hF := if_p c78 hF
        refine xe_aload_n dL_law_233 rfl rfl ?_
        refine xe_aload_n dL_law_234 rfl rfl ?_
        refine xe_iload_n dL_law_235 rfl rfl ?_
        refine xe_iconst (v := 1) dL_law_236 (by decide) ?_
        refine xe_iadd dL_law_237 ?_
        obtain ⟨n80, hF⟩ := inb_inv hF
        refine xe_tald (kst := 2) dL_law_238 (by decide) n80 ?_
        refine xe_aload_n dL_law_239 rfl rfl ?_
        refine xe_iload_n dL_law_240 rfl rfl ?_
        refine xe_iconst (v := 2) dL_law_241 (by decide) ?_
        refine xe_iadd dL_law_242 ?_
        obtain ⟨n82, hF⟩ := inb_inv hF
        refine xe_tald (kst := 2) dL_law_243 (by decide) n82 ?_
        refine xe_aload_n dL_law_244 rfl rfl ?_
        refine xe_iload_n dL_law_245 rfl rfl ?_
        refine xe_iconst (v := 3) dL_law_246 (by decide) ?_
        refine xe_iadd dL_law_247 ?_
        obtain ⟨n84, hF⟩ := inb_inv hF
        refine xe_tald (kst := 2) dL_law_248 (by decide) n84 ?_
        refine xe_aload_n dL_law_249 rfl rfl ?_
        refine xe_iload_n dL_law_250 rfl rfl ?_
        refine xe_iconst (v := 4) dL_law_251 (by decide) ?_
        refine xe_iadd dL_law_252 ?_
        obtain ⟨n86, hF⟩ := inb_inv hF
        refine xe_tald (kst := 2) dL_law_253 (by decide) n86 ?_
        refine xe_aload_n dL_law_254 rfl rfl ?_
        refine xe_iload_n dL_law_255 rfl rfl ?_
        refine xe_iconst (v := 5) dL_law_256 (by decide) ?_
        refine xe_iadd dL_law_257 ?_
        obtain ⟨n88, hF⟩ := inb_inv hF
        refine xe_tald (kst := 2) dL_law_258 (by decide) n88 ?_
        obtain ⟨a94, e92, t93, hF⟩ := rcv_inv hF
        obtain ⟨v89, h90, o91, hF⟩ := cl_inv hF
        refine xz (xq_callV (As := [.int _, .int _, .int _, .int _, .int _]) (rest := []) dL_law_259 mk_X11_alter ⟨tw_405, tw_406, tw_407⟩ (ci := 10) rfl e92 t93 (FX11_alter_ok o91) xP_q (by decide) (by decide) rfl rfl ?_)
        refine xe_aload_n dL_law_262 rfl rfl ?_
        refine xe_aload_n dL_law_263 rfl rfl ?_
        refine xe_iload_n dL_law_264 rfl rfl ?_
        refine xe_iconst (v := 1) dL_law_265 (by decide) ?_
        refine xe_iadd dL_law_266 ?_
        obtain ⟨n96, hF⟩ := inb_inv hF
        refine xe_tald (kst := 2) dL_law_267 (by decide) n96 ?_
        refine xe_aload_n dL_law_268 rfl rfl ?_
        refine xe_iload_n dL_law_269 rfl rfl ?_
        refine xe_iconst (v := 2) dL_law_270 (by decide) ?_
        refine xe_iadd dL_law_271 ?_
        obtain ⟨n98, hF⟩ := inb_inv hF
        refine xe_tald (kst := 2) dL_law_272 (by decide) n98 ?_
        refine xe_aload_n dL_law_273 rfl rfl ?_
        refine xe_iload_n dL_law_274 rfl rfl ?_
        refine xe_iconst (v := 3) dL_law_275 (by decide) ?_
        refine xe_iadd dL_law_276 ?_
        obtain ⟨n100, hF⟩ := inb_inv hF
        refine xe_tald (kst := 2) dL_law_277 (by decide) n100 ?_
        refine xe_aload_n dL_law_278 rfl rfl ?_
        refine xe_iload_n dL_law_279 rfl rfl ?_
        refine xe_iconst (v := 4) dL_law_280 (by decide) ?_
        refine xe_iadd dL_law_281 ?_
        obtain ⟨n102, hF⟩ := inb_inv hF
        refine xe_tald (kst := 2) dL_law_282 (by decide) n102 ?_
        refine xe_aload_n dL_law_283 rfl rfl ?_
        refine xe_iload_n dL_law_284 rfl rfl ?_
        refine xe_iconst (v := 5) dL_law_285 (by decide) ?_
        refine xe_iadd dL_law_286 ?_
        obtain ⟨n104, hF⟩ := inb_inv hF
        refine xe_tald (kst := 2) dL_law_287 (by decide) n104 ?_
        obtain ⟨a110, e108, t109, hF⟩ := rcv_inv hF
        obtain ⟨v105, h106, o107, hF⟩ := cl_inv hF
        refine xz (xq_callV (As := [.int _, .int _, .int _, .int _, .int _]) (rest := [.int _]) dL_law_288 mk_X12_alter ⟨tw_1202, tw_1199, tw_1200⟩ (ci := 11) rfl e108 t109 (FX12_alter_ok o107) xP_q (by decide) (Nat.le_trans (cs_i cs_0) (by decide)) rfl rfl ?_)
        refine xe_icmp_eq (tgt := 839) dL_law_291 (by decide) (fun c111 => ?_) (fun c111 => ?_)
        · replace hF := if_p c111 hF
          exact xv.weaken (xv.lv (BL_law_839_ok ih hF) (xsub_cons rfl (xsub_cons rfl (xsub_cons rfl (xsub_cons rfl xsub_nil))))) (by first | decide | omega) (by first | decide | omega)
        · replace hF := if_n c111 hF
          refine xe_iconst (v := 0) dL_law_294 (by decide) ?_
          obtain ⟨z112, hF⟩ := bz_inv hF
          exact xe_ireturn dL_law_295 (xPZ_ret z112 hF)
      replace hF := if_n c78 hF
      refine xs_case (j := 4) (tgt := 296) dL_law_33 (by decide) (by decide) rfl (by decide) (fun c113 => ?_) (fun c113 => ?_)
      · replace hF := if_p c113 hF
        refine xe_aload_n dL_law_296 rfl rfl ?_
        refine xe_aload_n dL_law_297 rfl rfl ?_
        refine xe_iload_n dL_law_298 rfl rfl ?_
        refine xe_iconst (v := 1) dL_law_299 (by decide) ?_
        refine xe_iadd dL_law_300 ?_
        obtain ⟨n115, hF⟩ := inb_inv hF
        refine xe_tald (kst := 2) dL_law_301 (by decide) n115 ?_
        refine xe_aload_n dL_law_302 rfl rfl ?_
        refine xe_iload_n dL_law_303 rfl rfl ?_
        refine xe_iconst (v := 2) dL_law_304 (by decide) ?_
        refine xe_iadd dL_law_305 ?_
        obtain ⟨n117, hF⟩ := inb_inv hF
        refine xe_tald (kst := 2) dL_law_306 (by decide) n117 ?_
        refine xe_aload_n dL_law_307 rfl rfl ?_
        refine xe_iload_n dL_law_308 rfl rfl ?_
        refine xe_iconst (v := 3) dL_law_309 (by decide) ?_
        refine xe_iadd dL_law_310 ?_
        obtain ⟨n119, hF⟩ := inb_inv hF
        refine xe_tald (kst := 2) dL_law_311 (by decide) n119 ?_
        refine xe_aload_n dL_law_312 rfl rfl ?_
        refine xe_iload_n dL_law_313 rfl rfl ?_
        refine xe_iconst (v := 4) dL_law_314 (by decide) ?_
        refine xe_iadd dL_law_315 ?_
        obtain ⟨n121, hF⟩ := inb_inv hF
        refine xe_tald (kst := 2) dL_law_316 (by decide) n121 ?_
        refine xe_aload_n dL_law_317 rfl rfl ?_
        refine xe_iload_n dL_law_318 rfl rfl ?_
        refine xe_iconst (v := 5) dL_law_319 (by decide) ?_
        refine xe_iadd dL_law_320 ?_
        obtain ⟨n123, hF⟩ := inb_inv hF
        refine xe_tald (kst := 2) dL_law_321 (by decide) n123 ?_
        obtain ⟨a129, e127, t128, hF⟩ := rcv_inv hF
        obtain ⟨v124, h125, o126, hF⟩ := cl_inv hF
        refine xz (xq_callV (As := [.int _, .int _, .int _, .int _, .int _]) (rest := []) dL_law_322 mk_X11_handler ⟨tw_409, tw_410, tw_411⟩ (ci := 10) rfl e127 t128 (FX11_handler_ok o126) xP_q (by decide) (by decide) rfl rfl ?_)
        refine xe_aload_n dL_law_325 rfl rfl ?_
        refine xe_aload_n dL_law_326 rfl rfl ?_
        refine xe_iload_n dL_law_327 rfl rfl ?_
        refine xe_iconst (v := 1) dL_law_328 (by decide) ?_
        refine xe_iadd dL_law_329 ?_
        obtain ⟨n131, hF⟩ := inb_inv hF
        refine xe_tald (kst := 2) dL_law_330 (by decide) n131 ?_
        refine xe_aload_n dL_law_331 rfl rfl ?_
        refine xe_iload_n dL_law_332 rfl rfl ?_
        refine xe_iconst (v := 2) dL_law_333 (by decide) ?_
        refine xe_iadd dL_law_334 ?_
        obtain ⟨n133, hF⟩ := inb_inv hF
        refine xe_tald (kst := 2) dL_law_335 (by decide) n133 ?_
        refine xe_aload_n dL_law_336 rfl rfl ?_
        refine xe_iload_n dL_law_337 rfl rfl ?_
        refine xe_iconst (v := 3) dL_law_338 (by decide) ?_
        refine xe_iadd dL_law_339 ?_
        obtain ⟨n135, hF⟩ := inb_inv hF
        refine xe_tald (kst := 2) dL_law_340 (by decide) n135 ?_
        refine xe_aload_n dL_law_341 rfl rfl ?_
        refine xe_iload_n dL_law_342 rfl rfl ?_
        refine xe_iconst (v := 4) dL_law_343 (by decide) ?_
        refine xe_iadd dL_law_344 ?_
        obtain ⟨n137, hF⟩ := inb_inv hF
        refine xe_tald (kst := 2) dL_law_345 (by decide) n137 ?_
        refine xe_aload_n dL_law_346 rfl rfl ?_
        refine xe_iload_n dL_law_347 rfl rfl ?_
        refine xe_iconst (v := 5) dL_law_348 (by decide) ?_
        refine xe_iadd dL_law_349 ?_
        obtain ⟨n139, hF⟩ := inb_inv hF
        refine xe_tald (kst := 2) dL_law_350 (by decide) n139 ?_
        obtain ⟨a145, e143, t144, hF⟩ := rcv_inv hF
        obtain ⟨v140, h141, o142, hF⟩ := cl_inv hF
        refine xz (xq_callV (As := [.int _, .int _, .int _, .int _, .int _]) (rest := [.int _]) dL_law_351 mk_X12_handler ⟨tw_1203, tw_1204, tw_1205⟩ (ci := 11) rfl e143 t144 (FX12_handler_ok o142) xP_q (by decide) (Nat.le_trans (cs_i cs_0) (by decide)) rfl rfl ?_)
        refine xe_icmp_eq (tgt := 839) dL_law_354 (by decide) (fun c146 => ?_) (fun c146 => ?_)
        · replace hF := if_p c146 hF
          exact xv.weaken (xv.lv (BL_law_839_ok ih hF) (xsub_cons rfl (xsub_cons rfl (xsub_cons rfl (xsub_cons rfl xsub_nil))))) (by first | decide | omega) (by first | decide | omega)
        · replace hF := if_n c146 hF
          refine xe_iconst (v := 0) dL_law_357 (by decide) ?_
          obtain ⟨z147, hF⟩ := bz_inv hF
          exact xe_ireturn dL_law_358 (xPZ_ret z147 hF)
      replace hF := if_n c113 hF
      refine xs_case (j := 5) (tgt := 359) dL_law_33 (by decide) (by decide) rfl (by decide) (fun c148 => ?_) (fun c148 => ?_)
      · replace hF := if_p c148 hF
        refine xe_aload_n dL_law_359 rfl rfl ?_
        refine xe_aload_n dL_law_360 rfl rfl ?_
        refine xe_iload_n dL_law_361 rfl rfl ?_
        refine xe_iconst (v := 1) dL_law_362 (by decide) ?_
        refine xe_iadd dL_law_363 ?_
        obtain ⟨n150, hF⟩ := inb_inv hF
        refine xe_tald (kst := 2) dL_law_364 (by decide) n150 ?_
        refine xe_i2l dL_law_365 ?_
        refine xe_bipush (v := 32) dL_law_366 (by decide) ?_
        refine xe_lshl dL_law_368 ?_
        refine xe_aload_n dL_law_369 rfl rfl ?_
        refine xe_iload_n dL_law_370 rfl rfl ?_
        refine xe_iconst (v := 2) dL_law_371 (by decide) ?_
        refine xe_iadd dL_law_372 ?_
        obtain ⟨n152, hF⟩ := inb_inv hF
        refine xe_tald (kst := 2) dL_law_373 (by decide) n152 ?_
        refine xe_i2l dL_law_374 ?_
        refine xe_ldc2 (v := 4294967295) dL_law_375 tw_1444 ?_
        refine xe_land dL_law_378 ?_
        refine xe_lor dL_law_379 ?_
        obtain ⟨a158, e156, t157, hF⟩ := rcv_inv hF
        obtain ⟨v153, h154, o155, hF⟩ := cl_inv hF
        refine xz (xq_callV (As := [.long _]) (rest := []) dL_law_380 mk_X11_constant ⟨tw_417, tw_418, tw_419⟩ (ci := 10) rfl e156 t157 (FX11_constant_ok o155) xP_q (by decide) (by decide) rfl rfl ?_)
        refine xe_aload_n dL_law_383 rfl rfl ?_
        refine xe_aload_n dL_law_384 rfl rfl ?_
        refine xe_iload_n dL_law_385 rfl rfl ?_
        refine xe_iconst (v := 1) dL_law_386 (by decide) ?_
        refine xe_iadd dL_law_387 ?_
        obtain ⟨n160, hF⟩ := inb_inv hF
        refine xe_tald (kst := 2) dL_law_388 (by decide) n160 ?_
        refine xe_i2l dL_law_389 ?_
        refine xe_bipush (v := 32) dL_law_390 (by decide) ?_
        refine xe_lshl dL_law_392 ?_
        refine xe_aload_n dL_law_393 rfl rfl ?_
        refine xe_iload_n dL_law_394 rfl rfl ?_
        refine xe_iconst (v := 2) dL_law_395 (by decide) ?_
        refine xe_iadd dL_law_396 ?_
        obtain ⟨n162, hF⟩ := inb_inv hF
        refine xe_tald (kst := 2) dL_law_397 (by decide) n162 ?_
        refine xe_i2l dL_law_398 ?_
        refine xe_ldc2 (v := 4294967295) dL_law_399 tw_1444 ?_
        refine xe_land dL_law_402 ?_
        refine xe_lor dL_law_403 ?_
        obtain ⟨a168, e166, t167, hF⟩ := rcv_inv hF
        obtain ⟨v163, h164, o165, hF⟩ := cl_inv hF
        refine xz (xq_callV (As := [.long _]) (rest := [.int _]) dL_law_404 mk_X12_constant ⟨tw_1211, tw_1212, tw_1213⟩ (ci := 11) rfl e166 t167 (FX12_constant_ok o165) xP_q (by decide) (Nat.le_trans (cs_i cs_0) (by decide)) rfl rfl ?_)
        refine xe_icmp_eq (tgt := 839) dL_law_407 (by decide) (fun c169 => ?_) (fun c169 => ?_)
        · replace hF := if_p c169 hF
          exact xv.weaken (xv.lv (BL_law_839_ok ih hF) (xsub_cons rfl (xsub_cons rfl (xsub_cons rfl (xsub_cons rfl xsub_nil))))) (by first | decide | omega) (by first | decide | omega)
        · replace hF := if_n c169 hF
          refine xe_iconst (v := 0) dL_law_410 (by decide) ?_
          obtain ⟨z170, hF⟩ := bz_inv hF
          exact xe_ireturn dL_law_411 (xPZ_ret z170 hF)
      replace hF := if_n c148 hF
      refine xs_case (j := 6) (tgt := 412) dL_law_33 (by decide) (by decide) rfl (by decide) (fun c171 => ?_) (fun c171 => ?_)
      · replace hF := if_p c171 hF
        refine xe_aload_n dL_law_412 rfl rfl ?_
        refine xe_aload_n dL_law_413 rfl rfl ?_
        refine xe_iload_n dL_law_414 rfl rfl ?_
        refine xe_iconst (v := 1) dL_law_415 (by decide) ?_
        refine xe_iadd dL_law_416 ?_
        obtain ⟨n173, hF⟩ := inb_inv hF
        refine xe_tald (kst := 2) dL_law_417 (by decide) n173 ?_
        refine xe_if_eq (tgt := 425) dL_law_418 (by decide) (fun c174 => ?_) (fun c174 => ?_)
        · replace hF := if_p c174 hF
          refine xe_iconst (v := 0) dL_law_425 (by decide) ?_
          exact xv.weaken (xv.lv (BL_law_426_ok ih hF) (xsub_cons rfl (xsub_cons rfl (xsub_cons rfl (xsub_cons rfl xsub_nil))))) (by first | decide | omega) (by first | decide | omega)
        · replace hF := if_n c174 hF
          refine xe_iconst (v := 1) dL_law_421 (by decide) ?_
          refine xe_goto (tgt := 426) dL_law_422 (by decide) ?_
          exact xv.weaken (xv.lv (BL_law_426_ok ih hF) (xsub_cons rfl (xsub_cons rfl (xsub_cons rfl (xsub_cons rfl xsub_nil))))) (by first | decide | omega) (by first | decide | omega)
      replace hF := if_n c171 hF
      refine xs_case (j := 7) (tgt := 471) dL_law_33 (by decide) (by decide) rfl (by decide) (fun c175 => ?_) (fun c175 => ?_)
      · replace hF := if_p c175 hF
        refine xe_aload_n dL_law_471 rfl rfl ?_
        refine xe_aload_n dL_law_472 rfl rfl ?_
        refine xe_iload_n dL_law_473 rfl rfl ?_
        refine xe_iconst (v := 1) dL_law_474 (by decide) ?_
        refine xe_iadd dL_law_475 ?_
        obtain ⟨n177, hF⟩ := inb_inv hF
        refine xe_tald (kst := 2) dL_law_476 (by decide) n177 ?_
        refine xe_aload_n dL_law_477 rfl rfl ?_
        refine xe_iload_n dL_law_478 rfl rfl ?_
        refine xe_iconst (v := 2) dL_law_479 (by decide) ?_
        refine xe_iadd dL_law_480 ?_
        obtain ⟨n179, hF⟩ := inb_inv hF
        refine xe_tald (kst := 2) dL_law_481 (by decide) n179 ?_
        refine xe_aload_n dL_law_482 rfl rfl ?_
        refine xe_iload_n dL_law_483 rfl rfl ?_
        refine xe_iconst (v := 3) dL_law_484 (by decide) ?_
        refine xe_iadd dL_law_485 ?_
        obtain ⟨n181, hF⟩ := inb_inv hF
        refine xe_tald (kst := 2) dL_law_486 (by decide) n181 ?_
        obtain ⟨a187, e185, t186, hF⟩ := rcv_inv hF
        obtain ⟨v182, h183, o184, hF⟩ := cl_inv hF
        refine xz (xq_callV (As := [.int _, .int _, .int _]) (rest := []) dL_law_487 mk_X11_entry ⟨tw_461, tw_462, tw_463⟩ (ci := 10) rfl e185 t186 (FX11_entry_ok o184) xP_q (by decide) (by decide) rfl rfl ?_)
        refine xe_aload_n dL_law_490 rfl rfl ?_
        refine xe_aload_n dL_law_491 rfl rfl ?_
        refine xe_iload_n dL_law_492 rfl rfl ?_
        refine xe_iconst (v := 1) dL_law_493 (by decide) ?_
        refine xe_iadd dL_law_494 ?_
        obtain ⟨n189, hF⟩ := inb_inv hF
        refine xe_tald (kst := 2) dL_law_495 (by decide) n189 ?_
        refine xe_aload_n dL_law_496 rfl rfl ?_
        refine xe_iload_n dL_law_497 rfl rfl ?_
        refine xe_iconst (v := 2) dL_law_498 (by decide) ?_
        refine xe_iadd dL_law_499 ?_
        obtain ⟨n191, hF⟩ := inb_inv hF
        refine xe_tald (kst := 2) dL_law_500 (by decide) n191 ?_
        refine xe_aload_n dL_law_501 rfl rfl ?_
        refine xe_iload_n dL_law_502 rfl rfl ?_
        refine xe_iconst (v := 3) dL_law_503 (by decide) ?_
        refine xe_iadd dL_law_504 ?_
        obtain ⟨n193, hF⟩ := inb_inv hF
        refine xe_tald (kst := 2) dL_law_505 (by decide) n193 ?_
        obtain ⟨a199, e197, t198, hF⟩ := rcv_inv hF
        obtain ⟨v194, h195, o196, hF⟩ := cl_inv hF
        refine xz (xq_callV (As := [.int _, .int _, .int _]) (rest := [.int _]) dL_law_506 mk_X12_entry ⟨tw_1219, tw_1220, tw_1221⟩ (ci := 11) rfl e197 t198 (FX12_entry_ok o196) xP_q (by decide) (Nat.le_trans (cs_i cs_0) (by decide)) rfl rfl ?_)
        refine xe_icmp_eq (tgt := 839) dL_law_509 (by decide) (fun c200 => ?_) (fun c200 => ?_)
        · replace hF := if_p c200 hF
          exact xv.weaken (xv.lv (BL_law_839_ok ih hF) (xsub_cons rfl (xsub_cons rfl (xsub_cons rfl (xsub_cons rfl xsub_nil))))) (by first | decide | omega) (by first | decide | omega)
        · replace hF := if_n c200 hF
          refine xe_iconst (v := 0) dL_law_512 (by decide) ?_
          obtain ⟨z201, hF⟩ := bz_inv hF
          exact xe_ireturn dL_law_513 (xPZ_ret z201 hF)
      replace hF := if_n c175 hF
      refine xs_case (j := 8) (tgt := 514) dL_law_33 (by decide) (by decide) rfl (by decide) (fun c202 => ?_) (fun c202 => ?_)
      · replace hF := if_p c202 hF
        refine xe_aload_n dL_law_514 rfl rfl ?_
        refine xe_aload_n dL_law_515 rfl rfl ?_
        refine xe_iload_n dL_law_516 rfl rfl ?_
        refine xe_iconst (v := 1) dL_law_517 (by decide) ?_
        refine xe_iadd dL_law_518 ?_
        obtain ⟨n204, hF⟩ := inb_inv hF
        refine xe_tald (kst := 2) dL_law_519 (by decide) n204 ?_
        obtain ⟨a210, e208, t209, hF⟩ := rcv_inv hF
        obtain ⟨v205, h206, o207, hF⟩ := cl_inv hF
        refine xz (xq_callV (As := [.int _]) (rest := []) dL_law_520 mk_X11_count ⟨tw_477, tw_478, tw_479⟩ (ci := 10) rfl e208 t209 (FX11_count_ok o207) xP_q (by decide) (by decide) rfl rfl ?_)
        refine xe_aload_n dL_law_523 rfl rfl ?_
        refine xe_aload_n dL_law_524 rfl rfl ?_
        refine xe_iload_n dL_law_525 rfl rfl ?_
        refine xe_iconst (v := 1) dL_law_526 (by decide) ?_
        refine xe_iadd dL_law_527 ?_
        obtain ⟨n212, hF⟩ := inb_inv hF
        refine xe_tald (kst := 2) dL_law_528 (by decide) n212 ?_
        obtain ⟨a218, e216, t217, hF⟩ := rcv_inv hF
        obtain ⟨v213, h214, o215, hF⟩ := cl_inv hF
        refine xz (xq_callV (As := [.int _]) (rest := [.int _]) dL_law_529 mk_X12_count ⟨tw_1223, tw_1224, tw_1225⟩ (ci := 11) rfl e216 t217 (FX12_count_ok o215) xP_q (by decide) (Nat.le_trans (cs_i cs_0) (by decide)) rfl rfl ?_)
        refine xe_icmp_eq (tgt := 839) dL_law_532 (by decide) (fun c219 => ?_) (fun c219 => ?_)
        · replace hF := if_p c219 hF
          exact xv.weaken (xv.lv (BL_law_839_ok ih hF) (xsub_cons rfl (xsub_cons rfl (xsub_cons rfl (xsub_cons rfl xsub_nil))))) (by first | decide | omega) (by first | decide | omega)
        · replace hF := if_n c219 hF
          refine xe_iconst (v := 0) dL_law_535 (by decide) ?_
          obtain ⟨z220, hF⟩ := bz_inv hF
          exact xe_ireturn dL_law_536 (xPZ_ret z220 hF)
      replace hF := if_n c202 hF
      refine xs_case (j := 9) (tgt := 537) dL_law_33 (by decide) (by decide) rfl (by decide) (fun c221 => ?_) (fun c221 => ?_)
      · replace hF := if_p c221 hF
        refine xe_aload_n dL_law_537 rfl rfl ?_
        refine xe_aload_n dL_law_538 rfl rfl ?_
        refine xe_iload_n dL_law_539 rfl rfl ?_
        refine xe_iconst (v := 1) dL_law_540 (by decide) ?_
        refine xe_iadd dL_law_541 ?_
        obtain ⟨n223, hF⟩ := inb_inv hF
        refine xe_tald (kst := 2) dL_law_542 (by decide) n223 ?_
        obtain ⟨a229, e227, t228, hF⟩ := rcv_inv hF
        obtain ⟨v224, h225, o226, hF⟩ := cl_inv hF
        refine xz (xq_callV (As := [.int _]) (rest := []) dL_law_543 mk_X11_judge ⟨tw_481, tw_482, tw_483⟩ (ci := 10) rfl e227 t228 (FX11_judge_ok o226) xP_q (by decide) (by decide) rfl rfl ?_)
        refine xe_aload_n dL_law_546 rfl rfl ?_
        refine xe_aload_n dL_law_547 rfl rfl ?_
        refine xe_iload_n dL_law_548 rfl rfl ?_
        refine xe_iconst (v := 1) dL_law_549 (by decide) ?_
        refine xe_iadd dL_law_550 ?_
        obtain ⟨n231, hF⟩ := inb_inv hF
        refine xe_tald (kst := 2) dL_law_551 (by decide) n231 ?_
        obtain ⟨a237, e235, t236, hF⟩ := rcv_inv hF
        obtain ⟨v232, h233, o234, hF⟩ := cl_inv hF
        refine xz (xq_callV (As := [.int _]) (rest := [.int _]) dL_law_552 mk_X12_judge ⟨tw_1227, tw_1228, tw_1229⟩ (ci := 11) rfl e235 t236 (FX12_judge_ok o234) xP_q (by decide) (Nat.le_trans (cs_i cs_0) (by decide)) rfl rfl ?_)
        refine xe_icmp_eq (tgt := 839) dL_law_555 (by decide) (fun c238 => ?_) (fun c238 => ?_)
        · replace hF := if_p c238 hF
          exact xv.weaken (xv.lv (BL_law_839_ok ih hF) (xsub_cons rfl (xsub_cons rfl (xsub_cons rfl (xsub_cons rfl xsub_nil))))) (by first | decide | omega) (by first | decide | omega)
        · replace hF := if_n c238 hF
          refine xe_iconst (v := 0) dL_law_558 (by decide) ?_
          obtain ⟨z239, hF⟩ := bz_inv hF
          exact xe_ireturn dL_law_559 (xPZ_ret z239 hF)
      replace hF := if_n c221 hF
      refine xs_case (j := 10) (tgt := 560) dL_law_33 (by decide) (by decide) rfl (by decide) (fun c240 => ?_) (fun c240 => ?_)
      · replace hF := if_p c240 hF
        refine xe_aload_n dL_law_560 rfl rfl ?_
        refine xe_aload_n dL_law_561 rfl rfl ?_
        refine xe_iload_n dL_law_562 rfl rfl ?_
        refine xe_iconst (v := 1) dL_law_563 (by decide) ?_
        refine xe_iadd dL_law_564 ?_
        obtain ⟨n242, hF⟩ := inb_inv hF
        refine xe_tald (kst := 2) dL_law_565 (by decide) n242 ?_
        obtain ⟨a248, e246, t247, hF⟩ := rcv_inv hF
        obtain ⟨v243, h244, o245, hF⟩ := cl_inv hF
        refine xz (xq_callV (As := [.int _]) (rest := []) dL_law_566 mk_X11_fault ⟨tw_686, tw_687, tw_688⟩ (ci := 10) rfl e246 t247 (FX11_fault_ok o245) xP_q (by decide) (by decide) rfl rfl ?_)
        refine xe_aload_n dL_law_569 rfl rfl ?_
        refine xe_aload_n dL_law_570 rfl rfl ?_
        refine xe_iload_n dL_law_571 rfl rfl ?_
        refine xe_iconst (v := 1) dL_law_572 (by decide) ?_
        refine xe_iadd dL_law_573 ?_
        obtain ⟨n250, hF⟩ := inb_inv hF
        refine xe_tald (kst := 2) dL_law_574 (by decide) n250 ?_
        obtain ⟨a256, e254, t255, hF⟩ := rcv_inv hF
        obtain ⟨v251, h252, o253, hF⟩ := cl_inv hF
        refine xz (xq_callV (As := [.int _]) (rest := [.int _]) dL_law_575 mk_X12_fault ⟨tw_1313, tw_1314, tw_1315⟩ (ci := 11) rfl e254 t255 (FX12_fault_ok o253) xP_q (by decide) (Nat.le_trans (cs_i cs_0) (by decide)) rfl rfl ?_)
        refine xe_icmp_eq (tgt := 839) dL_law_578 (by decide) (fun c257 => ?_) (fun c257 => ?_)
        · replace hF := if_p c257 hF
          exact xv.weaken (xv.lv (BL_law_839_ok ih hF) (xsub_cons rfl (xsub_cons rfl (xsub_cons rfl (xsub_cons rfl xsub_nil))))) (by first | decide | omega) (by first | decide | omega)
        · replace hF := if_n c257 hF
          refine xe_iconst (v := 0) dL_law_581 (by decide) ?_
          obtain ⟨z258, hF⟩ := bz_inv hF
          exact xe_ireturn dL_law_582 (xPZ_ret z258 hF)
      replace hF := if_n c240 hF
      refine xs_case (j := 11) (tgt := 583) dL_law_33 (by decide) (by decide) rfl (by decide) (fun c259 => ?_) (fun c259 => ?_)
      · replace hF := if_p c259 hF
        refine xe_aload_n dL_law_583 rfl rfl ?_
        refine xe_aload_n dL_law_584 rfl rfl ?_
        refine xe_iload_n dL_law_585 rfl rfl ?_
        refine xe_iconst (v := 1) dL_law_586 (by decide) ?_
        refine xe_iadd dL_law_587 ?_
        obtain ⟨n261, hF⟩ := inb_inv hF
        refine xe_tald (kst := 2) dL_law_588 (by decide) n261 ?_
        obtain ⟨a267, e265, t266, hF⟩ := rcv_inv hF
        obtain ⟨v262, h263, o264, hF⟩ := cl_inv hF
        refine xz (xq_callV (As := [.int _]) (rest := []) dL_law_589 mk_X11_good ⟨tw_690, tw_691, tw_692⟩ (ci := 10) rfl e265 t266 (FX11_good_ok o264) xP_q (by decide) (by decide) rfl rfl ?_)
        refine xe_aload_n dL_law_592 rfl rfl ?_
        refine xe_aload_n dL_law_593 rfl rfl ?_
        refine xe_iload_n dL_law_594 rfl rfl ?_
        refine xe_iconst (v := 1) dL_law_595 (by decide) ?_
        refine xe_iadd dL_law_596 ?_
        obtain ⟨n269, hF⟩ := inb_inv hF
        refine xe_tald (kst := 2) dL_law_597 (by decide) n269 ?_
        obtain ⟨a275, e273, t274, hF⟩ := rcv_inv hF
        obtain ⟨v270, h271, o272, hF⟩ := cl_inv hF
        refine xz (xq_callV (As := [.int _]) (rest := [.int _]) dL_law_598 mk_X12_good ⟨tw_1317, tw_1318, tw_1319⟩ (ci := 11) rfl e273 t274 (FX12_good_ok o272) xP_q (by decide) (Nat.le_trans (cs_i cs_0) (by decide)) rfl rfl ?_)
        refine xe_icmp_eq (tgt := 839) dL_law_601 (by decide) (fun c276 => ?_) (fun c276 => ?_)
        · replace hF := if_p c276 hF
          exact xv.weaken (xv.lv (BL_law_839_ok ih hF) (xsub_cons rfl (xsub_cons rfl (xsub_cons rfl (xsub_cons rfl xsub_nil))))) (by first | decide | omega) (by first | decide | omega)
        · replace hF := if_n c276 hF
          refine xe_iconst (v := 0) dL_law_604 (by decide) ?_
          obtain ⟨z277, hF⟩ := bz_inv hF
          exact xe_ireturn dL_law_605 (xPZ_ret z277 hF)
      replace hF := if_n c259 hF
      refine xs_case (j := 12) (tgt := 606) dL_law_33 (by decide) (by decide) rfl (by decide) (fun c278 => ?_) (fun c278 => ?_)
      · replace hF := if_p c278 hF
        refine xe_aload_n dL_law_606 rfl rfl ?_
        refine xe_aload_n dL_law_607 rfl rfl ?_
        refine xe_iload_n dL_law_608 rfl rfl ?_
        refine xe_iconst (v := 1) dL_law_609 (by decide) ?_
        refine xe_iadd dL_law_610 ?_
        obtain ⟨n280, hF⟩ := inb_inv hF
        refine xe_tald (kst := 2) dL_law_611 (by decide) n280 ?_
        refine xe_aload_n dL_law_612 rfl rfl ?_
        refine xe_iload_n dL_law_613 rfl rfl ?_
        refine xe_iconst (v := 2) dL_law_614 (by decide) ?_
        refine xe_iadd dL_law_615 ?_
        obtain ⟨n282, hF⟩ := inb_inv hF
        refine xe_tald (kst := 2) dL_law_616 (by decide) n282 ?_
        refine xe_aload_n dL_law_617 rfl rfl ?_
        refine xe_iload_n dL_law_618 rfl rfl ?_
        refine xe_iconst (v := 3) dL_law_619 (by decide) ?_
        refine xe_iadd dL_law_620 ?_
        obtain ⟨n284, hF⟩ := inb_inv hF
        refine xe_tald (kst := 2) dL_law_621 (by decide) n284 ?_
        obtain ⟨a290, e288, t289, hF⟩ := rcv_inv hF
        obtain ⟨v285, h286, o287, hF⟩ := cl_inv hF
        refine xz (xq_callV (As := [.int _, .int _, .int _]) (rest := []) dL_law_622 mk_X11_shape ⟨tw_694, tw_695, tw_696⟩ (ci := 10) rfl e288 t289 (FX11_shape_ok o287) xP_q (by decide) (by decide) rfl rfl ?_)
        refine xe_aload_n dL_law_625 rfl rfl ?_
        refine xe_aload_n dL_law_626 rfl rfl ?_
        refine xe_iload_n dL_law_627 rfl rfl ?_
        refine xe_iconst (v := 1) dL_law_628 (by decide) ?_
        refine xe_iadd dL_law_629 ?_
        obtain ⟨n292, hF⟩ := inb_inv hF
        refine xe_tald (kst := 2) dL_law_630 (by decide) n292 ?_
        refine xe_aload_n dL_law_631 rfl rfl ?_
        refine xe_iload_n dL_law_632 rfl rfl ?_
        refine xe_iconst (v := 2) dL_law_633 (by decide) ?_
        refine xe_iadd dL_law_634 ?_
        obtain ⟨n294, hF⟩ := inb_inv hF
        refine xe_tald (kst := 2) dL_law_635 (by decide) n294 ?_
        refine xe_aload_n dL_law_636 rfl rfl ?_
        refine xe_iload_n dL_law_637 rfl rfl ?_
        refine xe_iconst (v := 3) dL_law_638 (by decide) ?_
        refine xe_iadd dL_law_639 ?_
        obtain ⟨n296, hF⟩ := inb_inv hF
        refine xe_tald (kst := 2) dL_law_640 (by decide) n296 ?_
        obtain ⟨a302, e300, t301, hF⟩ := rcv_inv hF
        obtain ⟨v297, h298, o299, hF⟩ := cl_inv hF
        refine xz (xq_callV (As := [.int _, .int _, .int _]) (rest := [.int _]) dL_law_641 mk_X12_shape ⟨tw_1321, tw_1322, tw_1323⟩ (ci := 11) rfl e300 t301 (FX12_shape_ok o299) xP_q (by decide) (Nat.le_trans (cs_i cs_0) (by decide)) rfl rfl ?_)
        refine xe_icmp_eq (tgt := 839) dL_law_644 (by decide) (fun c303 => ?_) (fun c303 => ?_)
        · replace hF := if_p c303 hF
          exact xv.weaken (xv.lv (BL_law_839_ok ih hF) (xsub_cons rfl (xsub_cons rfl (xsub_cons rfl (xsub_cons rfl xsub_nil))))) (by first | decide | omega) (by first | decide | omega)
        · replace hF := if_n c303 hF
          refine xe_iconst (v := 0) dL_law_647 (by decide) ?_
          obtain ⟨z304, hF⟩ := bz_inv hF
          exact xe_ireturn dL_law_648 (xPZ_ret z304 hF)
      replace hF := if_n c278 hF
      refine xs_case (j := 13) (tgt := 649) dL_law_33 (by decide) (by decide) rfl (by decide) (fun c305 => ?_) (fun c305 => ?_)
      · replace hF := if_p c305 hF
        refine xe_aload_n dL_law_649 rfl rfl ?_
        refine xe_aload_n dL_law_650 rfl rfl ?_
        refine xe_iload_n dL_law_651 rfl rfl ?_
        refine xe_iconst (v := 1) dL_law_652 (by decide) ?_
        refine xe_iadd dL_law_653 ?_
        obtain ⟨n307, hF⟩ := inb_inv hF
        refine xe_tald (kst := 2) dL_law_654 (by decide) n307 ?_
        refine xe_i2l dL_law_655 ?_
        refine xe_bipush (v := 32) dL_law_656 (by decide) ?_
        refine xe_lshl dL_law_658 ?_
        refine xe_aload_n dL_law_659 rfl rfl ?_
        refine xe_iload_n dL_law_660 rfl rfl ?_
        refine xe_iconst (v := 2) dL_law_661 (by decide) ?_
        refine xe_iadd dL_law_662 ?_
        obtain ⟨n309, hF⟩ := inb_inv hF
        refine xe_tald (kst := 2) dL_law_663 (by decide) n309 ?_
        refine xe_i2l dL_law_664 ?_
        refine xe_ldc2 (v := 4294967295) dL_law_665 tw_1444 ?_
        refine xe_land dL_law_668 ?_
        refine xe_lor dL_law_669 ?_
        obtain ⟨a315, e313, t314, hF⟩ := rcv_inv hF
        obtain ⟨v310, h311, o312, hF⟩ := cl_inv hF
        refine xz (xq_callV (As := [.long _]) (rest := []) dL_law_670 mk_X11_give ⟨tw_702, tw_703, tw_704⟩ (ci := 10) rfl e313 t314 (FX11_give_ok o312) xP_q (by decide) (by decide) rfl rfl ?_)
        refine xe_aload_n dL_law_673 rfl rfl ?_
        refine xe_aload_n dL_law_674 rfl rfl ?_
        refine xe_iload_n dL_law_675 rfl rfl ?_
        refine xe_iconst (v := 1) dL_law_676 (by decide) ?_
        refine xe_iadd dL_law_677 ?_
        obtain ⟨n317, hF⟩ := inb_inv hF
        refine xe_tald (kst := 2) dL_law_678 (by decide) n317 ?_
        refine xe_i2l dL_law_679 ?_
        refine xe_bipush (v := 32) dL_law_680 (by decide) ?_
        refine xe_lshl dL_law_682 ?_
        refine xe_aload_n dL_law_683 rfl rfl ?_
        refine xe_iload_n dL_law_684 rfl rfl ?_
        refine xe_iconst (v := 2) dL_law_685 (by decide) ?_
        refine xe_iadd dL_law_686 ?_
        obtain ⟨n319, hF⟩ := inb_inv hF
        refine xe_tald (kst := 2) dL_law_687 (by decide) n319 ?_
        refine xe_i2l dL_law_688 ?_
        refine xe_ldc2 (v := 4294967295) dL_law_689 tw_1444 ?_
        refine xe_land dL_law_692 ?_
        refine xe_lor dL_law_693 ?_
        obtain ⟨a325, e323, t324, hF⟩ := rcv_inv hF
        obtain ⟨v320, h321, o322, hF⟩ := cl_inv hF
        refine xz (xq_callV (As := [.long _]) (rest := [.int _]) dL_law_694 mk_X12_give ⟨tw_1326, tw_1327, tw_1328⟩ (ci := 11) rfl e323 t324 (FX12_give_ok o322) xP_q (by decide) (Nat.le_trans (cs_i cs_0) (by decide)) rfl rfl ?_)
        refine xe_icmp_eq (tgt := 839) dL_law_697 (by decide) (fun c326 => ?_) (fun c326 => ?_)
        · replace hF := if_p c326 hF
          exact xv.weaken (xv.lv (BL_law_839_ok ih hF) (xsub_cons rfl (xsub_cons rfl (xsub_cons rfl (xsub_cons rfl xsub_nil))))) (by first | decide | omega) (by first | decide | omega)
        · replace hF := if_n c326 hF
          refine xe_iconst (v := 0) dL_law_700 (by decide) ?_
          obtain ⟨z327, hF⟩ := bz_inv hF
          exact xe_ireturn dL_law_701 (xPZ_ret z327 hF)
      replace hF := if_n c305 hF
      refine xs_case (j := 14) (tgt := 702) dL_law_33 (by decide) (by decide) rfl (by decide) (fun c328 => ?_) (fun c328 => ?_)
      · replace hF := if_p c328 hF
        refine xe_aload_n dL_law_702 rfl rfl ?_
        refine xe_aload_n dL_law_703 rfl rfl ?_
        refine xe_iload_n dL_law_704 rfl rfl ?_
        refine xe_iconst (v := 1) dL_law_705 (by decide) ?_
        refine xe_iadd dL_law_706 ?_
        obtain ⟨n330, hF⟩ := inb_inv hF
        refine xe_tald (kst := 2) dL_law_707 (by decide) n330 ?_
        refine xe_aload_n dL_law_708 rfl rfl ?_
        refine xe_iload_n dL_law_709 rfl rfl ?_
        refine xe_iconst (v := 2) dL_law_710 (by decide) ?_
        refine xe_iadd dL_law_711 ?_
        obtain ⟨n332, hF⟩ := inb_inv hF
        refine xe_tald (kst := 2) dL_law_712 (by decide) n332 ?_
        obtain ⟨a338, e336, t337, hF⟩ := rcv_inv hF
        obtain ⟨v333, h334, o335, hF⟩ := cl_inv hF
        refine xz (xq_callV (As := [.int _, .int _]) (rest := []) dL_law_713 mk_X11_walk ⟨tw_706, tw_707, tw_708⟩ (ci := 10) rfl e336 t337 (FX11_walk_ok o335) xP_q (by decide) (by decide) rfl rfl ?_)
        refine xe_aload_n dL_law_716 rfl rfl ?_
        refine xe_aload_n dL_law_717 rfl rfl ?_
        refine xe_iload_n dL_law_718 rfl rfl ?_
        refine xe_iconst (v := 1) dL_law_719 (by decide) ?_
        refine xe_iadd dL_law_720 ?_
        obtain ⟨n340, hF⟩ := inb_inv hF
        refine xe_tald (kst := 2) dL_law_721 (by decide) n340 ?_
        refine xe_aload_n dL_law_722 rfl rfl ?_
        refine xe_iload_n dL_law_723 rfl rfl ?_
        refine xe_iconst (v := 2) dL_law_724 (by decide) ?_
        refine xe_iadd dL_law_725 ?_
        obtain ⟨n342, hF⟩ := inb_inv hF
        refine xe_tald (kst := 2) dL_law_726 (by decide) n342 ?_
        obtain ⟨a348, e346, t347, hF⟩ := rcv_inv hF
        obtain ⟨v343, h344, o345, hF⟩ := cl_inv hF
        refine xz (xq_callV (As := [.int _, .int _]) (rest := [.int _]) dL_law_727 mk_X12_walk ⟨tw_1330, tw_1331, tw_1332⟩ (ci := 11) rfl e346 t347 (FX12_walk_ok o345) xP_q (by decide) (Nat.le_trans (cs_i cs_0) (by decide)) rfl rfl ?_)
        refine xe_icmp_eq (tgt := 839) dL_law_730 (by decide) (fun c349 => ?_) (fun c349 => ?_)
        · replace hF := if_p c349 hF
          exact xv.weaken (xv.lv (BL_law_839_ok ih hF) (xsub_cons rfl (xsub_cons rfl (xsub_cons rfl (xsub_cons rfl xsub_nil))))) (by first | decide | omega) (by first | decide | omega)
        · replace hF := if_n c349 hF
          refine xe_iconst (v := 0) dL_law_733 (by decide) ?_
          obtain ⟨z350, hF⟩ := bz_inv hF
          exact xe_ireturn dL_law_734 (xPZ_ret z350 hF)
      replace hF := if_n c328 hF
      refine xs_case (j := 15) (tgt := 735) dL_law_33 (by decide) (by decide) rfl (by decide) (fun c351 => ?_) (fun c351 => ?_)
      · replace hF := if_p c351 hF
        refine xe_aload_n dL_law_735 rfl rfl ?_
        obtain ⟨a357, e355, t356, hF⟩ := rcv_inv hF
        obtain ⟨v352, h353, o354, hF⟩ := cl_inv hF
        refine xz (xq_callV (As := []) (rest := []) dL_law_736 mk_X11_value ⟨tw_934, tw_935, tw_936⟩ (ci := 10) rfl e355 t356 (FX11_value_ok o354) xP_q (by decide) (by decide) rfl rfl ?_)
        refine xe_aload_n dL_law_739 rfl rfl ?_
        obtain ⟨a363, e361, t362, hF⟩ := rcv_inv hF
        obtain ⟨v358, h359, o360, hF⟩ := cl_inv hF
        refine xz (xq_callV (As := []) (rest := [.long _]) dL_law_740 mk_X12_value ⟨tw_1426, tw_1427, tw_1428⟩ (ci := 11) rfl e361 t362 (FX12_value_ok o360) xP_q (by decide) (Nat.le_trans (cs_l cs_0) (by decide)) rfl rfl ?_)
        refine xe_lcmp dL_law_743 ?_
        refine xe_lif_eq (tgt := 839) dL_law_744 (by decide) (fun c364 => ?_) (fun c364 => ?_)
        · replace hF := if_p c364 hF
          exact xv.weaken (xv.lv (BL_law_839_ok ih hF) (xsub_cons rfl (xsub_cons rfl (xsub_cons rfl (xsub_cons rfl xsub_nil))))) (by first | decide | omega) (by first | decide | omega)
        · replace hF := if_n c364 hF
          refine xe_iconst (v := 0) dL_law_747 (by decide) ?_
          obtain ⟨z365, hF⟩ := bz_inv hF
          exact xe_ireturn dL_law_748 (xPZ_ret z365 hF)
      replace hF := if_n c351 hF
      refine xs_case (j := 16) (tgt := 749) dL_law_33 (by decide) (by decide) rfl (by decide) (fun c366 => ?_) (fun c366 => ?_)
      · replace hF := if_p c366 hF
        refine xe_aload_n dL_law_749 rfl rfl ?_
        refine xe_aload_n dL_law_750 rfl rfl ?_
        refine xe_iload_n dL_law_751 rfl rfl ?_
        refine xe_iconst (v := 1) dL_law_752 (by decide) ?_
        refine xe_iadd dL_law_753 ?_
        obtain ⟨n368, hF⟩ := inb_inv hF
        refine xe_tald (kst := 2) dL_law_754 (by decide) n368 ?_
        obtain ⟨a374, e372, t373, hF⟩ := rcv_inv hF
        obtain ⟨v369, h370, o371, hF⟩ := cl_inv hF
        refine xz (xq_callV (As := [.int _]) (rest := []) dL_law_755 mk_X11_told ⟨tw_938, tw_939, tw_940⟩ (ci := 10) rfl e372 t373 (FX11_told_ok o371) xP_q (by decide) (by decide) rfl rfl ?_)
        refine xe_aload_n dL_law_758 rfl rfl ?_
        refine xe_aload_n dL_law_759 rfl rfl ?_
        refine xe_iload_n dL_law_760 rfl rfl ?_
        refine xe_iconst (v := 1) dL_law_761 (by decide) ?_
        refine xe_iadd dL_law_762 ?_
        obtain ⟨n376, hF⟩ := inb_inv hF
        refine xe_tald (kst := 2) dL_law_763 (by decide) n376 ?_
        obtain ⟨a382, e380, t381, hF⟩ := rcv_inv hF
        obtain ⟨v377, h378, o379, hF⟩ := cl_inv hF
        refine xz (xq_callV (As := [.int _]) (rest := [.int _]) dL_law_764 mk_X12_told ⟨tw_1430, tw_1431, tw_1432⟩ (ci := 11) rfl e380 t381 (FX12_told_ok o379) xP_q (by decide) (Nat.le_trans (cs_i cs_0) (by decide)) rfl rfl ?_)
        refine xe_icmp_eq (tgt := 839) dL_law_767 (by decide) (fun c383 => ?_) (fun c383 => ?_)
        · replace hF := if_p c383 hF
          exact xv.weaken (xv.lv (BL_law_839_ok ih hF) (xsub_cons rfl (xsub_cons rfl (xsub_cons rfl (xsub_cons rfl xsub_nil))))) (by first | decide | omega) (by first | decide | omega)
        · replace hF := if_n c383 hF
          refine xe_iconst (v := 0) dL_law_770 (by decide) ?_
          obtain ⟨z384, hF⟩ := bz_inv hF
          exact xe_ireturn dL_law_771 (xPZ_ret z384 hF)
      replace hF := if_n c366 hF
      refine xs_case (j := 17) (tgt := 772) dL_law_33 (by decide) (by decide) rfl (by decide) (fun c385 => ?_) (fun c385 => ?_)
      · replace hF := if_p c385 hF
        refine xe_aload_n dL_law_772 rfl rfl ?_
        refine xe_aload_n dL_law_773 rfl rfl ?_
        refine xe_iload_n dL_law_774 rfl rfl ?_
        refine xe_iconst (v := 1) dL_law_775 (by decide) ?_
        refine xe_iadd dL_law_776 ?_
        obtain ⟨n387, hF⟩ := inb_inv hF
        refine xe_tald (kst := 2) dL_law_777 (by decide) n387 ?_
        refine xe_aload_n dL_law_778 rfl rfl ?_
        refine xe_iload_n dL_law_779 rfl rfl ?_
        refine xe_iconst (v := 2) dL_law_780 (by decide) ?_
        refine xe_iadd dL_law_781 ?_
        obtain ⟨n389, hF⟩ := inb_inv hF
        refine xe_tald (kst := 2) dL_law_782 (by decide) n389 ?_
        obtain ⟨a395, e393, t394, hF⟩ := rcv_inv hF
        obtain ⟨v390, h391, o392, hF⟩ := cl_inv hF
        refine xz (xq_callV (As := [.int _, .int _]) (rest := []) dL_law_783 mk_X11_thing ⟨tw_946, tw_947, tw_948⟩ (ci := 10) rfl e393 t394 (FX11_thing_ok o392) xP_q (by decide) (by decide) rfl rfl ?_)
        refine xe_aload_n dL_law_786 rfl rfl ?_
        refine xe_aload_n dL_law_787 rfl rfl ?_
        refine xe_iload_n dL_law_788 rfl rfl ?_
        refine xe_iconst (v := 1) dL_law_789 (by decide) ?_
        refine xe_iadd dL_law_790 ?_
        obtain ⟨n397, hF⟩ := inb_inv hF
        refine xe_tald (kst := 2) dL_law_791 (by decide) n397 ?_
        refine xe_aload_n dL_law_792 rfl rfl ?_
        refine xe_iload_n dL_law_793 rfl rfl ?_
        refine xe_iconst (v := 2) dL_law_794 (by decide) ?_
        refine xe_iadd dL_law_795 ?_
        obtain ⟨n399, hF⟩ := inb_inv hF
        refine xe_tald (kst := 2) dL_law_796 (by decide) n399 ?_
        obtain ⟨a405, e403, t404, hF⟩ := rcv_inv hF
        obtain ⟨v400, h401, o402, hF⟩ := cl_inv hF
        refine xz (xq_callV (As := [.int _, .int _]) (rest := [.int _]) dL_law_797 mk_X12_thing ⟨tw_1434, tw_1435, tw_1436⟩ (ci := 11) rfl e403 t404 (FX12_thing_ok o402) xP_q (by decide) (Nat.le_trans (cs_i cs_0) (by decide)) rfl rfl ?_)
        refine xe_icmp_eq (tgt := 839) dL_law_800 (by decide) (fun c406 => ?_) (fun c406 => ?_)
        · replace hF := if_p c406 hF
          exact xv.weaken (xv.lv (BL_law_839_ok ih hF) (xsub_cons rfl (xsub_cons rfl (xsub_cons rfl (xsub_cons rfl xsub_nil))))) (by first | decide | omega) (by first | decide | omega)
        · replace hF := if_n c406 hF
          refine xe_iconst (v := 0) dL_law_803 (by decide) ?_
          obtain ⟨z407, hF⟩ := bz_inv hF
          exact xe_ireturn dL_law_804 (xPZ_ret z407 hF)
      replace hF := if_n c385 hF
      refine xs_case (j := 18) (tgt := 805) dL_law_33 (by decide) (by decide) rfl (by decide) (fun c408 => ?_) (fun c408 => ?_)
      · replace hF := if_p c408 hF
        refine xe_aload_n dL_law_805 rfl rfl ?_
        refine xe_aload_n dL_law_806 rfl rfl ?_
        refine xe_iload_n dL_law_807 rfl rfl ?_
        refine xe_iconst (v := 1) dL_law_808 (by decide) ?_
        refine xe_iadd dL_law_809 ?_
        obtain ⟨n410, hF⟩ := inb_inv hF
        refine xe_tald (kst := 2) dL_law_810 (by decide) n410 ?_
        refine xe_aload_n dL_law_811 rfl rfl ?_
        refine xe_iload_n dL_law_812 rfl rfl ?_
        refine xe_iconst (v := 2) dL_law_813 (by decide) ?_
        refine xe_iadd dL_law_814 ?_
        obtain ⟨n412, hF⟩ := inb_inv hF
        refine xe_tald (kst := 2) dL_law_815 (by decide) n412 ?_
        obtain ⟨a418, e416, t417, hF⟩ := rcv_inv hF
        obtain ⟨v413, h414, o415, hF⟩ := cl_inv hF
        refine xz (xq_callV (As := [.int _, .int _]) (rest := []) dL_law_816 mk_X11_cell ⟨tw_954, tw_955, tw_956⟩ (ci := 10) rfl e416 t417 (FX11_cell_ok o415) xP_q (by decide) (by decide) rfl rfl ?_)
        refine xe_aload_n dL_law_819 rfl rfl ?_
        refine xe_aload_n dL_law_820 rfl rfl ?_
        refine xe_iload_n dL_law_821 rfl rfl ?_
        refine xe_iconst (v := 1) dL_law_822 (by decide) ?_
        refine xe_iadd dL_law_823 ?_
        obtain ⟨n420, hF⟩ := inb_inv hF
        refine xe_tald (kst := 2) dL_law_824 (by decide) n420 ?_
        refine xe_aload_n dL_law_825 rfl rfl ?_
        refine xe_iload_n dL_law_826 rfl rfl ?_
        refine xe_iconst (v := 2) dL_law_827 (by decide) ?_
        refine xe_iadd dL_law_828 ?_
        obtain ⟨n422, hF⟩ := inb_inv hF
        refine xe_tald (kst := 2) dL_law_829 (by decide) n422 ?_
        obtain ⟨a428, e426, t427, hF⟩ := rcv_inv hF
        obtain ⟨v423, h424, o425, hF⟩ := cl_inv hF
        refine xz (xq_callV (As := [.int _, .int _]) (rest := [.long _]) dL_law_830 mk_X12_cell ⟨tw_1439, tw_1440, tw_1441⟩ (ci := 11) rfl e426 t427 (FX12_cell_ok o425) xP_q (by decide) (Nat.le_trans (cs_l cs_0) (by decide)) rfl rfl ?_)
        refine xe_lcmp dL_law_833 ?_
        refine xe_lif_eq (tgt := 839) dL_law_834 (by decide) (fun c429 => ?_) (fun c429 => ?_)
        · replace hF := if_p c429 hF
          exact xv.weaken (xv.lv (BL_law_839_ok ih hF) (xsub_cons rfl (xsub_cons rfl (xsub_cons rfl (xsub_cons rfl xsub_nil))))) (by first | decide | omega) (by first | decide | omega)
        · replace hF := if_n c429 hF
          refine xe_iconst (v := 0) dL_law_837 (by decide) ?_
          obtain ⟨z430, hF⟩ := bz_inv hF
          exact xe_ireturn dL_law_838 (xPZ_ret z430 hF)
      replace hF := if_n c408 hF
      refine xs_rest (tgt := 839) [0, 1, 2, 3, 4, 5, 6, 7, 8, 9, 10, 11, 12, 13, 14, 15, 16, 17, 18] dL_law_33 (by decide) (List.forall_mem_cons.mpr ⟨c5, List.forall_mem_cons.mpr ⟨c24, List.forall_mem_cons.mpr ⟨c47, List.forall_mem_cons.mpr ⟨c78, List.forall_mem_cons.mpr ⟨c113, List.forall_mem_cons.mpr ⟨c148, List.forall_mem_cons.mpr ⟨c171, List.forall_mem_cons.mpr ⟨c175, List.forall_mem_cons.mpr ⟨c202, List.forall_mem_cons.mpr ⟨c221, List.forall_mem_cons.mpr ⟨c240, List.forall_mem_cons.mpr ⟨c259, List.forall_mem_cons.mpr ⟨c278, List.forall_mem_cons.mpr ⟨c305, List.forall_mem_cons.mpr ⟨c328, List.forall_mem_cons.mpr ⟨c351, List.forall_mem_cons.mpr ⟨c366, List.forall_mem_cons.mpr ⟨c385, List.forall_mem_cons.mpr ⟨c408, fun _ h => by cases h⟩⟩⟩⟩⟩⟩⟩⟩⟩⟩⟩⟩⟩⟩⟩⟩⟩⟩⟩) (by decide) ?_
      exact xv.weaken (xv.lv (BL_law_839_ok ih hF) (xsub_cons rfl (xsub_cons rfl (xsub_cons rfl (xsub_cons rfl xsub_nil))))) (by first | decide | omega) (by first | decide | omega)
def FL_law (L : Nat) (xs : Nat → Int32) (h0 : Hp) : Option (Int32 × Hp) :=
  nA h0 (.inl 10) fun v1 h2 =>
  nz (some v1) none <|
  cl (FX11_init (some v1) h2) fun v5 h6 =>
  nA h6 (.inl 11) fun v10 h11 =>
  nz (some v10) none <|
  cl (FX12_init (some v10) h11) fun v14 h15 =>
  BL_law_18 L xs 513 (some v1) (some v10) 0 h15
set_option maxRecDepth 100000 in
set_option maxHeartbeats 4000000 in
theorem FL_law_ok {D : va_G} {cA : FieldType → ClassId} {b0 : Nat} {sa : Nat → Nat} {L : Nat} {xs : Nat → Int32} {l : Launch} {h0 h1 : Hp} {r : Int32} (hF : FL_law L xs h0 = some (r, h1)) : xv (D, cA, b0, sa, L, xs) l mL_law 15 7284 1072997 0 [(0, false, va_rf (some (sa 2)))] [] h0 (xPZ r h1) := by
  unfold FL_law at hF
  obtain ⟨v1, h2, e3, e4, hF⟩ := nA_inv hF
  refine xv.weaken (xn_new (k := 7283) (n := 1072992) dL_law_0 xk_10 (by decide) nw_SeldomOpsLaw_7 e3 e4 ?_) (by first | decide | omega) (by first | decide | (simp only [xnf]; omega))
  refine xe_dup dL_law_3 (va_rf_cat _) ?_
  obtain ⟨a9, e8, hF⟩ := nzn_inv hF
  obtain ⟨v5, h6, o7, hF⟩ := cl_inv hF
  refine xv.weaken (xq_callI (k := 7226) (n := 1065939) (As := []) (rest := [va_rf _]) dL_law_4 mk_X11_init ⟨rfl, rfl⟩ ⟨tw_18, tw_19⟩ e8 (FX11_init_ok o7) xP_q (by decide) (Nat.le_trans (cs_r cs_0) (by decide)) rfl rfl ?_) (by first | decide | omega) (by first | decide | omega)
  refine xe_astore_n dL_law_7 rfl (by decide) ?_
  obtain ⟨v10, h11, e12, e13, hF⟩ := nA_inv hF
  refine xv.weaken (xn_new (k := 7225) (n := 1065872) dL_law_8 xk_11 (by decide) nw_SeldomOpsLaw_10 e12 e13 ?_) (by first | decide | omega) (by first | decide | (simp only [xnf]; omega))
  refine xe_dup dL_law_11 (va_rf_cat _) ?_
  obtain ⟨a18, e17, hF⟩ := nzn_inv hF
  obtain ⟨v14, h15, o16, hF⟩ := cl_inv hF
  refine xv.weaken (xq_callI (k := 7182) (n := 1042416) (As := []) (rest := [va_rf _]) dL_law_12 mk_X12_init ⟨rfl, rfl⟩ ⟨tw_963, tw_964⟩ e17 (FX12_init_ok o16) xP_q (by decide) (Nat.le_trans (cs_r cs_0) (by decide)) rfl rfl ?_) (by first | decide | omega) (by first | decide | omega)
  refine xe_astore_n dL_law_15 rfl (by decide) ?_
  refine xe_iconst (v := 0) dL_law_16 (by decide) ?_
  refine xe_istore_n dL_law_17 rfl (by decide) ?_
  exact xv.weaken (xv.lv (BL_law_18_ok _ hF) (xsub_cons rfl (xsub_cons rfl (xsub_cons rfl (xsub_cons rfl xsub_nil))))) (by first | decide | omega) (by first | decide | omega)
