/-! an operation is altered: both sides -/
section GP
variable {h g : Hp} {o q : Nat} {G : Gs} {P : Pg} {m i op : Nat} {A B : Int32}
theorem c_alter (gi : GI G) (cg : CG h o G) (x i p A B : Int32) : Ok (FX11_alter (some o) x i p A B h) (CQ o h (s_alter G x i p A B)) := by
  obtain ⟨⟨ma, ta, va⟩, ⟨⟨t0, ⟨r0, r1, r2, r3⟩, t52⟩, -⟩, vc⟩ := id cg
  have pc := va.1
  have ap := va.2.1
  have hnm := gi.1.1
  unfold FX11_alter s_alter
  rw [gR_ok t0, r0, rcv_ok pc.1.1]
  cases hx : wi x (p_nm G.1) with
  | false =>
    rw [f_findM_no pc gi.1 hx, cl_ok, if_neg (by decide), nz_no]
    exact ok_some ⟨rfl, cg, FC.refl⟩
  | true =>
    obtain ⟨m, hm, rfl, ec⟩ := wi_ex (by omega) hx
    have wm := gi.1.2.2.2.1 m hm
    have hno := wm.2.2.2.1
    obtain ⟨x1, x2, x3⟩ := pc.2.2.1 m hm
    rw [f_findM pc gi.1 hm, cl_ok, if_pos rfl, nz_ok, gI_ok x2.1, x3.1.2.2.2.1, f_wi _ (by omega), cl_ok, b2i_if, ec]
    cases hi : wi i (p_no G.1 m) with
    | false =>
      rw [if_neg (by decide), if_neg (by decide)]
      exact ok_some ⟨rfl, cg, FC.refl⟩
    | true =>
      obtain ⟨j, hj, rfl, ej⟩ := wi_ex (by omega) hi
      rw [if_pos rfl, if_pos rfl, nl_36, f_wi _ (by decide), cl_ok, b2i_if, ej]
      cases hp : wi p 36 with
      | false =>
        rw [if_neg (by decide), if_neg (by decide)]
        exact ok_some ⟨rfl, cg, FC.refl⟩
      | true =>
        obtain ⟨op, hop, rfl, ep⟩ := wi_ex (by decide) hp
        rw [if_pos rfl, if_pos rfl, ep, gR_ok t0, r0, rcv_ok pc.1.1]
        refine ok_cl (c_forget gi.1 va) (fun _ h1 z => ?_)
        obtain ⟨v1, f1⟩ := z
        rw [rcv_ok (by rw [f1.1]; exact x2.1)]
        refine ok_cl (c_setOp gi.1 v1 hm hj hop) (fun _ h2 z => ?_)
        obtain ⟨v2, f2⟩ := z
        have om := ap.1 m hm
        have ff : Fr (fun b => (∃ k, k < p_nm G.1 ∧ b = ma k) ∨ (ma m + 2 ≤ b ∧ b ≤ ma m + 4)) h h2 := (f1.mono (fun b z => Or.inl z)).trans (f2.mono (fun b z => Or.inr z))
        obtain ⟨q1, q2⟩ := cq_pg cg v2 ff (fun b z => by
          rcases z with ⟨k, hk, e⟩ | z
          · have := ap.1 k hk; omega
          · omega)
        exact ok_some ⟨rfl, q1, q2⟩
def A68 (q : Nat) : Nat → Prop := fun b => b = q + 14 ∨ b = q + 22 ∨ (q + 6 ≤ b ∧ b ≤ q + 8)
theorem da_core {nm n : Nat} (lm : LM (hT h) (hR h) q) (e0 : hI h q 0 = nI nm) (h8 : nm ≤ 8) (hm : m < nm) (e5 : hI h (q + 5) m = nI n) (n60 : n ≤ 60) (hi : i < n) (hop : op < 36) : Ok (FX12_alter (some q) (nI m) (nI i) (nI op) A B h) (fun r g => r = nI i ∧ (∀ x, x < 8 → hI g (q + 14) x = 0) ∧ (∀ x, x < 480 → hI g (q + 22) x = 0) ∧ (∀ j, hI g (q + 6) j = if j = 60 * m + i then nI op else hI h (q + 6) j) ∧ (∀ j, hI g (q + 7) j = if j = 60 * m + i then A else hI h (q + 7) j) ∧ (∀ j, hI g (q + 8) j = if j = 60 * m + i then B else hI h (q + 8) j) ∧ Fm q F40 (A68 q) h g) := by
  obtain ⟨mt0, ⟨mr1, mt1⟩, ⟨mr2, mt2⟩, ⟨mr3, mt3⟩, ⟨mr4, mt4⟩, ⟨mr5, mt5⟩, ⟨mr6, mt6⟩, ⟨mr7, mt7⟩, ⟨mr8, mt8⟩, ⟨mr9, mt9⟩, ⟨mr10, mt10⟩, ⟨mr11, mt11⟩, ⟨mr12, mt12⟩, ⟨mr13, mt13⟩, ⟨mr14, mt14⟩, ⟨mr15, mt15⟩, ⟨mr16, mt16⟩, ⟨mr17, mt17⟩, ⟨mr18, mt18⟩, ⟨mr19, mt19⟩, ⟨mr20, mt20⟩, ⟨mr21, mt21⟩, ⟨mr22, mt22⟩, ⟨mr23, mt23⟩, ⟨mr24, mt24⟩, ⟨mr25, mt25⟩, ⟨mr26, mt26⟩, ⟨mr27, mt27⟩, ⟨mr28, mt28⟩, ⟨mr29, mt29⟩, ⟨mr30, mt30⟩, ⟨mr31, mt31⟩, ⟨mr32, mt32⟩, ⟨mr33, mt33⟩, ⟨mr34, mt34⟩, ⟨mr35, mt35⟩, ⟨mr36, mt36⟩, ⟨mr37, mt37⟩, ⟨mr38, mt38⟩, ⟨mr39, mt39⟩, ⟨mr40, mt40⟩, ⟨mr41, mt41⟩, ⟨mr42, mt42⟩, ⟨mr43, mt43⟩⟩ := id lm
  unfold FX12_alter FX12_isMethod FX12_change
  rw [rcv_ok mt0, gI_ok mt0, e0, in_n _ (by omega), wi_n (by omega), decide_eq_true hm]
  rw [cl_ok, show b2i true = 1 from rfl, bz_1, cl_ok, if_neg (show ¬ (1 : Int32) = 0 by decide), gR_ok mt0, mr5, aI_n mt5 (by omega) (by decide), e5, in_n _ (by omega), wi_n (by omega), decide_eq_true hi, cl_ok, b2i_if, if_pos rfl, in_35, wi_n (by omega), decide_eq_true hop, cl_ok, b2i_if, if_pos rfl, rcv_ok mt0, nI_c0]
  refine ok_cl (ch_2 100000 0 h (by omega) (by omega) lm (fun x hx => by omega)) (fun _ h1 z => ?_)
  obtain ⟨z1, z2, z3⟩ := z
  have lm := lm.fm z3
  obtain ⟨mt0, ⟨mr1, mt1⟩, ⟨mr2, mt2⟩, ⟨mr3, mt3⟩, ⟨mr4, mt4⟩, ⟨mr5, mt5⟩, ⟨mr6, mt6⟩, ⟨mr7, mt7⟩, ⟨mr8, mt8⟩, ⟨mr9, mt9⟩, ⟨mr10, mt10⟩, ⟨mr11, mt11⟩, ⟨mr12, mt12⟩, ⟨mr13, mt13⟩, ⟨mr14, mt14⟩, ⟨mr15, mt15⟩, ⟨mr16, mt16⟩, ⟨mr17, mt17⟩, ⟨mr18, mt18⟩, ⟨mr19, mt19⟩, ⟨mr20, mt20⟩, ⟨mr21, mt21⟩, ⟨mr22, mt22⟩, ⟨mr23, mt23⟩, ⟨mr24, mt24⟩, ⟨mr25, mt25⟩, ⟨mr26, mt26⟩, ⟨mr27, mt27⟩, ⟨mr28, mt28⟩, ⟨mr29, mt29⟩, ⟨mr30, mt30⟩, ⟨mr31, mt31⟩, ⟨mr32, mt32⟩, ⟨mr33, mt33⟩, ⟨mr34, mt34⟩, ⟨mr35, mt35⟩, ⟨mr36, mt36⟩, ⟨mr37, mt37⟩, ⟨mr38, mt38⟩, ⟨mr39, mt39⟩, ⟨mr40, mt40⟩, ⟨mr41, mt41⟩, ⟨mr42, mt42⟩, ⟨mr43, mt43⟩⟩ := id lm
  rw [gR_ok mt0, mr6, nl_60, pk_mul, nI_add, sI_n mt6 (by omega) (by decide), gR_ok (show hT (wI h1 (q + 6) (60 * m + i) (nI op)) q = _ from mt0), show hR (wI h1 (q + 6) (60 * m + i) (nI op)) q 7 = _ from mr7, sI_n (show hT (wI h1 (q + 6) (60 * m + i) (nI op)) (q + 7) = _ from mt7) (by omega) (by decide), gR_ok (show hT (wI (wI h1 (q + 6) (60 * m + i) (nI op)) (q + 7) (60 * m + i) A) q = _ from mt0), show hR (wI (wI h1 (q + 6) (60 * m + i) (nI op)) (q + 7) (60 * m + i) A) q 8 = _ from mr8, sI_n (show hT (wI (wI h1 (q + 6) (60 * m + i) (nI op)) (q + 7) (60 * m + i) A) (q + 8) = _ from mt8) (by omega) (by decide)]
  have f1 : Fm q F40 (A68 q) h1 (wI (wI (wI h1 (q + 6) (60 * m + i) (nI op)) (q + 7) (60 * m + i) A) (q + 8) (60 * m + i) B) := ((Fm.wa (q := q) (F := F40) (A := A68 q) (by unfold A68; omega) (by omega)).trans (Fm.wa (q := q) (F := F40) (A := A68 q) (by unfold A68; omega) (by omega))).trans (Fm.wa (q := q) (F := F40) (A := A68 q) (by unfold A68; omega) (by omega))
  have i6 : hI h1 (q + 6) = hI h (q + 6) := (z3.2.2.2.1 (q + 6) (by omega) (by omega)).1
  have i7 : hI h1 (q + 7) = hI h (q + 7) := (z3.2.2.2.1 (q + 7) (by omega) (by omega)).1
  have i8 : hI h1 (q + 8) = hI h (q + 8) := (z3.2.2.2.1 (q + 8) (by omega) (by omega)).1
  refine ok_some ⟨rfl, fun x hx => ?_, fun x hx => ?_, fun j => ?_, fun j => ?_, fun j => ?_, (z3.mono (fun _ z => z) (fun b z => by unfold A68; omega)).trans f1⟩
  · rw [hI_wI_a (by omega), hI_wI_a (by omega), hI_wI_a (by omega)]; exact z1 x hx
  · rw [hI_wI_a (by omega), hI_wI_a (by omega), hI_wI_a (by omega)]; exact z2 x hx
  · rw [hI_wI_a (by omega), hI_wI_a (by omega)]
    by_cases z : j = 60 * m + i
    · rw [if_pos z, z]; exact hI_wI_s
    · rw [if_neg z, hI_wI_k z, i6]
  · rw [hI_wI_a (by omega)]
    by_cases z : j = 60 * m + i
    · rw [if_pos z, z]; exact hI_wI_s
    · rw [if_neg z, hI_wI_k z, hI_wI_a (by omega), i7]
  · by_cases z : j = 60 * m + i
    · rw [if_pos z, z]; exact hI_wI_s
    · rw [if_neg z, hI_wI_k z, hI_wI_a (by omega), hI_wI_a (by omega), i8]
theorem d_alter (gi : GI G) (mg : MG h q G) (x i p A B : Int32) : Ok (FX12_alter (some q) x i p A B h) (DQ q h (s_alter G x i p A B)) := by
  have lm := mg.1.1
  have pm := mg.1.2.1
  have hnm := gi.1.1
  have frr : Fr (AMd q) h h := ⟨rfl, rfl, rfl, fun _ _ => ⟨rfl, rfl⟩⟩
  unfold s_alter
  cases hx : wi x (p_nm G.1) with
  | false =>
    unfold FX12_alter
    rw [rcv_ok lm.1, f_isM lm pm gi.1, cl_ok, b2i_if, hx, if_neg (by decide), if_neg (by decide)]
    exact ok_some ⟨rfl, mg, frr⟩
  | true =>
    obtain ⟨m, hm, rfl, ec⟩ := wi_ex (by omega) hx
    have wm := gi.1.2.2.2.1 m hm
    have hno := wm.2.2.2.1
    have vm := pm.2.1 m hm
    rw [if_pos rfl, ec]
    obtain ⟨mt0, ⟨mr1, mt1⟩, ⟨mr2, mt2⟩, ⟨mr3, mt3⟩, ⟨mr4, mt4⟩, ⟨mr5, mt5⟩, ⟨mr6, mt6⟩, ⟨mr7, mt7⟩, ⟨mr8, mt8⟩, ⟨mr9, mt9⟩, ⟨mr10, mt10⟩, ⟨mr11, mt11⟩, ⟨mr12, mt12⟩, ⟨mr13, mt13⟩, ⟨mr14, mt14⟩, ⟨mr15, mt15⟩, ⟨mr16, mt16⟩, ⟨mr17, mt17⟩, ⟨mr18, mt18⟩, ⟨mr19, mt19⟩, ⟨mr20, mt20⟩, ⟨mr21, mt21⟩, ⟨mr22, mt22⟩, ⟨mr23, mt23⟩, ⟨mr24, mt24⟩, ⟨mr25, mt25⟩, ⟨mr26, mt26⟩, ⟨mr27, mt27⟩, ⟨mr28, mt28⟩, ⟨mr29, mt29⟩, ⟨mr30, mt30⟩, ⟨mr31, mt31⟩, ⟨mr32, mt32⟩, ⟨mr33, mt33⟩, ⟨mr34, mt34⟩, ⟨mr35, mt35⟩, ⟨mr36, mt36⟩, ⟨mr37, mt37⟩, ⟨mr38, mt38⟩, ⟨mr39, mt39⟩, ⟨mr40, mt40⟩, ⟨mr41, mt41⟩, ⟨mr42, mt42⟩, ⟨mr43, mt43⟩⟩ := id lm
    have pre : FX12_alter (some q) (nI m) i p A B h = (cl (FX12_in (Int32.toInt64 i) 0 (Int32.toInt64 (nI (p_no G.1 m) - 1)) h) fun v18 h19 => if v18 = 0 then some (-2, h19) else cl (FX12_in (Int32.toInt64 p) 0 35 h19) fun v22 h23 => if v22 = 0 then some (-2, h23) else rcv h23 (some q) 11 <| cl (FX12_change (some q) h23) fun v26 h27 => gR h27 (some q) 11 6 fun v32 => sI h27 v32 ((60 * nI m) + i) p fun h36 => gR h36 (some q) 11 7 fun v43 => sI h36 v43 ((60 * nI m) + i) A fun h47 => gR h47 (some q) 11 8 fun v54 => sI h47 v54 ((60 * nI m) + i) B fun h58 => some (i, h58)) := by
      unfold FX12_alter
      rw [rcv_ok mt0, f_isM lm pm gi.1, cl_ok, b2i_if, hx, if_pos rfl, gR_ok mt0, mr5, aI_n mt5 (by omega) (by decide), vm.1.2.2.2.1]
    cases hi : wi i (p_no G.1 m) with
    | false =>
      rw [pre, in_n _ (by omega), cl_ok, b2i_if, hi, if_neg (by decide), if_neg (by decide)]
      exact ok_some ⟨rfl, mg, frr⟩
    | true =>
      obtain ⟨j, hj, rfl, ej⟩ := wi_ex (by omega) hi
      rw [if_pos rfl, ej]
      cases hp : wi p 36 with
      | false =>
        rw [pre, in_n _ (by omega), cl_ok, b2i_if, hi, if_pos rfl, in_35, cl_ok, b2i_if, hp, if_neg (by decide), if_neg (by decide)]
        exact ok_some ⟨rfl, mg, frr⟩
      | true =>
        obtain ⟨op, hop, rfl, ep⟩ := wi_ex (by decide) hp
        rw [if_pos rfl, ep]
        refine (da_core lm pm.1.1 hnm hm vm.1.2.2.2.1 hno hj hop).mono (fun r g z => ?_)
        obtain ⟨z1, z2, z3, z4, z5, z6, z7⟩ := z
        have eb : ∀ b, b ≤ 13 → b ≠ 0 → ¬ (6 ≤ b ∧ b ≤ 8) → hI g (q + b) = hI h (q + b) := fun b h1 h2 h3 => (z7.2.2.2.1 (q + b) (by omega) (fun z => by unfold A68 at z; omega)).1
        have mm : PMm g q (pgO G.1 m j op A B) m := by
          obtain ⟨⟨v1, v2, v3, v4, v5⟩, v6, v7, v8⟩ := vm
          refine ⟨⟨by rw [eb 1 (by omega) (by omega) (by omega)]; exact v1, by rw [eb 2 (by omega) (by omega) (by omega)]; exact v2, by rw [eb 3 (by omega) (by omega) (by omega)]; exact v3, by rw [eb 5 (by omega) (by omega) (by omega)]; exact v4, by rw [eb 9 (by omega) (by omega) (by omega)]; exact v5⟩, fun k hk => by rw [eb 4 (by omega) (by omega) (by omega)]; exact v6 k hk, fun y hy => ?_, fun k hk => by rw [eb 10 (by omega) (by omega) (by omega), eb 11 (by omega) (by omega) (by omega), eb 12 (by omega) (by omega) (by omega), eb 13 (by omega) (by omega) (by omega)]; exact v8 k hk⟩
          rw [z4, z5, z6, pO_op, pO_A, pO_B]
          by_cases w : y = j
          · subst w
            rw [if_pos rfl, if_pos rfl, if_pos rfl, if_pos rfl, if_pos rfl, if_pos rfl]; exact ⟨rfl, rfl, rfl⟩
          · rw [if_neg (show ¬ 60 * m + y = 60 * m + j by omega), if_neg (show ¬ 60 * m + y = 60 * m + j by omega), if_neg (show ¬ 60 * m + y = 60 * m + j by omega), if_neg w, if_neg w, if_neg w]; exact v7 y hy
        have f5 : Fr5 q m h g := fun m' hm' => ⟨fun b hb => by rw [eb b (by omega) (by omega) (by omega)], fun k hk => by rw [eb 4 (by omega) (by omega) (by omega)], fun b y h1 h2 hy => by
          rcases (show b = 6 ∨ b = 7 ∨ b = 8 by omega) with rfl | rfl | rfl
          · rw [z4, if_neg (by omega)]
          · rw [z5, if_neg (by omega)]
          · rw [z6, if_neg (by omega)], fun b k h1 h2 hk => by rw [eb b (by omega) (by omega) (by omega)]⟩
        have hA : ∀ b, A68 q b → (q + 1 ≤ b ∧ b ≤ q + 14) ∨ b = q + 22 := fun b z => by unfold A68 at z; omega
        have pm2 : PM g q (pgO G.1 m j op A B) := pm_row gi.1 pm hm eqm_O z7 hA f5 mm
        exact ⟨z1, mg.pg z7 (fun k z => z.elim) (fun b z => by have := hA b z; omega) (fun k hk => z2 k (by have hk : k < p_nm G.1 := hk; omega)) z3 pm2 hnm, z7.fr (fun b z => by have := hA b z; omega)⟩
end GP
