/-! Judge: shapes are sent on -/
def Apt (o : Nat) (ma ta : Nat → Nat) (P : Pg) : Prop := (∀ m, m < p_nm P → o + 97 ≤ ma m) ∧ (∀ t, t < p_nt P → o + 97 ≤ ta t) ∧ (∀ m k, m < p_nm P → k < p_nm P → m ≠ k → ma m + 14 ≤ ma k ∨ ma k + 14 ≤ ma m) ∧ (∀ t k, t < p_nt P → k < p_nt P → t ≠ k → ta t + 3 ≤ ta k ∨ ta k + 3 ≤ ta t) ∧ ∀ m t, m < p_nm P → t < p_nt P → ma m + 14 ≤ ta t ∨ ta t + 3 ≤ ma m
def AJ (o a : Nat) : Nat → Prop := fun b => (o + 5 ≤ b ∧ b ≤ o + 13) ∨ (a + 10 ≤ b ∧ b ≤ a + 13)
def AS (o a : Nat) : Nat → Prop := fun b => b = o + 5 ∨ (a + 10 ≤ b ∧ b ≤ a + 13)
theorem At_in {a b : Nat} (h : At (a + 10) (a + 11) (a + 12) (a + 13) b) : a + 10 ≤ b ∧ b ≤ a + 13 := by unfold At at h; omega
theorem AS_AJ {o a : Nat} : ∀ b, AS o a b → AJ o a b := fun b h => by unfold AS at h; unfold AJ; omega
theorem ap_PA {o : Nat} {ma ta : Nat → Nat} {P : Pg} (x : Apt o ma ta P) {m : Nat} (hm : m < p_nm P) : ∀ c, PA o ma ta P c → ¬ AJ o (ma m) c := by
  intro c hc z
  have h1 := x.1 m hm
  unfold AJ at z
  rcases hc with hc | ⟨k, hk, h2, h3⟩ | ⟨t, ht, h2, h3⟩
  · omega
  · have h4 := x.1 k hk
    by_cases e : m = k
    · subst e; omega
    · have := x.2.2.1 m k hm hk e; omega
  · have h4 := x.2.1 t ht
    have := x.2.2.2.2 m t hm ht; omega
section JD
variable {h : Hp} {o a : Nat} {ma ta : Nat → Nat} {P : Pg}
theorem k_send {no k s w wa la d : Nat} {σ l : Nat → Nat} {t : Tab} (j : JT (hT h) (hR h) o) (mt : MT (hT h) (hR h) a) (c7 : hI h a 7 = nI no) (hno : no ≤ 60) (tv : Tv h (a + 9) (a + 10) (a + 11) (a + 12) (a + 13) t) (u : Sv h s w wa la d σ l) (hk : k < no) (hd : d ≤ 12) (hap : ∀ b, Asv w wa la b → ¬ At (a + 10) (a + 11) (a + 12) (a + 13) b) (oa : o + 97 ≤ a) :
    Ok (FX1_send (some (o + 5)) (some a) (nI k) (some s) h) (fun r g => r = b2i (come t k (d, σ, l)).1 ∧ Tv g (a + 9) (a + 10) (a + 11) (a + 12) (a + 13) (come t k (d, σ, l)).2 ∧ Fr (AS o a) h g ∧ ((come t k (d, σ, l)).1 = false → hI g (o + 5) 5 = nI k) ∧ ((come t k (d, σ, l)).1 = true → hI g (o + 5) 5 = hI h (o + 5) 5) ∧ hI g (o + 5) 3 = hI h (o + 5) 3 ∧ hI g (o + 5) 4 = hI h (o + 5) 4) := by
  obtain ⟨j0, j1, j2, j3⟩ := id j
  obtain ⟨a0, ⟨r1, r4, r5, r6, r8, r9, r10, r11, r13⟩, -⟩ := id mt
  have q5 : hT h (a + 9) = some (.inl 5) := tv.1
  unfold FX1_send
  simp (disch := first | assumption | omega | decide | (simp only [hT_wI, hT_wL, hT_wR, hT_wLr]; assumption)) only [↓reduceIte, Nat.reduceEqDiff, Nat.reduceLT, Nat.reduceLeDiff, Nat.reduceAdd, Nat.reduceSub, Nat.reduceMul, or_self, or_true, true_or, or_false, false_or, and_self, and_true, true_and, and_false, false_and, if_true, if_false, ↓gI_ok, ↓gL_ok, ↓gR_ok, ↓pI_ok, ↓pL_ok, ↓pR_ok, ↓rcv_ok, ↓nz_ok, ↓nz_no, ↓aI_n, ↓aL_n, ↓aR_n, ↓sI_n, ↓sL_n, ↓sR_n, ↓cl_ok, ↓bz_0, ↓bz_1, hT_wI, hT_wL, hT_wR, hT_wLr, hR_wI, hR_wL, hR_wLr, hI_wL, hI_wR, hI_wLr, hL_wI, hL_wR, nI_add, nI_1, pk_mul, if_lt, if_eq, if_eqL, ie_0, ie_1, il_0, il_1, ir_0, ir_1, ie_m, il_m, bz_b, ib_0, i_10, i_01, i_0m, i_1m, i_m0, i_ml0, b2i_if, bz_i, nI_p1, nl_2, nl_3, nl_4, nl_5, nl_6, nl_7, nl_8, nl_9, nl_10, nl_11, nl_12, nl_13, nl_14, nl_15, nl_16, nl_17, nl_18, nl_19, nl_20, nl_21, nl_22, nl_23, nl_24, nl_25, nl_26, nl_27, nl_28, nl_29, nl_30, nl_31, nl_32, nl_33, nl_34, nl_35, nl_36, nl_37, nl_38, nl_39, nl_40, nl_41, nl_42, nl_43, nl_44, nl_45, nl_46, nl_47, nl_48, nl_49, nl_50, nl_51, nl_52, nl_53, nl_54, nl_55, nl_56, nl_57, nl_58, nl_59, nl_60, nl_61, nl_62, nl_63, nl_64, nl_100, nl_480, nl_1020, nl_3000, c7, f_within_t, r13]
  refine ok_cl (k_bring tv u (by omega) hd hap) (fun r g q => ?_)
  obtain ⟨rfl, tg, ug, f⟩ := q
  have f1 : Fr (AS o a) h g := f.mono (fun b e => Or.inr (At_in e))
  have n5 : ¬ At (a + 10) (a + 11) (a + 12) (a + 13) (o + 5) := fun z => by have := At_in z; omega
  have e5 : hI g (o + 5) = hI h (o + 5) := (f.2.2.2 _ n5).1
  cases hc : (come t k (d, σ, l)).1 with
  | true =>
    rw [show b2i true = 1 from rfl, if_neg (by decide)]
    exact ok_some ⟨rfl, tg, f1, fun z => (by cases z), fun _ => by rw [e5], by rw [e5], by rw [e5]⟩
  | false =>
    rw [show b2i false = 0 from rfl, if_pos rfl, pI_ok (by rw [f.1]; exact j0)]
    have f2 : Fr (fun b => b = o + 5) g (wI g (o + 5) 5 (nI k)) := Fr.wI rfl
    exact ok_some ⟨rfl, tg.fr f2 (by omega) (by omega) (by omega) (by omega), f1.trans (f2.mono (fun b e => Or.inl e)), fun _ => hI_wI_s, fun z => (by cases z), by rw [hI_wI_k (by omega), e5], by rw [hI_wI_k (by omega), e5]⟩
def SnR (o a : Nat) (h : Hp) (t : Tab) (xs : List (Nat × Sh)) : Int32 → Hp → Prop := fun r g => r = b2i (decide ((j_send t xs).1 = none)) ∧ Tv g (a + 9) (a + 10) (a + 11) (a + 12) (a + 13) (j_send t xs).2 ∧ Fr (AS o a) h g ∧ (∀ k, (j_send t xs).1 = some k → hI g (o + 5) 5 = nI k) ∧ ((j_send t xs).1 = none → hI g (o + 5) 5 = hI h (o + 5) 5) ∧ hI g (o + 5) 3 = hI h (o + 5) 3 ∧ hI g (o + 5) 4 = hI h (o + 5) 4
theorem sn_nil {t : Tab} (tv : Tv h (a + 9) (a + 10) (a + 11) (a + 12) (a + 13) t) : Ok (some ((1 : Int32), h)) (SnR o a h t []) := ok_some ⟨rfl, tv, Fr.refl _ _, fun k z => (by cases z), fun _ => rfl, rfl, rfl⟩
theorem sn_seq {no k s w wa la d : Nat} {σ l : Nat → Nat} {t : Tab} {xs : List (Nat × Sh)} {c : Hp → Option (Int32 × Hp)} (j : JT (hT h) (hR h) o) (mt : MT (hT h) (hR h) a) (c7 : hI h a 7 = nI no) (hno : no ≤ 60) (tv : Tv h (a + 9) (a + 10) (a + 11) (a + 12) (a + 13) t) (u : Sv h s w wa la d σ l) (hk : k < no) (hd : d ≤ 12) (hap : ∀ b, Asv w wa la b → ¬ At (a + 10) (a + 11) (a + 12) (a + 13) b) (oa : o + 97 ≤ a)
    (hc : ∀ g t', Tv g (a + 9) (a + 10) (a + 11) (a + 12) (a + 13) t' → Fr (AS o a) h g → Ok (c g) (SnR o a g t' xs)) : Ok (cl (FX1_send (some (o + 5)) (some a) (nI k) (some s) h) (fun v h1 => if v = 0 then some (0, h1) else c h1)) (SnR o a h t ((k, (d, σ, l)) :: xs)) := by
  refine ok_cl (k_send j mt c7 hno tv u hk hd hap oa) (fun r g q => ?_)
  obtain ⟨rfl, tg, f, q1, q2, q3, q4⟩ := q
  unfold SnR
  rw [j_send]
  dsimp only
  cases hcm : (come t k (d, σ, l)).1 with
  | true =>
    rw [show b2i true = 1 from rfl, if_neg (by decide), if_pos rfl]
    refine (hc g _ tg f).mono (fun r g' q => ?_)
    obtain ⟨x1, x2, x3, x4, x5, x6, x7⟩ := q
    exact ⟨x1, x2, f.trans x3, x4, fun z => (x5 z).trans (q2 hcm), x6.trans q3, x7.trans q4⟩
  | false =>
    rw [show b2i false = 0 from rfl, if_pos rfl, if_neg (by decide)]
    exact ok_some ⟨rfl, tg, f, fun x z => by injection z with z; rw [← z]; exact q1 hcm, fun z => (by cases z), q3, q4⟩
theorem sn_one {no k s w wa la d : Nat} {σ l : Nat → Nat} {t : Tab} (j : JT (hT h) (hR h) o) (mt : MT (hT h) (hR h) a) (c7 : hI h a 7 = nI no) (hno : no ≤ 60) (tv : Tv h (a + 9) (a + 10) (a + 11) (a + 12) (a + 13) t) (u : Sv h s w wa la d σ l) (hk : k < no) (hd : d ≤ 12) (hap : ∀ b, Asv w wa la b → ¬ At (a + 10) (a + 11) (a + 12) (a + 13) b) (oa : o + 97 ≤ a) : Ok (FX1_send (some (o + 5)) (some a) (nI k) (some s) h) (SnR o a h t [(k, (d, σ, l))]) := by
  refine (k_send j mt c7 hno tv u hk hd hap oa).mono (fun r g q => ?_)
  obtain ⟨rfl, tg, f, q1, q2, q3, q4⟩ := q
  unfold SnR
  rw [j_send]
  dsimp only
  cases hcm : (come t k (d, σ, l)).1 with
  | true =>
    rw [if_pos rfl]
    exact ⟨rfl, tg, f, fun x z => (by cases z), fun _ => q2 hcm, q3, q4⟩
  | false =>
    rw [if_neg (by decide)]
    exact ⟨rfl, tg, f, fun x z => by injection z with z; rw [← z]; exact q1 hcm, fun z => (by cases z), q3, q4⟩
theorem sn_bz {t : Tab} {xs : List (Nat × Sh)} {c : Option (Int32 × Hp)} (hc : Ok c (SnR o a h t xs)) : Ok (cl c (fun v h1 => bz v (some (v, h1)))) (SnR o a h t xs) := ok_cl hc (fun r g q => ok_bz (by rw [q.1]; exact b2i_or _) (ok_some q))
/-- what holds of the judge while it works on a method -/
def JW (h : Hp) (o : Nat) (ma ta : Nat → Nat) (P : Pg) (m : Nat) : Prop := JT (hT h) (hR h) o ∧ PC h o ma ta P ∧ PW P ∧ Apt o ma ta P ∧ m < p_nm P
theorem JW.fr {g : Hp} {m : Nat} (v : JW h o ma ta P m) (f : Fr (AJ o (ma m)) h g) : JW g o ma ta P m := by
  obtain ⟨v1, v2, v3, v4, v5⟩ := v
  exact ⟨by rw [f.1, f.2.1]; exact v1, v2.fr f (ap_PA v4 v5), v3, v4, v5⟩
theorem jw_ap {m : Nat} (v : JW h o ma ta P m) {s : Nat} (hs : s + 3 ≤ o + 13) : ∀ b, Asv (s + 1) (s + 2) (s + 3) b → ¬ At (ma m + 10) (ma m + 11) (ma m + 12) (ma m + 13) b := by
  intro b h1 h2
  have := v.2.2.2.1.1 m v.2.2.2.2
  have h2 := At_in h2
  unfold Asv at h1
  omega
theorem SvS {g : Hp} {s d : Nat} {σ l : Nat → Nat} {m : Nat} (v : JW h o ma ta P m) (u : Sv h s (s + 1) (s + 2) (s + 3) d σ l) (hs : s + 3 ≤ o + 13) (hs2 : o + 6 ≤ s) (f : Fr (AS o (ma m)) h g) : Sv g s (s + 1) (s + 2) (s + 3) d σ l := by
  have := v.2.2.2.1.1 m v.2.2.2.2
  exact u.fr f (by unfold AS; omega) (by unfold AS; omega) (by unfold AS; omega)
theorem hs_loop {m i : Nat} {l : Nat → Nat} (hi : i < 60) (htg : ∀ k, k < p_nh P m → pcov P m k i = true → p_hg P m k < p_no P m) : ∀ (n k : Nat) (h : Hp) (t : Tab), k ≤ p_nh P m → p_nh P m - k < n → JW h o ma ta P m → Tv h (ma m + 9) (ma m + 10) (ma m + 11) (ma m + 12) (ma m + 13) t → SvC h o 1 (fun _ => 4) l →
    Ok (BX1_sendToHandlers_32 n (some (o + 5)) (some (ma m)) (nI i) (nI k) h) (SnR o (ma m) h t (((List.range' k (p_nh P m - k)).filter (fun k => pcov P m k i)).map (fun k => (p_hg P m k, (1, (fun _ => 4), l))))) := by
  intro n
  induction n with
  | zero => intro k h t h1 h2; omega
  | succ n ih =>
    intro k h t h1 h2 jw tv u
    obtain ⟨jt, pc, pw, ap, hm⟩ := id jw
    obtain ⟨-, mt, mc⟩ := pc.2.2.1 m hm
    have wm := pw.2.2.2.1 m hm
    obtain ⟨a0, ⟨r1, r4, r5, r6, r8, r9, r10, r11, r13⟩, t1, t2, t3, t4, t5, t6, t7, t8⟩ := id mt
    obtain ⟨⟨c0, c2, c3, c7, c12⟩, -, -, c4⟩ := id mc
    obtain ⟨j0, j1, j2, j3⟩ := id jt
    have w5 := wm.2.2.2.2.1
    unfold BX1_sendToHandlers_32
    by_cases d : k < p_nh P m
    · obtain ⟨e1, e2, e3, e4⟩ := c4 k d
      have b3 := (wm.2.2.2.2.2.2.2.2 k d).2.2.1
      simp (disch := first | assumption | omega | decide | (simp only [hT_wI, hT_wL, hT_wR, hT_wLr]; assumption)) only [↓reduceIte, Nat.reduceEqDiff, Nat.reduceLT, Nat.reduceLeDiff, Nat.reduceAdd, Nat.reduceSub, Nat.reduceMul, or_self, or_true, true_or, or_false, false_or, and_self, and_true, true_and, and_false, false_and, if_true, if_false, ↓gI_ok, ↓gL_ok, ↓gR_ok, ↓pI_ok, ↓pL_ok, ↓pR_ok, ↓rcv_ok, ↓nz_ok, ↓nz_no, ↓aI_n, ↓aL_n, ↓aR_n, ↓sI_n, ↓sL_n, ↓sR_n, ↓cl_ok, ↓bz_0, ↓bz_1, hT_wI, hT_wL, hT_wR, hT_wLr, hR_wI, hR_wL, hR_wLr, hI_wL, hI_wR, hI_wLr, hL_wI, hL_wR, nI_add, nI_1, pk_mul, if_lt, if_eq, if_eqL, ie_0, ie_1, il_0, il_1, ir_0, ir_1, ie_m, il_m, bz_b, ib_0, i_10, i_01, i_0m, i_1m, i_m0, i_ml0, b2i_if, bz_i, nI_p1, nl_2, nl_3, nl_4, nl_5, nl_6, nl_7, nl_8, nl_9, nl_10, nl_11, nl_12, nl_13, nl_14, nl_15, nl_16, nl_17, nl_18, nl_19, nl_20, nl_21, nl_22, nl_23, nl_24, nl_25, nl_26, nl_27, nl_28, nl_29, nl_30, nl_31, nl_32, nl_33, nl_34, nl_35, nl_36, nl_37, nl_38, nl_39, nl_40, nl_41, nl_42, nl_43, nl_44, nl_45, nl_46, nl_47, nl_48, nl_49, nl_50, nl_51, nl_52, nl_53, nl_54, nl_55, nl_56, nl_57, nl_58, nl_59, nl_60, nl_61, nl_62, nl_63, nl_64, nl_100, nl_480, nl_1020, nl_3000, c12, f_covers mt mc wm d hi, r10, e3, c7, j3]
      rw [if_pos d]
      unfold BX1_sendToHandlers_69
      rw [show p_nh P m - k = (p_nh P m - (k + 1)) + 1 by omega, List.range'_succ, List.filter_cons]
      cases hc : pcov P m k i with
      | false =>
        rw [if_neg (by decide), if_neg (by decide), nI_1]
        exact ih (k + 1) h t (by omega) (by omega) jw tv u
      | true =>
        rw [if_pos rfl, if_pos rfl, List.map_cons, nI_1]
        exact sn_seq jt mt c7 wm.2.2.2.1 tv u (htg k d hc) (by omega) (jw_ap jw (s := o + 10) (by omega)) (ap.1 m hm) (fun g t' tg f => ih (k + 1) g t' (by omega) (by omega) (jw.fr (f.mono AS_AJ)) tg (SvS jw u (by omega) (by omega) f))
    · simp (disch := first | assumption | omega | decide | (simp only [hT_wI, hT_wL, hT_wR, hT_wLr]; assumption)) only [↓reduceIte, Nat.reduceEqDiff, Nat.reduceLT, Nat.reduceLeDiff, Nat.reduceAdd, Nat.reduceSub, Nat.reduceMul, or_self, or_true, true_or, or_false, false_or, and_self, and_true, true_and, and_false, false_and, if_true, if_false, ↓gI_ok, ↓gL_ok, ↓gR_ok, ↓pI_ok, ↓pL_ok, ↓pR_ok, ↓rcv_ok, ↓nz_ok, ↓nz_no, ↓aI_n, ↓aL_n, ↓aR_n, ↓sI_n, ↓sL_n, ↓sR_n, ↓cl_ok, ↓bz_0, ↓bz_1, hT_wI, hT_wL, hT_wR, hT_wLr, hR_wI, hR_wL, hR_wLr, hI_wL, hI_wR, hI_wLr, hL_wI, hL_wR, nI_add, nI_1, pk_mul, if_lt, if_eq, if_eqL, ie_0, ie_1, il_0, il_1, ir_0, ir_1, ie_m, il_m, bz_b, ib_0, i_10, i_01, i_0m, i_1m, i_m0, i_ml0, b2i_if, bz_i, nI_p1, nl_2, nl_3, nl_4, nl_5, nl_6, nl_7, nl_8, nl_9, nl_10, nl_11, nl_12, nl_13, nl_14, nl_15, nl_16, nl_17, nl_18, nl_19, nl_20, nl_21, nl_22, nl_23, nl_24, nl_25, nl_26, nl_27, nl_28, nl_29, nl_30, nl_31, nl_32, nl_33, nl_34, nl_35, nl_36, nl_37, nl_38, nl_39, nl_40, nl_41, nl_42, nl_43, nl_44, nl_45, nl_46, nl_47, nl_48, nl_49, nl_50, nl_51, nl_52, nl_53, nl_54, nl_55, nl_56, nl_57, nl_58, nl_59, nl_60, nl_61, nl_62, nl_63, nl_64, nl_100, nl_480, nl_1020, nl_3000, c12]
      rw [if_neg d, show p_nh P m - k = 0 by omega]
      exact sn_nil tv
theorem Sv.to {s w wa la d : Nat} {σ σ' l : Nat → Nat} (v : Sv h s w wa la d σ l) (e : ∀ i, i < d → σ i = σ' i) : Sv h s w wa la d σ' l := by
  obtain ⟨a1, a2, a3, a4, a5, a6, a7, a8, a9, a10⟩ := v
  exact ⟨a1, a2, a3, a4, a5, a6, a7.to (fun i hi => by rw [e i hi]), a8, a9, fun i hi => by rw [← e i hi]; exact a10 i hi⟩
theorem f_handlers {m i d dc : Nat} {σc lc : Nat → Nat} {t : Tab} (hi : i < 60) (htg : ∀ k, k < p_nh P m → pcov P m k i = true → p_hg P m k < p_no P m) (jw : JW h o ma ta P m) (tv : Tv h (ma m + 9) (ma m + 10) (ma m + 11) (ma m + 12) (ma m + 13) t) (u : SvC h o dc σc lc) (hd : t.1 i = some d) :
    Ok (FX1_sendToHandlers (some (o + 5)) (some (ma m)) (nI i) h) (fun r g => ∃ h1, Fr (fun b => o + 11 ≤ b ∧ b ≤ o + 13) h h1 ∧ SvC h1 o 1 (fun _ => 4) (t.2.2.1 i) ∧ SnR o (ma m) h1 t (j_hs P m i (t.2.2.1 i)) r g) := by
  obtain ⟨jt, pc, pw, ap, hm⟩ := id jw
  obtain ⟨-, mt, mc⟩ := pc.2.2.1 m hm
  obtain ⟨a0, ⟨r1, r4, r5, r6, r8, r9, r10, r11, r13⟩, t1, t2, t3, t4, t5, t6, t7, t8⟩ := id mt
  obtain ⟨j0, j1, j2, j3⟩ := id jt
  have oa := ap.1 m hm
  have q5 : hT h (ma m + 9) = some (.inl 5) := tv.1
  have u1 : hT h (o + 10) = some (.inl 4) := u.1
  have u2 : hR h (o + 10) 0 = some (o + 11) := u.2.1
  have u3 : hT h (o + 11) = some (.inl 9) := u.2.2.2.2.2.2.1.1
  unfold FX1_sendToHandlers
  simp (disch := first | assumption | omega | decide | (simp only [hT_wI, hT_wL, hT_wR, hT_wLr]; assumption)) only [↓reduceIte, Nat.reduceEqDiff, Nat.reduceLT, Nat.reduceLeDiff, Nat.reduceAdd, Nat.reduceSub, Nat.reduceMul, or_self, or_true, true_or, or_false, false_or, and_self, and_true, true_and, and_false, false_and, if_true, if_false, ↓gI_ok, ↓gL_ok, ↓gR_ok, ↓pI_ok, ↓pL_ok, ↓pR_ok, ↓rcv_ok, ↓nz_ok, ↓nz_no, ↓aI_n, ↓aL_n, ↓aR_n, ↓sI_n, ↓sL_n, ↓sR_n, ↓cl_ok, ↓bz_0, ↓bz_1, hT_wI, hT_wL, hT_wR, hT_wLr, hR_wI, hR_wL, hR_wLr, hI_wL, hI_wR, hI_wLr, hL_wI, hL_wR, nI_add, nI_1, pk_mul, if_lt, if_eq, if_eqL, ie_0, ie_1, il_0, il_1, ir_0, ir_1, ie_m, il_m, bz_b, ib_0, i_10, i_01, i_0m, i_1m, i_m0, i_ml0, b2i_if, bz_i, nI_p1, nl_2, nl_3, nl_4, nl_5, nl_6, nl_7, nl_8, nl_9, nl_10, nl_11, nl_12, nl_13, nl_14, nl_15, nl_16, nl_17, nl_18, nl_19, nl_20, nl_21, nl_22, nl_23, nl_24, nl_25, nl_26, nl_27, nl_28, nl_29, nl_30, nl_31, nl_32, nl_33, nl_34, nl_35, nl_36, nl_37, nl_38, nl_39, nl_40, nl_41, nl_42, nl_43, nl_44, nl_45, nl_46, nl_47, nl_48, nl_49, nl_50, nl_51, nl_52, nl_53, nl_54, nl_55, nl_56, nl_57, nl_58, nl_59, nl_60, nl_61, nl_62, nl_63, nl_64, nl_100, nl_480, nl_1020, nl_3000, r13, j3]
  refine ok_cl (k_load tv u hi hd (by omega)) (fun _ g1 q => ?_)
  obtain ⟨ug1, f1⟩ := q
  have g11 : hT g1 = hT h := f1.1
  have g12 : hR g1 = hR h := f1.2.1
  simp (disch := first | assumption | omega | decide | (simp only [hT_wI, hT_wL, hT_wR, hT_wLr, g11, g12]; assumption)) only [↓reduceIte, Nat.reduceEqDiff, Nat.reduceLT, Nat.reduceLeDiff, Nat.reduceAdd, Nat.reduceSub, Nat.reduceMul, or_self, or_true, true_or, or_false, false_or, and_self, and_true, true_and, and_false, false_and, if_true, if_false, ↓gI_ok, ↓gL_ok, ↓gR_ok, ↓pI_ok, ↓pL_ok, ↓pR_ok, ↓rcv_ok, ↓nz_ok, ↓nz_no, ↓aI_n, ↓aL_n, ↓aR_n, ↓sI_n, ↓sL_n, ↓sR_n, ↓cl_ok, ↓bz_0, ↓bz_1, hT_wI, hT_wL, hT_wR, hT_wLr, hR_wI, hR_wL, hR_wLr, hI_wL, hI_wR, hI_wLr, hL_wI, hL_wR, nI_add, nI_1, pk_mul, if_lt, if_eq, if_eqL, ie_0, ie_1, il_0, il_1, ir_0, ir_1, ie_m, il_m, bz_b, ib_0, i_10, i_01, i_0m, i_1m, i_m0, i_ml0, b2i_if, bz_i, nI_p1, nl_2, nl_3, nl_4, nl_5, nl_6, nl_7, nl_8, nl_9, nl_10, nl_11, nl_12, nl_13, nl_14, nl_15, nl_16, nl_17, nl_18, nl_19, nl_20, nl_21, nl_22, nl_23, nl_24, nl_25, nl_26, nl_27, nl_28, nl_29, nl_30, nl_31, nl_32, nl_33, nl_34, nl_35, nl_36, nl_37, nl_38, nl_39, nl_40, nl_41, nl_42, nl_43, nl_44, nl_45, nl_46, nl_47, nl_48, nl_49, nl_50, nl_51, nl_52, nl_53, nl_54, nl_55, nl_56, nl_57, nl_58, nl_59, nl_60, nl_61, nl_62, nl_63, nl_64, nl_100, nl_480, nl_1020, nl_3000, g11, g12, j3, u2]
  refine ok_cl (k_clear ug1.2.2.2.2.2.2.1) (fun _ g2 q => ?_)
  obtain ⟨wg2, f2⟩ := q
  have ug2 : SvC g2 o 0 (t.2.1 i) (t.2.2.1 i) := ug1.stk f2 wg2 (fun i hi => by omega)
  have g21 : hT g2 = hT h := f2.1.trans g11
  have g22 : hR g2 = hR h := f2.2.1.trans g12
  simp (disch := first | assumption | omega | decide | (simp only [hT_wI, hT_wL, hT_wR, hT_wLr, g21, g22]; assumption)) only [↓reduceIte, Nat.reduceEqDiff, Nat.reduceLT, Nat.reduceLeDiff, Nat.reduceAdd, Nat.reduceSub, Nat.reduceMul, or_self, or_true, true_or, or_false, false_or, and_self, and_true, true_and, and_false, false_and, if_true, if_false, ↓gI_ok, ↓gL_ok, ↓gR_ok, ↓pI_ok, ↓pL_ok, ↓pR_ok, ↓rcv_ok, ↓nz_ok, ↓nz_no, ↓aI_n, ↓aL_n, ↓aR_n, ↓sI_n, ↓sL_n, ↓sR_n, ↓cl_ok, ↓bz_0, ↓bz_1, hT_wI, hT_wL, hT_wR, hT_wLr, hR_wI, hR_wL, hR_wLr, hI_wL, hI_wR, hI_wLr, hL_wI, hL_wR, nI_add, nI_1, pk_mul, if_lt, if_eq, if_eqL, ie_0, ie_1, il_0, il_1, ir_0, ir_1, ie_m, il_m, bz_b, ib_0, i_10, i_01, i_0m, i_1m, i_m0, i_ml0, b2i_if, bz_i, nI_p1, nl_2, nl_3, nl_4, nl_5, nl_6, nl_7, nl_8, nl_9, nl_10, nl_11, nl_12, nl_13, nl_14, nl_15, nl_16, nl_17, nl_18, nl_19, nl_20, nl_21, nl_22, nl_23, nl_24, nl_25, nl_26, nl_27, nl_28, nl_29, nl_30, nl_31, nl_32, nl_33, nl_34, nl_35, nl_36, nl_37, nl_38, nl_39, nl_40, nl_41, nl_42, nl_43, nl_44, nl_45, nl_46, nl_47, nl_48, nl_49, nl_50, nl_51, nl_52, nl_53, nl_54, nl_55, nl_56, nl_57, nl_58, nl_59, nl_60, nl_61, nl_62, nl_63, nl_64, nl_100, nl_480, nl_1020, nl_3000, g21, g22, j3]
  refine ok_cl (k_put (k := 4) ug2 (by decide) (by decide)) (fun _ g3 q => ?_)
  obtain ⟨ug3, f3⟩ := q
  have ug4 : SvC g3 o 1 (fun _ => 4) (t.2.2.1 i) := by
    refine Sv.to (d := 1) (σ := spu (t.2.1 i) 0 4) ug3 (fun k hk => ?_)
    have : k = 0 := by omega
    subst this
    rfl
  have F : Fr (fun b => o + 11 ≤ b ∧ b ≤ o + 13) h g3 := ((f1.mono (fun b e => by unfold Asv at e; omega)).trans (f2.mono (fun b e => by unfold Aw at e; omega))).trans (f3.mono (fun b e => by unfold Aw at e; omega))
  have tg3 : Tv g3 (ma m + 9) (ma m + 10) (ma m + 11) (ma m + 12) (ma m + 13) t := tv.fr F (by omega) (by omega) (by omega) (by omega)
  have jw3 : JW g3 o ma ta P m := jw.fr (F.mono (fun b e => Or.inl (by omega)))
  rw [nI_c0]
  have := hs_loop hi htg 100000 0 g3 t (by omega) (by have := (pw.2.2.2.1 m hm).2.2.2.2.1; omega) jw3 tg3 ug4
  refine this.mono (fun r g q => ⟨g3, F, ug4, ?_⟩)
  unfold j_hs
  rw [List.range_eq_range']
  exact q
theorem st_loop {m x : Nat} {s : Sh} (hx : x < p_nt P) (htg : ∀ e, e < p_ne P x → p_tt P x e < p_no P m) (hot : p_ot P x < p_no P m) (hs : s.1 ≤ 12) : ∀ (n e : Nat) (h : Hp) (t : Tab), e ≤ p_ne P x → p_ne P x - e < n → JW h o ma ta P m → Tv h (ma m + 9) (ma m + 10) (ma m + 11) (ma m + 12) (ma m + 13) t → SvB h o s.1 s.2.1 s.2.2 →
    Ok (BX1_sendByTable_8 n (some (o + 5)) (some (ma m)) (some (ta x)) (nI e) h) (SnR o (ma m) h t ((List.range' e (p_ne P x - e)).map (fun e => (p_tt P x e, s)) ++ [(p_ot P x, s)])) := by
  intro n
  induction n with
  | zero => intro e h t h1 h2; omega
  | succ n ih =>
    intro e h t h1 h2 jw tv u
    obtain ⟨jt, pc, pw, ap, hm⟩ := id jw
    obtain ⟨-, mt, mc⟩ := pc.2.2.1 m hm
    have wm := pw.2.2.2.1 m hm
    have c7 := mc.1.2.2.2.1
    obtain ⟨-, ⟨b0, ⟨s3, s4⟩, x1, x2⟩, ⟨d0, d1, d2, d5⟩, d6⟩ := pc.2.2.2.1 x hx
    have wt := pw.2.2.2.2 x hx
    obtain ⟨j0, j1, j2, j3⟩ := id jt
    have w2 := wt.2.1
    have w1 := wt.1
    unfold BX1_sendByTable_8
    by_cases c : e < p_ne P x
    · have e2 := (d6 e c).2
      simp (disch := first | assumption | omega | decide | (simp only [hT_wI, hT_wL, hT_wR, hT_wLr]; assumption)) only [↓reduceIte, Nat.reduceEqDiff, Nat.reduceLT, Nat.reduceLeDiff, Nat.reduceAdd, Nat.reduceSub, Nat.reduceMul, or_self, or_true, true_or, or_false, false_or, and_self, and_true, true_and, and_false, false_and, if_true, if_false, ↓gI_ok, ↓gL_ok, ↓gR_ok, ↓pI_ok, ↓pL_ok, ↓pR_ok, ↓rcv_ok, ↓nz_ok, ↓nz_no, ↓aI_n, ↓aL_n, ↓aR_n, ↓sI_n, ↓sL_n, ↓sR_n, ↓cl_ok, ↓bz_0, ↓bz_1, hT_wI, hT_wL, hT_wR, hT_wLr, hR_wI, hR_wL, hR_wLr, hI_wL, hI_wR, hI_wLr, hL_wI, hL_wR, nI_add, nI_1, pk_mul, if_lt, if_eq, if_eqL, ie_0, ie_1, il_0, il_1, ir_0, ir_1, ie_m, il_m, bz_b, ib_0, i_10, i_01, i_0m, i_1m, i_m0, i_ml0, b2i_if, bz_i, nI_p1, nl_2, nl_3, nl_4, nl_5, nl_6, nl_7, nl_8, nl_9, nl_10, nl_11, nl_12, nl_13, nl_14, nl_15, nl_16, nl_17, nl_18, nl_19, nl_20, nl_21, nl_22, nl_23, nl_24, nl_25, nl_26, nl_27, nl_28, nl_29, nl_30, nl_31, nl_32, nl_33, nl_34, nl_35, nl_36, nl_37, nl_38, nl_39, nl_40, nl_41, nl_42, nl_43, nl_44, nl_45, nl_46, nl_47, nl_48, nl_49, nl_50, nl_51, nl_52, nl_53, nl_54, nl_55, nl_56, nl_57, nl_58, nl_59, nl_60, nl_61, nl_62, nl_63, nl_64, nl_100, nl_480, nl_1020, nl_3000, d5, s4, e2, j2]
      rw [if_pos c, show p_ne P x - e = (p_ne P x - (e + 1)) + 1 by omega, List.range'_succ, List.map_cons, List.cons_append]
      exact sn_seq (σ := s.2.1) (l := s.2.2) jt mt c7 wm.2.2.2.1 tv u (htg e c) hs (jw_ap jw (s := o + 6) (by omega)) (ap.1 m hm) (fun g t' tg f => ih (e + 1) g t' (by omega) (by omega) (jw.fr (f.mono AS_AJ)) tg (SvS jw u (by omega) (by omega) f))
    · simp (disch := first | assumption | omega | decide | (simp only [hT_wI, hT_wL, hT_wR, hT_wLr]; assumption)) only [↓reduceIte, Nat.reduceEqDiff, Nat.reduceLT, Nat.reduceLeDiff, Nat.reduceAdd, Nat.reduceSub, Nat.reduceMul, or_self, or_true, true_or, or_false, false_or, and_self, and_true, true_and, and_false, false_and, if_true, if_false, ↓gI_ok, ↓gL_ok, ↓gR_ok, ↓pI_ok, ↓pL_ok, ↓pR_ok, ↓rcv_ok, ↓nz_ok, ↓nz_no, ↓aI_n, ↓aL_n, ↓aR_n, ↓sI_n, ↓sL_n, ↓sR_n, ↓cl_ok, ↓bz_0, ↓bz_1, hT_wI, hT_wL, hT_wR, hT_wLr, hR_wI, hR_wL, hR_wLr, hI_wL, hI_wR, hI_wLr, hL_wI, hL_wR, nI_add, nI_1, pk_mul, if_lt, if_eq, if_eqL, ie_0, ie_1, il_0, il_1, ir_0, ir_1, ie_m, il_m, bz_b, ib_0, i_10, i_01, i_0m, i_1m, i_m0, i_ml0, b2i_if, bz_i, nI_p1, nl_2, nl_3, nl_4, nl_5, nl_6, nl_7, nl_8, nl_9, nl_10, nl_11, nl_12, nl_13, nl_14, nl_15, nl_16, nl_17, nl_18, nl_19, nl_20, nl_21, nl_22, nl_23, nl_24, nl_25, nl_26, nl_27, nl_28, nl_29, nl_30, nl_31, nl_32, nl_33, nl_34, nl_35, nl_36, nl_37, nl_38, nl_39, nl_40, nl_41, nl_42, nl_43, nl_44, nl_45, nl_46, nl_47, nl_48, nl_49, nl_50, nl_51, nl_52, nl_53, nl_54, nl_55, nl_56, nl_57, nl_58, nl_59, nl_60, nl_61, nl_62, nl_63, nl_64, nl_100, nl_480, nl_1020, nl_3000, d5, d2, j2]
      rw [if_neg c, show p_ne P x - e = 0 by omega]
      exact sn_bz (sn_one (σ := s.2.1) (l := s.2.2) jt mt c7 wm.2.2.2.1 tv u hot hs (jw_ap jw (s := o + 6) (by omega)) (ap.1 m hm))
theorem f_sendOn {m i : Nat} {s s0 : Sh} {t : Tab} (hi : i < p_no P m) (jw : JW h o ma ta P m) (tv : Tv h (ma m + 9) (ma m + 10) (ma m + 11) (ma m + 12) (ma m + 13) t) (u : SvB h o s.1 s.2.1 s.2.2) (h0 : (j_own P m i s0).1 = 0) (hs : s = (j_own P m i s0).2) :
    Ok (FX1_sendOn (some (o + 5)) (some (ma m)) (nI i) h) (SnR o (ma m) h t (j_on P m i s)) := by
  obtain ⟨jt, pc, pw, ap, hm⟩ := id jw
  obtain ⟨-, mt, mc⟩ := pc.2.2.1 m hm
  have wm := pw.2.2.2.1 m hm
  obtain ⟨a0, ⟨r1, r4, r5, r6, r8, r9, r10, r11, r13⟩, t1, t2, t3, t4, t5, t6, t7, t8⟩ := id mt
  obtain ⟨⟨c0, c2, c3, c7, c12⟩, -, cop, c4⟩ := id mc
  obtain ⟨j0, j1, j2, j3⟩ := id jt
  obtain ⟨e1, e2, e3⟩ := cop i hi
  have e4 := wm.2.2.2.2.2.2.2.1 i hi
  have e5 := wm.2.2.2.1
  obtain ⟨o1, o2, od, o3, o4, o5, o6, o7, o8⟩ := j_own_0 h0
  have hs12 : s.1 ≤ 12 := by rw [hs]; exact o7
  have hout := j_out pw hm h0 (fun _ => 0)
  rw [← hs] at hout
  have q1 : hT h (o + 1) = some (.inl 3) := pc.1.1
  have apx := jw_ap jw (s := o + 6) (by omega)
  have oa := ap.1 m hm
  unfold FX1_sendOn
  simp (disch := first | assumption | omega | decide | (simp only [hT_wI, hT_wL, hT_wR, hT_wLr]; assumption)) only [↓reduceIte, Nat.reduceEqDiff, Nat.reduceLT, Nat.reduceLeDiff, Nat.reduceAdd, Nat.reduceSub, Nat.reduceMul, or_self, or_true, true_or, or_false, false_or, and_self, and_true, true_and, and_false, false_and, if_true, if_false, ↓gI_ok, ↓gL_ok, ↓gR_ok, ↓pI_ok, ↓pL_ok, ↓pR_ok, ↓rcv_ok, ↓nz_ok, ↓nz_no, ↓aI_n, ↓aL_n, ↓aR_n, ↓sI_n, ↓sL_n, ↓sR_n, ↓cl_ok, ↓bz_0, ↓bz_1, hT_wI, hT_wL, hT_wR, hT_wLr, hR_wI, hR_wL, hR_wLr, hI_wL, hI_wR, hI_wLr, hL_wI, hL_wR, nI_add, nI_1, pk_mul, if_lt, if_eq, if_eqL, ie_0, ie_1, il_0, il_1, ir_0, ir_1, ie_m, il_m, bz_b, ib_0, i_10, i_01, i_0m, i_1m, i_m0, i_ml0, b2i_if, bz_i, nI_p1, nl_2, nl_3, nl_4, nl_5, nl_6, nl_7, nl_8, nl_9, nl_10, nl_11, nl_12, nl_13, nl_14, nl_15, nl_16, nl_17, nl_18, nl_19, nl_20, nl_21, nl_22, nl_23, nl_24, nl_25, nl_26, nl_27, nl_28, nl_29, nl_30, nl_31, nl_32, nl_33, nl_34, nl_35, nl_36, nl_37, nl_38, nl_39, nl_40, nl_41, nl_42, nl_43, nl_44, nl_45, nl_46, nl_47, nl_48, nl_49, nl_50, nl_51, nl_52, nl_53, nl_54, nl_55, nl_56, nl_57, nl_58, nl_59, nl_60, nl_61, nl_62, nl_63, nl_64, nl_100, nl_480, nl_1020, nl_3000, r4, r5, e1, e2, j1]
  unfold j_on at hout ⊢
  by_cases c23 : p_op P m i = 23
  · rw [if_pos c23] at hout ⊢
    rw [if_pos c23]
    have ha : wi (p_A P m i) (p_nt P) = true := by rw [c23] at o1; simp [j_od] at o1; exact o1
    obtain ⟨x, hx, ex, ex2⟩ := wi_ex (by have := pw.2.2.1; omega) ha
    rw [ex2] at hout ⊢
    rw [ex, f_findT pc pw hx, cl_ok, rcv_ok j0]
    refine sn_bz ?_
    unfold FX1_sendByTable
    rw [nz_ok, nI_c0, List.range_eq_range']
    refine st_loop hx (fun e he => ?_) ?_ hs12 100000 0 h t (by omega) (by have := (pw.2.2.2.2 x hx).2.1; omega) jw tv u
    · exact (hout (p_tt P x e, s) (List.mem_append_right _ (List.mem_append_left _ (List.mem_map.mpr ⟨e, List.mem_range.mpr he, rfl⟩)))).1
    · exact (hout (p_ot P x, s) (List.mem_append_right _ (List.mem_append_right _ (List.mem_singleton.mpr rfl)))).1
  · rw [if_neg c23] at hout ⊢
    rw [if_neg c23]
    have h70 : ∀ (g : Hp) (t' : Tab), Tv g (ma m + 9) (ma m + 10) (ma m + 11) (ma m + 12) (ma m + 13) t' → Fr (AS o (ma m)) h g → Ok (BX1_sendOn_70 (some (o + 5)) (some (ma m)) (nI i) (nI (p_op P m i)) g) (SnR o (ma m) g t' (if j_nx (p_op P m i) = true then [(i + 1, s)] else [])) := by
      intro g t' tg f
      have jwg : JW g o ma ta P m := jw.fr (f.mono AS_AJ)
      obtain ⟨jtg, pcg, -⟩ := id jwg
      obtain ⟨-, mtg, mcg⟩ := pcg.2.2.1 m hm
      unfold BX1_sendOn_70
      have g1 : hT g = hT h := f.1
      have g2 : hR g = hR h := f.2.1
      simp (disch := first | assumption | omega | decide | (simp only [hT_wI, hT_wL, hT_wR, hT_wLr, g1, g2]; assumption)) only [↓reduceIte, Nat.reduceEqDiff, Nat.reduceLT, Nat.reduceLeDiff, Nat.reduceAdd, Nat.reduceSub, Nat.reduceMul, or_self, or_true, true_or, or_false, false_or, and_self, and_true, true_and, and_false, false_and, if_true, if_false, ↓gI_ok, ↓gL_ok, ↓gR_ok, ↓pI_ok, ↓pL_ok, ↓pR_ok, ↓rcv_ok, ↓nz_ok, ↓nz_no, ↓aI_n, ↓aL_n, ↓aR_n, ↓sI_n, ↓sL_n, ↓sR_n, ↓cl_ok, ↓bz_0, ↓bz_1, hT_wI, hT_wL, hT_wR, hT_wLr, hR_wI, hR_wL, hR_wLr, hI_wL, hI_wR, hI_wLr, hL_wI, hL_wR, nI_add, nI_1, pk_mul, if_lt, if_eq, if_eqL, ie_0, ie_1, il_0, il_1, ir_0, ir_1, ie_m, il_m, bz_b, ib_0, i_10, i_01, i_0m, i_1m, i_m0, i_ml0, b2i_if, bz_i, nI_p1, nl_2, nl_3, nl_4, nl_5, nl_6, nl_7, nl_8, nl_9, nl_10, nl_11, nl_12, nl_13, nl_14, nl_15, nl_16, nl_17, nl_18, nl_19, nl_20, nl_21, nl_22, nl_23, nl_24, nl_25, nl_26, nl_27, nl_28, nl_29, nl_30, nl_31, nl_32, nl_33, nl_34, nl_35, nl_36, nl_37, nl_38, nl_39, nl_40, nl_41, nl_42, nl_43, nl_44, nl_45, nl_46, nl_47, nl_48, nl_49, nl_50, nl_51, nl_52, nl_53, nl_54, nl_55, nl_56, nl_57, nl_58, nl_59, nl_60, nl_61, nl_62, nl_63, nl_64, nl_100, nl_480, nl_1020, nl_3000, g1, g2, f_next e4, j2]
      cases hn : j_nx (p_op P m i) with
      | false => rw [if_neg (by decide), if_neg (by decide)]; exact sn_nil tg
      | true =>
        rw [if_pos rfl, if_pos rfl]
        exact sn_seq (σ := s.2.1) (l := s.2.2) jtg mtg mcg.1.2.2.2.1 e5 tg (SvS jw u (by omega) (by omega) f) (o8 hn) hs12 apx oa (fun g t' tg f => sn_nil tg)
    by_cases c20 : p_op P m i = 20 ∨ p_op P m i = 21 ∨ p_op P m i = 22
    · have hk : cN (p_A P m i) < p_no P m := by
        have := hout (cN (p_A P m i), s) (List.mem_append_right _ (List.mem_append_left _ (by rw [if_pos c20]; exact List.mem_singleton.mpr rfl)))
        exact this.1
      have hA : p_A P m i = nI (cN (p_A P m i)) := by
        have := o2
        unfold j_tg at this
        rw [Bool.and_eq_true, Bool.and_eq_true, if_pos c20] at this
        obtain ⟨x, hx, ex, ex2⟩ := wi_ex (by omega) this.1.1
        rw [ex2]; exact ex
      rw [if_pos c20, List.singleton_append]
      have h54 : Ok (BX1_sendOn_54 (some (o + 5)) (some (ma m)) (nI i) (nI (p_op P m i)) (p_A P m i) h) (SnR o (ma m) h t ((cN (p_A P m i), s) :: (if j_nx (p_op P m i) = true then [(i + 1, s)] else []))) := by
        unfold BX1_sendOn_54
        simp (disch := first | assumption | omega | decide | (simp only [hT_wI, hT_wL, hT_wR, hT_wLr]; assumption)) only [↓reduceIte, Nat.reduceEqDiff, Nat.reduceLT, Nat.reduceLeDiff, Nat.reduceAdd, Nat.reduceSub, Nat.reduceMul, or_self, or_true, true_or, or_false, false_or, and_self, and_true, true_and, and_false, false_and, if_true, if_false, ↓gI_ok, ↓gL_ok, ↓gR_ok, ↓pI_ok, ↓pL_ok, ↓pR_ok, ↓rcv_ok, ↓nz_ok, ↓nz_no, ↓aI_n, ↓aL_n, ↓aR_n, ↓sI_n, ↓sL_n, ↓sR_n, ↓cl_ok, ↓bz_0, ↓bz_1, hT_wI, hT_wL, hT_wR, hT_wLr, hR_wI, hR_wL, hR_wLr, hI_wL, hI_wR, hI_wLr, hL_wI, hL_wR, nI_add, nI_1, pk_mul, if_lt, if_eq, if_eqL, ie_0, ie_1, il_0, il_1, ir_0, ir_1, ie_m, il_m, bz_b, ib_0, i_10, i_01, i_0m, i_1m, i_m0, i_ml0, b2i_if, bz_i, nI_p1, nl_2, nl_3, nl_4, nl_5, nl_6, nl_7, nl_8, nl_9, nl_10, nl_11, nl_12, nl_13, nl_14, nl_15, nl_16, nl_17, nl_18, nl_19, nl_20, nl_21, nl_22, nl_23, nl_24, nl_25, nl_26, nl_27, nl_28, nl_29, nl_30, nl_31, nl_32, nl_33, nl_34, nl_35, nl_36, nl_37, nl_38, nl_39, nl_40, nl_41, nl_42, nl_43, nl_44, nl_45, nl_46, nl_47, nl_48, nl_49, nl_50, nl_51, nl_52, nl_53, nl_54, nl_55, nl_56, nl_57, nl_58, nl_59, nl_60, nl_61, nl_62, nl_63, nl_64, nl_100, nl_480, nl_1020, nl_3000, j2]
        have := sn_seq (σ := s.2.1) (l := s.2.2) jt mt c7 e5 tv u hk hs12 apx oa h70
        rw [← hA] at this
        exact this
      rcases c20 with c20 | c20 | c20 <;> rw [c20] at h54 ⊢ <;> simp only [Nat.reduceEqDiff, if_true, if_false] at h54 ⊢ <;> exact h54
    · rw [if_neg c20, List.nil_append, if_neg (by omega), if_neg (by omega), if_neg (by omega)]
      exact h70 h t tv (Fr.refl _ _)
end JD
