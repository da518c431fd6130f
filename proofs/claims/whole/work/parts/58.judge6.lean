/-! Judge: examine -/
theorem t0_least (P : Pg) (m : Nat) (t : Tab) : t_least (j_t0 P m t) = some 0 := by
  unfold t_least
  rw [List.find?_range_eq_some]
  exact ⟨va_s (fun _ => false) 0 true, List.mem_range.mpr (by omega), fun j hj => by omega⟩
theorem t0_ti {P : Pg} {m : Nat} (t : Tab) (h : 0 < p_no P m) : TI P m (j_t0 P m t) := by
  intro i hi
  have hi2 : va_up (fun _ => false) 0 true i = true := hi
  by_cases c : i = 0
  · subst c; exact ⟨h, 0, va_s (fun _ => none) 0 (some 0)⟩
  · rw [va_n _ _ c] at hi2; cases hi2
theorem t0_ms (P : Pg) (m : Nat) (t : Tab) : t_ms (j_t0 P m t) ≤ 1020 := by
  have h := sm_le (n := 60) (f := t_w (j_t0 P m t)) (g := fun _ => 17) (fun i _ => ?_)
  · rw [sm_c] at h
    exact h
  · unfold t_w j_t0 tb_set tab0
    dsimp only
    by_cases c : i = 0
    · subst c
      rw [va_s, va_s, va_s]
      have := us_le (j_arg P m (p_na P m))
      simp only [wO, Bool.toNat_true]
      omega
    · rw [va_n _ _ c, va_n _ _ c, va_n _ _ c]
      simp only [wO, Bool.toNat_false]
      omega
section JF
variable {o : Nat} {ma ta : Nat → Nat} {P : Pg}
theorem f_examine {h : Hp} {m : Nat} {t : Tab} (jw : JW h o ma ta P m) (tv : Tv h (ma m + 9) (ma m + 10) (ma m + 11) (ma m + 12) (ma m + 13) t) (hB : ∃ s : Sh, SvB h o s.1 s.2.1 s.2.2) (hC : ∃ s : Sh, SvC h o s.1 s.2.1 s.2.2) :
    Ok (FX1_examine (some (o + 5)) (nI m) (some (ma m)) h) (fun r g => r = (if (j_all P m t).1 = 0 then 0 else -10 - nI (j_all P m t).1) ∧ JW g o ma ta P m ∧ Tv g (ma m + 9) (ma m + 10) (ma m + 11) (ma m + 12) (ma m + 13) (j_all P m t).2.2 ∧ (∃ s : Sh, SvB g o s.1 s.2.1 s.2.2) ∧ (∃ s : Sh, SvC g o s.1 s.2.1 s.2.2) ∧ hI g (ma m) 14 = 1 ∧ hI g (ma m) 15 = b2i (decide ((j_all P m t).1 = 0)) ∧ ((j_all P m t).1 = 0 → hI g (o + 5) 3 = hI h (o + 5) 3 ∧ hI g (o + 5) 4 = hI h (o + 5) 4) ∧ (¬ (j_all P m t).1 = 0 → hI g (o + 5) 3 = nI m ∧ hI g (o + 5) 4 = nI (j_all P m t).2.1) ∧ Fr (fun b => AJ o (ma m) b ∨ b = ma m) h g) := by
  obtain ⟨jt, pc, pw, ap, hm⟩ := id jw
  obtain ⟨j0, j1, j2, j3⟩ := id jt
  have oa := ap.1 m hm
  obtain ⟨-, mt, mc⟩ := pc.2.2.1 m hm
  have a0 : hT h (ma m) = some (.inl 2) := mt.1
  have wm := pw.2.2.2.1 m hm
  have hno := wm.2.2.2.1
  have f0 : Fr (fun b => b = ma m) h (wI h (ma m) 14 1) := Fr.wI rfl
  have e14 : hI (wI h (ma m) 14 1) (ma m) 14 = 1 := hI_wI_s
  have e5 : hI (wI h (ma m) 14 1) (o + 5) = hI h (o + 5) := hI_wI_a (by omega)
  have jw0 : JW (wI h (ma m) 14 1) o ma ta P m := ⟨jt, pc.flag ap hm (by omega) 1, pw, ap, hm⟩
  unfold FX1_examine
  rw [pZ1_ok a0]
  generalize wI h (ma m) 14 1 = g0 at f0 e14 e5 jw0 ⊢
  have tv0 := tv.fr f0 (by omega) (by omega) (by omega) (by omega)
  obtain ⟨sB, uB⟩ := svE (s := o + 6) hB f0 (fun b h1 h2 => by omega)
  have hC0 := svE (s := o + 10) hC f0 (fun b h1 h2 => by omega)
  rw [rcv_ok (by rw [f0.1]; exact j0)]
  refine ok_cl (f_begin jw0 tv0 uB) (fun _ g1 q => ?_)
  obtain ⟨tv1, uB1, p5, p3, p4, f1⟩ := q
  have F1 : Fr (AJ o (ma m)) g0 g1 := f1.mono (fun b e => by unfold AJ; omega)
  have jw1 := jw0.fr F1
  have hC1 := svE (s := o + 10) hC0 f1 (fun b h1 h2 => by omega)
  have c7 : hI g1 (ma m) 7 = nI (p_no P m) := (jw1.2.1.2.2.1 m hm).2.2.1.2.2.2.1
  have e14' : hI g1 (ma m) 14 = 1 := by rw [(f1.2.2.2 _ (by omega)).1]; exact e14
  have hB1 : ∃ s : Sh, SvB g1 o s.1 s.2.1 s.2.2 := ⟨(0, (fun _ => 0), j_arg P m (p_na P m)), uB1⟩
  have FF : Fr (fun b => AJ o (ma m) b ∨ b = ma m) h g1 := (f0.mono (fun b e => Or.inr e)).trans (F1.mono (fun b e => Or.inl e))
  have conv : ∀ (R : Nat × Nat × Tab) r k, ExR o ma ta P m g1 R r k → (r = (if R.1 = 0 then 0 else -10 - nI R.1) ∧ JW k o ma ta P m ∧ Tv k (ma m + 9) (ma m + 10) (ma m + 11) (ma m + 12) (ma m + 13) R.2.2 ∧ (∃ s : Sh, SvB k o s.1 s.2.1 s.2.2) ∧ (∃ s : Sh, SvC k o s.1 s.2.1 s.2.2) ∧ hI k (ma m) 14 = 1 ∧ hI k (ma m) 15 = b2i (decide (R.1 = 0)) ∧ (R.1 = 0 → hI k (o + 5) 3 = hI h (o + 5) 3 ∧ hI k (o + 5) 4 = hI h (o + 5) 4) ∧ (¬ R.1 = 0 → hI k (o + 5) 3 = nI m ∧ hI k (o + 5) 4 = nI R.2.1) ∧ Fr (fun b => AJ o (ma m) b ∨ b = ma m) h k) := by
    intro R r k x
    obtain ⟨x1, x2, x3, x4, x5, x6, x7, x8, x9, x10⟩ := x
    exact ⟨x1, x2, x3, x4, x5, x6.trans e14', x7, fun z => by rw [(x8 z).1, (x8 z).2, p3, p4, e5]; exact ⟨rfl, rfl⟩, x9, FF.trans x10⟩
  rw [gI_ok (jw1.2.1.2.2.1 m hm).2.1.1, c7, ie_0 (by omega)]
  unfold BX1_examine_22
  by_cases c : p_no P m = 0
  · have ea : j_all P m t = (1, 0, j_t0 P m t) := by unfold j_all; rw [if_pos c]
    rw [if_pos c, ea]
    have out := ex_out (f := 1) (p := 0) jw1 tv1 hB1 hC1 (by omega) (fun _ => p5)
    refine Ok.mono ?_ (conv (1, 0, j_t0 P m t))
    unfold BX1_examine_29
    rw [if_pos (by decide), if_neg (by decide), if_neg (by decide)]
    exact out
  · have ea : j_all P m t = j_run P m 1020 (j_t0 P m t) := by unfold j_all; rw [if_neg c]
    rw [if_neg c, ea]
    have := ex_loop (o := o) (ma := ma) (ta := ta) (P := P) (m := m) 100000 0 g1 (j_t0 P m t) (by have := t0_ms P m t; omega) (by omega) jw1 tv1 (t0_ti t (by omega)) hB1 hC1
    rw [t0_least] at this
    exact this.mono (conv _)
end JF
