/-! what judging without a fault leaves: shapes that stand -/
def Cmp (t : Tab) (i : Nat) (s : Sh) : Prop := t.1 i = some s.1 ∧ (∀ k, k < s.1 → t.2.1 i k = s.2.1 k) ∧ ∀ j, j < 16 → t.2.2.1 i j = 5 ∨ t.2.2.1 i j = s.2.2 j
def Dn (P : Pg) (m : Nat) (t : Tab) (i : Nat) : Prop := (j_own P m i (t_sh t i)).1 = 0 ∧ ∀ x ∈ j_hs P m i (t.2.2.1 i) ++ j_on P m i (j_own P m i (t_sh t i)).2, Cmp t x.1 x.2
def JI (P : Pg) (m : Nat) (t : Tab) : Prop := (∀ i e, t.1 i = some e → i < p_no P m ∧ e ≤ 12) ∧ (∀ i e, t.1 i = some e → t.2.2.2 i = false → Dn P m t i) ∧ Cmp t 0 (0, (fun _ => 0), j_arg P m (p_na P m))
def Stb (P : Pg) (m : Nat) (t : Tab) : Prop := (∀ i e, t.1 i = some e → i < p_no P m ∧ e ≤ 12 ∧ Dn P m t i) ∧ Cmp t 0 (0, (fun _ => 0), j_arg P m (p_na P m))
theorem dh_or (l : Nat → Nat) (j : Nat) : dh l j = 5 ∨ dh l j = l j := by
  unfold dh
  by_cases c : lk (l j) (if j + 1 < 16 then l (j + 1) else 5) (if 0 < j then l (j - 1) else 5) = true
  · rw [if_pos c]; exact Or.inl rfl
  · rw [if_neg c]; exact Or.inr rfl
theorem cmp_mono {t : Tab} {i : Nat} {x : Sh} (v : Cmp t i x) (j : Nat) (s : Sh) : Cmp (come t j s).2 i x := by
  obtain ⟨v1, v2, v3⟩ := v
  rcases come_cases t j s with ⟨h1, e⟩ | ⟨d, h1, h2, h3, h4, e⟩ | ⟨d, h1, h2, h3, h4, e⟩ | ⟨d, h1, h2, e⟩ <;> rw [e]
  · have c : i ≠ j := fun c => by subst c; rw [h1] at v1; cases v1
    unfold Cmp tb_set
    dsimp only
    rw [va_n _ _ c, va_n _ _ c, va_n _ _ c]
    exact ⟨v1, v2, v3⟩
  · unfold Cmp tb_mod
    dsimp only
    refine ⟨v1, v2, fun k hk => ?_⟩
    by_cases c : i = j
    · subst c
      rw [va_s]
      rcases dh_or (cmL (t.2.2.1 i) s.2.2) k with z | z
      · exact Or.inl z
      · rw [z]
        unfold cmL
        split
        · exact v3 k hk
        · exact Or.inl rfl
    · rw [va_n _ _ c]; exact v3 k hk
  · exact ⟨v1, v2, v3⟩
  · exact ⟨v1, v2, v3⟩
theorem cmp_come {t : Tab} {j : Nat} {s : Sh} (h : (come t j s).1 = true) : Cmp (come t j s).2 j s := by
  rcases come_cases t j s with ⟨h1, e⟩ | ⟨d, h1, h2, h3, h4, e⟩ | ⟨d, h1, h2, h3, h4, e⟩ | ⟨d, h1, h2, e⟩ <;> rw [e] at h ⊢
  · unfold Cmp tb_set
    dsimp only
    rw [va_s, va_s, va_s]
    exact ⟨rfl, fun _ _ => rfl, fun _ _ => Or.inr rfl⟩
  · unfold Cmp tb_mod
    dsimp only
    rw [va_s]
    subst h2
    refine ⟨h1, fun k hk => likeS_iff.mp h3 k hk, fun k hk => ?_⟩
    rcases dh_or (cmL (t.2.2.1 j) s.2.2) k with z | z
    · exact Or.inl z
    · rw [z]
      unfold cmL
      split
      · rename_i z; exact Or.inr z
      · exact Or.inl rfl
  · subst h2
    refine ⟨h1, fun k hk => likeS_iff.mp h3 k hk, fun k hk => ?_⟩
    by_cases c : t.2.2.1 j k = 5
    · exact Or.inl c
    · right
      by_cases c2 : t.2.2.1 j k = s.2.2 k
      · exact c2
      · have := chg_iff.mpr ⟨k, hk, c, c2⟩
        rw [h4] at this; cases this
  · cases h
theorem cmp_keep (xs : List (Nat × Sh)) : ∀ {t : Tab} {i : Nat} {x : Sh}, Cmp t i x → Cmp (j_send t xs).2 i x := by
  induction xs with
  | nil => intro t i x v; exact v
  | cons q r ih =>
    intro t i x v
    rw [j_send]
    by_cases c : (come t q.1 q.2).1 = true
    · rw [if_pos c]; exact ih (cmp_mono v q.1 q.2)
    · rw [if_neg c]; exact cmp_mono v q.1 q.2
theorem cmp_send (xs : List (Nat × Sh)) : ∀ {t : Tab}, (j_send t xs).1 = none → ∀ x ∈ xs, Cmp (j_send t xs).2 x.1 x.2 := by
  induction xs with
  | nil => intro t _ x hx; cases hx
  | cons q r ih =>
    intro t h x hx
    rw [j_send] at h ⊢
    by_cases c : (come t q.1 q.2).1 = true
    · rw [if_pos c] at h ⊢
      rcases List.mem_cons.mp hx with rfl | hx
      · exact cmp_keep r (cmp_come c)
      · exact ih h x hx
    · rw [if_neg c] at h; cases h
theorem und_come {t : Tab} {j i : Nat} {s : Sh} (h : (come t j s).2.2.2.2 i = false) : t.2.2.2 i = false ∧ (come t j s).2.1 i = t.1 i ∧ (come t j s).2.2.1 i = t.2.1 i ∧ (come t j s).2.2.2.1 i = t.2.2.1 i := by
  rcases come_cases t j s with ⟨h1, e⟩ | ⟨d, h1, h2, h3, h4, e⟩ | ⟨d, h1, h2, h3, h4, e⟩ | ⟨d, h1, h2, e⟩ <;> rw [e] at h ⊢
  · unfold tb_set at h ⊢
    dsimp only at h ⊢
    by_cases c : i = j
    · subst c; rw [va_s] at h; cases h
    · rw [va_n _ _ c] at h ⊢
      rw [va_n _ _ c, va_n _ _ c]
      exact ⟨h, rfl, rfl, rfl⟩
  · unfold tb_mod at h ⊢
    dsimp only at h ⊢
    by_cases c : i = j
    · subst c; rw [va_s] at h; cases h
    · rw [va_n _ _ c] at h ⊢
      exact ⟨h, rfl, rfl, rfl⟩
  · exact ⟨h, rfl, rfl, rfl⟩
  · exact ⟨h, rfl, rfl, rfl⟩
theorem und_send (xs : List (Nat × Sh)) : ∀ {t : Tab} {i : Nat}, (j_send t xs).2.2.2.2 i = false → t.2.2.2 i = false ∧ (j_send t xs).2.1 i = t.1 i ∧ (j_send t xs).2.2.1 i = t.2.1 i ∧ (j_send t xs).2.2.2.1 i = t.2.2.1 i := by
  induction xs with
  | nil => intro t i h; exact ⟨h, rfl, rfl, rfl⟩
  | cons q r ih =>
    intro t i h
    rw [j_send] at h ⊢
    by_cases c : (come t q.1 q.2).1 = true
    · rw [if_pos c] at h ⊢
      obtain ⟨a1, a2, a3, a4⟩ := ih h
      obtain ⟨b1, b2, b3, b4⟩ := und_come a1
      exact ⟨b1, a2.trans b2, a3.trans b3, a4.trans b4⟩
    · rw [if_neg c] at h ⊢
      exact und_come h
theorem in_come {P : Pg} {m : Nat} {t : Tab} (v : ∀ i e, t.1 i = some e → i < p_no P m ∧ e ≤ 12) {j : Nat} {s : Sh} (h1 : j < p_no P m) (h2 : s.1 ≤ 12) : ∀ i e, (come t j s).2.1 i = some e → i < p_no P m ∧ e ≤ 12 := by
  intro i e he
  rcases come_cases t j s with ⟨z1, z⟩ | ⟨d, z1, z2, z3, z4, z⟩ | ⟨d, z1, z2, z3, z4, z⟩ | ⟨d, z1, z2, z⟩ <;> rw [z] at he
  · unfold tb_set at he
    dsimp only at he
    by_cases c : i = j
    · subst c
      rw [va_s] at he
      injection he with he
      subst he
      exact ⟨h1, h2⟩
    · rw [va_n _ _ c] at he; exact v i e he
  · exact v i e he
  · exact v i e he
  · exact v i e he
theorem in_send {P : Pg} {m : Nat} (xs : List (Nat × Sh)) : ∀ {t : Tab}, (∀ i e, t.1 i = some e → i < p_no P m ∧ e ≤ 12) → (∀ q ∈ xs, q.1 < p_no P m ∧ q.2.1 ≤ 12) → ∀ i e, (j_send t xs).2.1 i = some e → i < p_no P m ∧ e ≤ 12 := by
  induction xs with
  | nil => intro t v _; exact v
  | cons q r ih =>
    intro t v hq
    rw [j_send]
    have z := hq q (List.mem_cons_self ..)
    have v2 := in_come v (j := q.1) (s := q.2) z.1 z.2
    by_cases c : (come t q.1 q.2).1 = true
    · rw [if_pos c]; exact ih v2 (fun x hx => hq x (List.mem_cons_of_mem _ hx))
    · rw [if_neg c]; exact v2
theorem dn_of {P : Pg} {m i : Nat} {t t' : Tab} (e1 : t'.1 i = t.1 i) (e2 : t'.2.1 i = t.2.1 i) (e3 : t'.2.2.1 i = t.2.2.1 i) (h0 : (j_own P m i (t_sh t i)).1 = 0) (hc : ∀ x ∈ j_hs P m i (t.2.2.1 i) ++ j_on P m i (j_own P m i (t_sh t i)).2, Cmp t' x.1 x.2) : Dn P m t' i := by
  have es : t_sh t' i = t_sh t i := by unfold t_sh; rw [e1, e2, e3]
  unfold Dn
  rw [es, e3]
  exact ⟨h0, hc⟩
theorem ji_step {P : Pg} (w : PW P) {m : Nat} (hm : m < p_nm P) {t : Tab} (v : JI P m t) {i : Nat} (h : (j_step P m i t).1 = 0) : JI P m (j_step P m i t).2.2 := by
  obtain ⟨v1, v2, v3⟩ := v
  unfold j_step at h ⊢
  by_cases c : (j_own P m i (t_sh t i)).1 = 0
  · rw [if_pos c] at h ⊢
    by_cases cn : (j_send (t_und t i) (j_hs P m i (t.2.2.1 i) ++ j_on P m i (j_own P m i (t_sh t i)).2)).1 = none
    · rw [if_pos cn] at h ⊢
      dsimp only
      have hout := j_out w hm c (t.2.2.1 i)
      have hs := cmp_send _ cn
      have hk : ∀ {i' x}, Cmp t i' x → Cmp (j_send (t_und t i) (j_hs P m i (t.2.2.1 i) ++ j_on P m i (j_own P m i (t_sh t i)).2)).2 i' x := fun {i' x} z => cmp_keep _ (t := t_und t i) z
      have hi := in_send (P := P) (m := m) (j_hs P m i (t.2.2.1 i) ++ j_on P m i (j_own P m i (t_sh t i)).2) (t := t_und t i) v1 hout
      have hu := fun {k} => und_send (j_hs P m i (t.2.2.1 i) ++ j_on P m i (j_own P m i (t_sh t i)).2) (t := t_und t i) (i := k)
      generalize j_send (t_und t i) (j_hs P m i (t.2.2.1 i) ++ j_on P m i (j_own P m i (t_sh t i)).2) = R at hs hk hi hu
      refine ⟨hi, fun k e he hd => ?_, hk v3⟩
      obtain ⟨a1, a2, a3, a4⟩ := hu hd
      by_cases ck : k = i
      · subst ck
        exact dn_of (t := t) a2 a3 a4 c hs
      · have a1' : t.2.2.2 k = false := by
          unfold t_und at a1
          dsimp only at a1
          rw [va_n _ _ ck] at a1
          exact a1
        obtain ⟨d1, d2⟩ := v2 k e (a2.symm.trans he) a1'
        exact dn_of (t := t) a2 a3 a4 d1 (fun x hx => hk (d2 x hx))
    · rw [if_neg cn] at h; cases h
  · rw [if_neg c] at h
    exact absurd h c
theorem ji_run {P : Pg} (w : PW P) {m : Nat} (hm : m < p_nm P) : ∀ (N : Nat) (t : Tab), t_ms t ≤ N → JI P m t → (j_run P m N t).1 = 0 → JI P m (j_run P m N t).2.2 ∧ ∀ i, i < 60 → (j_run P m N t).2.2.2.2.2 i = false := by
  intro N
  induction N with
  | zero =>
    intro t h1 h2 _
    refine ⟨h2, fun i hi => ?_⟩
    cases hd : t.2.2.2 i with
    | false => exact hd
    | true => have := ms_pos hi hd; omega
  | succ N ih =>
    intro t h1 h2 h3
    rw [j_run] at h3 ⊢
    cases hl : t_least t with
    | none =>
      refine ⟨h2, fun i hi => ?_⟩
      unfold t_least at hl
      have := List.find?_eq_none.mp hl i (List.mem_range.mpr hi)
      exact Bool.not_eq_true _ ▸ this
    | some i =>
      rw [hl] at h3
      dsimp only at h3 ⊢
      have := ms_step (P := P) (m := m) hl
      by_cases c : (j_step P m i t).1 = 0
      · rw [if_pos c] at h3 ⊢
        exact ih _ (by omega) (ji_step w hm h2 c) h3
      · rw [if_neg c] at h3; exact absurd h3 c
theorem ji_t0 {P : Pg} {m : Nat} (t : Tab) (h : 0 < p_no P m) : JI P m (j_t0 P m t) := by
  unfold j_t0 tb_set tab0
  refine ⟨fun i e he => ?_, fun i e he hd => ?_, ?_⟩
  · dsimp only at he
    by_cases c : i = 0
    · subst c
      rw [va_s] at he
      injection he with he
      subst he
      exact ⟨h, by omega⟩
    · rw [va_n _ _ c] at he; cases he
  · dsimp only at he hd
    by_cases c : i = 0
    · subst c
      rw [va_s] at hd; cases hd
    · rw [va_n _ _ c] at he; cases he
  · unfold Cmp
    dsimp only
    rw [va_s, va_s, va_s]
    exact ⟨rfl, fun _ _ => rfl, fun _ _ => Or.inr rfl⟩
theorem stb_all {P : Pg} (w : PW P) {m : Nat} (hm : m < p_nm P) (t : Tab) (h : (j_all P m t).1 = 0) : Stb P m (j_all P m t).2.2 := by
  unfold j_all at h ⊢
  by_cases c : p_no P m = 0
  · rw [if_pos c] at h; cases h
  · rw [if_neg c] at h ⊢
    obtain ⟨⟨a1, a2, a3⟩, b⟩ := ji_run w hm 1020 (j_t0 P m t) (t0_ms P m t) (ji_t0 t (by omega)) h
    have hno := (w.2.2.2.1 m hm).2.2.2.1
    exact ⟨fun i e he => ⟨(a1 i e he).1, (a1 i e he).2, a2 i e he (b i (by have := (a1 i e he).1; omega))⟩, a3⟩
