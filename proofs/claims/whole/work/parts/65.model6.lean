/-! rows of ints, copied; what is well made of shapes -/
def wIr (h : Hp) (a : Nat) (r : Nat → Int32) : Hp := (hT h, upr (hI h) a r, hL h, hR h, hz h)
def ic (s d : Nat → Int32) (sp dp n : Nat) : Nat → Int32 := fun i => if dp ≤ i ∧ i < dp + n then s (sp + (i - dp)) else d i
theorem hI_wIr_s {h : Hp} {a : Nat} {r : Nat → Int32} : hI (wIr h a r) a = r := upr_eq
theorem hI_wIr_a {h : Hp} {a b : Nat} {r : Nat → Int32} (hb : b ≠ a) : hI (wIr h a r) b = hI h b := upr_ne hb
theorem wIr_id {h : Hp} {a : Nat} : wIr h a (hI h a) = h := by
  have : upr (hI h) a (hI h a) = hI h := by
    funext b
    unfold upr
    by_cases c : b = a
    · subst c; rw [if_pos rfl]
    · rw [if_neg c]
  unfold wIr
  rw [this]; rfl
theorem wI_wIr {h : Hp} {a k : Nat} {r : Nat → Int32} {v : Int32} : wI (wIr h a r) a k v = wIr h a (va_up r k v) := by
  have : up2 (hI (wIr h a r)) a k v = upr (hI h) a (va_up r k v) := by
    funext b
    by_cases c : b = a
    · subst c
      rw [upr_eq]
      funext j
      unfold up2 va_up
      rw [if_pos rfl, hI_wIr_s]
    · rw [up2_ne c, upr_ne c, hI_wIr_a c]
  unfold wI
  rw [this]; rfl
theorem ic_0 {s d : Nat → Int32} {sp dp : Nat} : ic s d sp dp 0 = d := by
  funext i
  unfold ic
  rw [if_neg (by omega)]
theorem ic_s {s d : Nat → Int32} {sp dp n : Nat} : va_up (ic s d sp dp n) (dp + n) (s (sp + n)) = ic s d sp dp (n + 1) := by
  funext i
  unfold va_up ic
  by_cases c : i = dp + n
  · subst c; rw [if_pos rfl, if_pos (by omega)]; congr 1; omega
  · rw [if_neg c]
    by_cases c2 : dp ≤ i ∧ i < dp + n
    · rw [if_pos c2, if_pos (by omega)]
    · rw [if_neg c2, if_neg (by omega)]
theorem ic_in {s d : Nat → Int32} {sp dp n i : Nat} (hi : i < n) : ic s d sp dp n (dp + i) = s (sp + i) := by
  unfold ic
  rw [if_pos (by omega)]; congr 1; omega
theorem ic_out {s d : Nat → Int32} {sp dp n i : Nat} (hi : i < dp ∨ dp + n ≤ i) : ic s d sp dp n i = d i := by
  unfold ic
  rw [if_neg (by omega)]
/-- a loop that copies -/
theorem cpl {α : Type} (F : Nat → Int32 → Hp → Option α) (E : Hp → Option α) {h : Hp} {a1 : Nat} (s0 s1 N : Nat) (src : Nat → Int32) (hN : N < 99999)
    (step : ∀ n k g, k < N → hT g = hT h → hR g = hR h → (∀ b, b ≠ a1 → hI g b = hI h b) → F (n + 1) (nI k) g = F n (nI (k + 1)) (wI g a1 (s1 + k) (src (s0 + k))))
    (stop : ∀ n g, hT g = hT h → hR g = hR h → (∀ b, b ≠ a1 → hI g b = hI h b) → F (n + 1) (nI N) g = E g) : F 100000 0 h = E (wIr h a1 (ic src (hI h a1) s0 s1 N)) := by
  have key : ∀ n k, k ≤ N → N - k < n → F n (nI k) (wIr h a1 (ic src (hI h a1) s0 s1 k)) = E (wIr h a1 (ic src (hI h a1) s0 s1 N)) := by
    intro n
    induction n with
    | zero => intro k h1 h2; omega
    | succ n ih =>
      intro k h1 h2
      by_cases c : k < N
      · rw [step n k (wIr h a1 (ic src (hI h a1) s0 s1 k)) c rfl rfl (fun b hb => hI_wIr_a hb), wI_wIr, ic_s]
        exact ih (k + 1) (by omega) (by omega)
      · have e : k = N := by omega
        subst e
        exact stop n _ rfl rfl (fun b hb => hI_wIr_a hb)
  have := key 100000 0 (by omega) (by omega)
  rw [ic_0, wIr_id] at this
  exact this
theorem Fq.wIr {q a : Nat} {F A : Nat → Prop} {h : Hp} {r : Nat → Int32} (ha : A a) (hq : a ≠ q) : Fq q F A h (wIr h a r) := ⟨rfl, rfl, rfl, rfl, fun b _ hb => hI_wIr_a (fun e => hb (by rw [e]; exact ha)), fun k _ => by rw [hI_wIr_a (Ne.symm hq)]⟩
/-- what is well made, cut and joined -/
theorem wf_congr {d : Nat} {σ τ : Nat → Nat} (e : ∀ p, p < d → σ p = τ p) (w : wfS d σ) : wfS d τ := by
  intro p hp
  obtain ⟨a, b, c, f⟩ := w p hp
  rw [e p hp] at a b c f
  refine ⟨fun z => ?_, fun z => ?_, fun z => ?_, fun z => ?_⟩
  · have := a z; rw [e _ this.1] at this; exact this
  · have := b z; rw [e _ this.1] at this; exact this
  · have := c z; rw [e _ (by omega)] at this; exact this
  · have := f z; rw [e _ (by omega)] at this; exact this
theorem wf_seg {d a b : Nat} {σ : Nat → Nat} (w : wfS d σ) (hab : a ≤ b) (hb : b ≤ d) (ha : a < d → σ a ≠ 6 ∧ σ a ≠ 7) (hb2 : b < d → σ b ≠ 6 ∧ σ b ≠ 7) : wfS (b - a) (fun i => σ (a + i)) := by
  intro p hp
  obtain ⟨x1, x2, x3, x4⟩ := w (a + p) (by omega)
  try dsimp only
  refine ⟨fun z => ?_, fun z => ?_, fun z => ?_, fun z => ?_⟩
  · have := x1 z
    by_cases c : a + p + 1 = b
    · have := hb2 (by omega); rw [← c] at this; omega
    · exact ⟨by omega, by rw [show a + (p + 1) = a + p + 1 by omega]; exact this.2⟩
  · have := x2 z
    by_cases c : a + p + 1 = b
    · have := hb2 (by omega); rw [← c] at this; omega
    · exact ⟨by omega, by rw [show a + (p + 1) = a + p + 1 by omega]; exact this.2⟩
  · have := x3 z
    by_cases c : p = 0
    · subst c; have := ha (by omega); rw [Nat.add_zero] at z; omega
    · exact ⟨by omega, by rw [show a + (p - 1) = a + p - 1 by omega]; exact this.2⟩
  · have := x4 z
    by_cases c : p = 0
    · subst c; have := ha (by omega); rw [Nat.add_zero] at z; omega
    · exact ⟨by omega, by rw [show a + (p - 1) = a + p - 1 by omega]; exact this.2⟩
theorem wf_app {n m : Nat} {σ τ : Nat → Nat} (w : wfS n σ) (v : wfS m τ) : wfS (n + m) (fun i => if i < n then σ i else τ (i - n)) := by
  intro p hp
  try dsimp only
  by_cases c : p < n
  · obtain ⟨x1, x2, x3, x4⟩ := w p c
    rw [if_pos c]
    refine ⟨fun z => ?_, fun z => ?_, fun z => ?_, fun z => ?_⟩
    · have := x1 z; rw [if_pos this.1]; exact ⟨by omega, this.2⟩
    · have := x2 z; rw [if_pos this.1]; exact ⟨by omega, this.2⟩
    · have := x3 z; rw [if_pos (by omega)]; exact this
    · have := x4 z; rw [if_pos (by omega)]; exact this
  · obtain ⟨x1, x2, x3, x4⟩ := v (p - n) (by omega)
    rw [if_neg c]
    refine ⟨fun z => ?_, fun z => ?_, fun z => ?_, fun z => ?_⟩
    · have := x1 z; rw [if_neg (by omega), show p + 1 - n = p - n + 1 by omega]; exact ⟨by omega, this.2⟩
    · have := x2 z; rw [if_neg (by omega), show p + 1 - n = p - n + 1 by omega]; exact ⟨by omega, this.2⟩
    · have := x3 z; rw [if_neg (by omega), show p - 1 - n = p - n - 1 by omega]; exact ⟨by omega, this.2⟩
    · have := x4 z; rw [if_neg (by omega), show p - 1 - n = p - n - 1 by omega]; exact ⟨by omega, this.2⟩
theorem wf_spu {d k : Nat} {σ : Nat → Nat} (w : wfS d σ) (hk : k < 5) : wfS (d + wd k) (spu σ d k) := by
  have one : ∀ k, k < 5 → wd k = 1 → wfS 1 (fun _ => k) := by
    intro k hk h1 p hp
    unfold wd at h1
    refine ⟨fun z => ?_, fun z => ?_, fun z => ?_, fun z => ?_⟩ <;> dsimp only at z <;> (try omega) <;> (subst z; cases h1)
  unfold spu
  by_cases c : wd k = 2
  · rw [if_pos c, c]
    have kk : k = 1 ∨ k = 3 := by
      unfold wd at c
      by_cases z : k = 1 ∨ k = 3
      · exact z
      · rw [if_neg z] at c; omega
    have two : wfS 2 (fun i => if i = 0 then k else en k) := by
      intro p hp
      try dsimp only
      rcases kk with rfl | rfl
      · rcases (show p = 0 ∨ p = 1 by omega) with rfl | rfl <;> simp [en]
      · rcases (show p = 0 ∨ p = 1 by omega) with rfl | rfl <;> simp [en]
    refine wf_congr (fun p hp => ?_) (wf_app w two)
    try dsimp only
    by_cases c1 : p < d
    · rw [if_pos c1, va_n _ _ (by omega), va_n _ _ (by omega)]
    · rw [if_neg c1]
      by_cases c2 : p = d
      · subst c2; rw [if_pos (by omega), va_n _ _ (by omega), va_s]
      · have : p = d + 1 := by omega
        subst this
        rw [if_neg (by omega), va_s]
  · rw [if_neg c]
    have hw := wd_le k
    have h1 : wd k = 1 := by omega
    rw [h1]
    refine wf_congr (fun p hp => ?_) (wf_app w (one k hk h1))
    try dsimp only
    by_cases c1 : p < d
    · rw [if_pos c1, va_n _ _ (by omega)]
    · have : p = d := by omega
      subst this
      rw [if_neg c1, va_s]
theorem wf_takes {σ : Nat → Nat} : ∀ (ks : List Nat) {d d' : Nat}, (∀ k ∈ ks, k < 5) → takeL σ ks d = some d' → wfS d σ → wfS d' σ := by
  intro ks
  induction ks with
  | nil => intro d d' _ h w; injection h with h; subst h; exact w
  | cons k ks ih =>
    intro d d' hk h w
    rw [takeL] at h
    by_cases c : wd k ≤ d ∧ σ (d - wd k) = k
    · rw [if_pos c] at h
      exact ih (fun x hx => hk x (List.mem_cons_of_mem _ hx)) h (wf_take w (hk k (List.mem_cons_self ..)) c.1 c.2)
    · rw [if_neg c] at h; cases h
theorem wf_0 {d : Nat} {σ : Nat → Nat} (w : wfS d σ) : 0 < d → σ 0 ≠ 6 ∧ σ 0 ≠ 7 := fun h => ⟨fun z => by have := (w 0 h).2.2.1 z; omega, fun z => by have := (w 0 h).2.2.2 z; omega⟩
theorem wf_mv {op d : Nat} {σ : Nat → Nat} (h1 : 8 ≤ op) (h2 : op ≤ 16) (w : wfS d σ) (hm : mok op d σ = true) : wfS (mvD op d) (mvG op d σ) := by
  have hm := of_decide_eq_true hm
  obtain ⟨b1, b2, b3⟩ := mv_b h1 h2
  have cu : d - mvU op < d → σ (d - mvU op) ≠ 6 ∧ σ (d - mvU op) ≠ 7 := fun _ => ⟨by omega, by omega⟩
  have cv : d - mvU op - mvV op < d → σ (d - mvU op - mvV op) ≠ 6 ∧ σ (d - mvU op - mvV op) ≠ 7 := fun _ => ⟨by omega, by omega⟩
  unfold mvD mvG
  by_cases c9 : op ≤ 9
  · rw [if_pos c9, if_pos c9]
    have := wf_seg (a := 0) (b := d - mvU op) w (by omega) (by omega) (wf_0 w) cu
    exact wf_congr (fun p _ => by rw [Nat.zero_add]) this
  · rw [if_neg c9, if_neg c9]
    have sA := wf_seg (a := 0) (b := d - mvU op - mvV op) w (by omega) (by omega) (wf_0 w) cv
    have sU := wf_seg (a := d - mvU op) (b := d) w (by omega) (by omega) cu (fun z => by omega)
    have sV := wf_seg (a := d - mvU op - mvV op) (b := d - mvU op) w (by omega) (by omega) cv cu
    by_cases c16 : op = 16
    · subst c16
      rw [if_pos rfl, if_pos rfl]
      have := wf_app (wf_app sA sU) sV
      have e1 : mvU 16 = 1 := rfl
      have e2 : mvV 16 = 1 := rfl
      rw [e1, e2] at this hm
      rw [show d - 1 - 1 - 0 + (d - (d - 1)) + (d - 1 - (d - 1 - 1)) = d by omega] at this
      refine wf_congr (fun p hp => ?_) this
      try dsimp only
      by_cases x1 : p = d - 1
      · subst x1; rw [if_neg (by omega), va_s]; congr 1; omega
      · rw [va_n _ _ x1, if_pos (by omega)]
        by_cases x2 : p = d - 2
        · subst x2; rw [if_neg (by omega), va_s]; congr 1; omega
        · rw [va_n _ _ x2, if_pos (by omega)]; congr 1; omega
    · rw [if_neg c16, if_neg c16]
      have := wf_app (wf_app (wf_app sA sU) sV) sU
      rw [show d - mvU op - mvV op - 0 + (d - (d - mvU op)) + (d - mvU op - (d - mvU op - mvV op)) + (d - (d - mvU op)) = d + mvU op by omega] at this
      refine wf_congr (fun p hp => ?_) this
      try dsimp only
      unfold cpG
      by_cases x1 : p < d - mvV op - mvU op
      · rw [if_pos x1, if_pos (by omega), if_pos (by omega), if_pos (by omega)]; congr 1; omega
      · rw [if_neg x1]
        by_cases x2 : p < d - mvV op
        · rw [if_pos x2, if_pos (by omega), if_pos (by omega), if_neg (by omega)]; congr 1; omega
        · rw [if_neg x2]
          by_cases x3 : p < d
          · rw [if_pos (by omega), if_neg (by omega)]; congr 1; omega
          · rw [if_neg (by omega)]; congr 1; omega
theorem lk_f {a b c : Nat} : lk a b c = false ↔ (a = 1 → b = 6) ∧ (a = 3 → b = 7) ∧ (a = 6 → c = 1) ∧ (a = 7 → c = 3) := by
  unfold lk
  rw [decide_eq_false_iff_not]
  constructor
  · intro h
    exact ⟨fun z => by omega, fun z => by omega, fun z => by omega, fun z => by omega⟩
  · rintro ⟨h1, h2, h3, h4⟩ z
    omega
/-- the neighbours -/
def nx (l : Nat → Nat) (j : Nat) : Nat := if j + 1 < 16 then l (j + 1) else 5
def bf (l : Nat → Nat) (j : Nat) : Nat := if 0 < j then l (j - 1) else 5
theorem dh_e (l : Nat → Nat) (j : Nat) : dh l j = if lk (l j) (nx l j) (bf l j) = true then 5 else l j := rfl
theorem wf_lk {l : Nat → Nat} (w : wfS 16 l) {j : Nat} (hj : j < 16) : lk (l j) (nx l j) (bf l j) = false := by
  obtain ⟨a, b, c, f⟩ := w j hj
  rw [lk_f]
  unfold nx bf
  refine ⟨fun z => ?_, fun z => ?_, fun z => ?_, fun z => ?_⟩
  · have := a z; rw [if_pos this.1]; exact this.2
  · have := b z; rw [if_pos this.1]; exact this.2
  · have := c z; rw [if_pos this.1]; exact this.2
  · have := f z; rw [if_pos this.1]; exact this.2
theorem dh_k {l : Nat → Nat} {j k : Nat} (h : dh l j = k) (hk : k ≠ 5) : l j = k ∧ lk (l j) (nx l j) (bf l j) = false := by
  rw [dh_e] at h
  by_cases c : lk (l j) (nx l j) (bf l j) = true
  · rw [if_pos c] at h; omega
  · rw [if_neg c] at h; exact ⟨h, by simpa using c⟩
theorem dh_n {l : Nat → Nat} {j : Nat} (h : lk (l j) (nx l j) (bf l j) = false) : dh l j = l j := by rw [dh_e, if_neg (by rw [h]; decide)]
theorem wf_dh (l : Nat → Nat) : wfS 16 (dh l) := by
  intro p hp
  refine ⟨fun z => ?_, fun z => ?_, fun z => ?_, fun z => ?_⟩
  · obtain ⟨e, f⟩ := dh_k z (by omega)
    have n6 : nx l p = 6 := (lk_f.mp f).1 e
    unfold nx at n6
    by_cases c : p + 1 < 16
    · rw [if_pos c] at n6
      refine ⟨c, ?_⟩
      rw [dh_n (lk_f.mpr ⟨fun y => by omega, fun y => by omega, fun _ => by unfold bf; rw [if_pos (by omega)]; exact e, fun y => by omega⟩)]
      exact n6
    · rw [if_neg c] at n6; omega
  · obtain ⟨e, f⟩ := dh_k z (by omega)
    have n6 : nx l p = 7 := (lk_f.mp f).2.1 e
    unfold nx at n6
    by_cases c : p + 1 < 16
    · rw [if_pos c] at n6
      refine ⟨c, ?_⟩
      rw [dh_n (lk_f.mpr ⟨fun y => by omega, fun y => by omega, fun y => by omega, fun _ => by unfold bf; rw [if_pos (by omega)]; exact e⟩)]
      exact n6
    · rw [if_neg c] at n6; omega
  · obtain ⟨e, f⟩ := dh_k z (by omega)
    have n6 : bf l p = 1 := (lk_f.mp f).2.2.1 e
    unfold bf at n6
    by_cases c : 0 < p
    · rw [if_pos c] at n6
      refine ⟨c, ?_⟩
      rw [dh_n (lk_f.mpr ⟨fun _ => by unfold nx; rw [if_pos (by omega), show p - 1 + 1 = p by omega]; exact e, fun y => by omega, fun y => by omega, fun y => by omega⟩)]
      exact n6
    · rw [if_neg c] at n6; omega
  · obtain ⟨e, f⟩ := dh_k z (by omega)
    have n6 : bf l p = 3 := (lk_f.mp f).2.2.2 e
    unfold bf at n6
    by_cases c : 0 < p
    · rw [if_pos c] at n6
      refine ⟨c, ?_⟩
      rw [dh_n (lk_f.mpr ⟨fun y => by omega, fun _ => by unfold nx; rw [if_pos (by omega), show p - 1 + 1 = p by omega]; exact e, fun y => by omega, fun y => by omega⟩)]
      exact n6
    · rw [if_neg c] at n6; omega
theorem wrl_e (l : Nat → Nat) (a k i : Nat) : wrl l a k i = if i = a then k else if wd k = 2 ∧ i = a + 1 then en k else l i := by
  unfold wrl
  by_cases c : wd k = 2
  · rw [if_pos c]
    by_cases e1 : i = a + 1
    · subst e1; rw [va_s, if_neg (by omega), if_pos ⟨c, rfl⟩]
    · rw [va_n _ _ e1]
      by_cases e2 : i = a
      · subst e2; rw [va_s, if_pos rfl]
      · rw [va_n _ _ e2, if_neg e2, if_neg (fun z => e1 z.2)]
  · rw [if_neg c]
    by_cases e2 : i = a
    · subst e2; rw [va_s, if_pos rfl]
    · rw [va_n _ _ e2, if_neg e2, if_neg (fun z => c z.1)]
/-- what the model's store leaves, pointwise -/
theorem dh_st {l : Nat → Nat} (w : wfS 16 l) {a k : Nat} (hk : k < 5) (ha : a + wd k ≤ 16) {j : Nat} (hj : j < 16) : dh (wrl l a k) j = if j = a then k else if wd k = 2 ∧ j = a + 1 then en k else if j + 1 = a ∧ (l a = 6 ∨ l a = 7) then 5 else if j = a + wd k ∧ (l (j - 1) = 1 ∨ l (j - 1) = 3) then 5 else l j := by
  have hw := wd_le k
  have L : ∀ i, wrl l a k i = if i = a then k else if wd k = 2 ∧ i = a + 1 then en k else l i := wrl_e l a k
  have k13 : wd k = 2 ↔ k = 1 ∨ k = 3 := by unfold wd; split <;> omega
  have ek : en k = 6 ∨ en k = 7 := by unfold en; split <;> omega
  have e1 : k = 1 → en k = 6 := fun z => by subst z; rfl
  have e3 : k = 3 → en k = 7 := fun z => by subst z; rfl
  obtain ⟨x1, x2, x3, x4⟩ := w j hj
  rw [dh_e]
  by_cases c1 : j = a
  · subst c1
    have f : lk (wrl l j k j) (nx (wrl l j k) j) (bf (wrl l j k) j) = false := by
      have e : wrl l j k j = k := by rw [L, if_pos rfl]
      rw [lk_f, e]
      have n : wd k = 2 → nx (wrl l j k) j = en k := fun z => by unfold nx; rw [if_pos (by omega), L, if_neg (by omega), if_pos ⟨z, rfl⟩]
      exact ⟨fun z => by rw [n (k13.mpr (Or.inl z))]; exact e1 z, fun z => by rw [n (k13.mpr (Or.inr z))]; exact e3 z, fun z => by omega, fun z => by omega⟩
    rw [f, if_neg (by decide), if_pos rfl, L, if_pos rfl]
  · rw [if_neg c1]
    by_cases c2 : wd k = 2 ∧ j = a + 1
    · obtain ⟨c2, rfl⟩ := c2
      have f : lk (wrl l a k (a + 1)) (nx (wrl l a k) (a + 1)) (bf (wrl l a k) (a + 1)) = false := by
        have e : wrl l a k (a + 1) = en k := by rw [L, if_neg (by omega), if_pos ⟨c2, rfl⟩]
        have b : bf (wrl l a k) (a + 1) = k := by unfold bf; rw [if_pos (by omega), L, if_pos (by omega)]
        rw [lk_f, e, b]
        have := k13.mp c2
        exact ⟨fun z => by omega, fun z => by omega, fun z => by omega, fun z => by omega⟩
      rw [f, if_neg (by decide), if_pos ⟨c2, rfl⟩, L, if_neg (by omega), if_pos ⟨c2, rfl⟩]
    · rw [if_neg c2]
      have e : wrl l a k j = l j := by rw [L, if_neg c1, if_neg c2]
      rw [e]
      by_cases c3 : j + 1 = a
      · have n : nx (wrl l a k) j = k := by unfold nx; rw [if_pos (by omega), L, if_pos c3]
        have b : bf (wrl l a k) j = bf l j := by
          unfold bf
          by_cases z : 0 < j
          · rw [if_pos z, if_pos z, L, if_neg (by omega), if_neg (by omega)]
          · rw [if_neg z, if_neg z]
        have wl := lk_f.mp (wf_lk w hj)
        have wa := w a (by omega)
        by_cases c4 : l a = 6 ∨ l a = 7
        · have : lk (l j) (nx (wrl l a k) j) (bf (wrl l a k) j) = true := by
            rw [n]
            have : l j = 1 ∨ l j = 3 := by
              rcases c4 with z | z
              · have := (wa.2.2.1 z).2; rw [show a - 1 = j by omega] at this; exact Or.inl this
              · have := (wa.2.2.2 z).2; rw [show a - 1 = j by omega] at this; exact Or.inr this
            unfold lk
            refine decide_eq_true ?_
            omega
          rw [if_pos this, if_pos ⟨c3, c4⟩]
        · have f : lk (l j) (nx (wrl l a k) j) (bf (wrl l a k) j) = false := by
            rw [n, b, lk_f]
            refine ⟨fun z => ?_, fun z => ?_, wl.2.2.1, wl.2.2.2⟩
            · have := (x1 z).2; rw [c3] at this; omega
            · have := (x2 z).2; rw [c3] at this; omega
          rw [f, if_neg (by decide), if_neg (fun z => c4 z.2), if_neg (by omega)]
      · rw [if_neg (show ¬ (j + 1 = a ∧ (l a = 6 ∨ l a = 7)) from fun z => c3 z.1)]
        have n : nx (wrl l a k) j = nx l j := by
          unfold nx
          by_cases z : j + 1 < 16
          · rw [if_pos z, if_pos z, L, if_neg c3, if_neg (by omega)]
          · rw [if_neg z, if_neg z]
        have wl := lk_f.mp (wf_lk w hj)
        by_cases c4 : j = a + wd k
        · have b : bf (wrl l a k) j = if wd k = 2 then en k else k := by
            unfold bf
            rw [if_pos (by omega), L]
            by_cases z : wd k = 2
            · rw [if_neg (by omega), if_pos ⟨z, by omega⟩, if_pos z]
            · rw [if_pos (by omega), if_neg z]
          have b1 : bf (wrl l a k) j ≠ 1 ∧ bf (wrl l a k) j ≠ 3 := by
            rw [b]
            by_cases z : wd k = 2
            · rw [if_pos z]; omega
            · rw [if_neg z]
              exact ⟨fun y => z (k13.mpr (Or.inl y)), fun y => z (k13.mpr (Or.inr y))⟩
          have wp := w (j - 1) (by omega)
          rw [show j - 1 + 1 = j by omega] at wp
          by_cases c5 : l (j - 1) = 1 ∨ l (j - 1) = 3
          · have : lk (l j) (nx (wrl l a k) j) (bf (wrl l a k) j) = true := by
              have : l j = 6 ∨ l j = 7 := by
                rcases c5 with z | z
                · exact Or.inl (wp.1 z).2
                · exact Or.inr (wp.2.1 z).2
              unfold lk
              refine decide_eq_true ?_
              omega
            rw [if_pos this, if_pos ⟨c4, c5⟩]
          · have f : lk (l j) (nx (wrl l a k) j) (bf (wrl l a k) j) = false := by
              rw [n, lk_f]
              refine ⟨wl.1, wl.2.1, fun z => ?_, fun z => ?_⟩
              · have := x3 z; omega
              · have := x4 z; omega
            rw [f, if_neg (by decide), if_neg (fun z => c5 z.2)]
        · have b : bf (wrl l a k) j = bf l j := by
            unfold bf
            by_cases z : 0 < j
            · rw [if_pos z, if_pos z, L, if_neg (by omega), if_neg (by omega)]
            · rw [if_neg z, if_neg z]
          rw [if_neg (show ¬ (j = a + wd k ∧ (l (j - 1) = 1 ∨ l (j - 1) = 3)) from fun z => c4 z.1), n, b, wf_lk w hj, if_neg (by decide)]
theorem wf_5 : wfS 16 (fun _ => 5) := fun p hp => ⟨fun z => (by cases z), fun z => (by cases z), fun z => (by cases z), fun z => (by cases z)⟩
theorem wf_nil (σ : Nat → Nat) : wfS 0 σ := fun p hp => by omega
theorem wf_arg (P : Pg) (m : Nat) : ∀ k, wfS 16 (j_arg P m k)
  | 0 => wf_5
  | _ + 1 => wf_dh _
/-- tables whose shapes are well made -/
def TW (t : Tab) : Prop := ∀ i d, t.1 i = some d → wfS d (t.2.1 i) ∧ wfS 16 (t.2.2.1 i)
theorem tw_come {t : Tab} (w : TW t) {j : Nat} {s : Sh} (h1 : wfS s.1 s.2.1) (h2 : wfS 16 s.2.2) : TW (come t j s).2 := by
  rcases come_cases t j s with ⟨_, e⟩ | ⟨d, e1, e2, e3, e4, e⟩ | ⟨d, _, _, _, _, e⟩ | ⟨d, _, _, e⟩ <;> rw [e]
  · intro i d hd
    unfold tb_set at hd ⊢
    dsimp only at hd ⊢
    by_cases c : i = j
    · subst c
      rw [va_s] at hd ⊢
      rw [va_s]
      injection hd with hd
      subst hd
      exact ⟨h1, h2⟩
    · rw [va_n _ _ c] at hd ⊢
      rw [va_n _ _ c]
      exact w i d hd
  · intro i d hd
    unfold tb_mod at hd ⊢
    dsimp only at hd ⊢
    by_cases c : i = j
    · subst c
      rw [va_s]
      exact ⟨(w i d hd).1, wf_dh _⟩
    · rw [va_n _ _ c]
      exact w i d hd
  · exact w
  · exact w
