/-! values keep their kinds: things -/
theorem Ty.mono {n n' k : Nat} {v : Int64} (h : Ty n k v) (hn : n ≤ n') : Ty n' k v := ⟨h.1, fun z => (h.2 z).elim Or.inl (fun ⟨j, hj, e⟩ => Or.inr ⟨j, by omega, e⟩)⟩
theorem ty_x {n k : Nat} {v : Int64} (h0 : k ≠ 0) (h2 : k ≠ 2) (h4 : k ≠ 4) : Ty n k v := ⟨fun z => (by omega), fun z => absurd z h4⟩
theorem sx_32 (x : Int32) : sx (Int32.toInt64 x) := by unfold sx; rw [sx_r]
theorem ty_i {n k : Nat} (x : Int32) (h4 : k ≠ 4) : Ty n k (Int32.toInt64 x) := ⟨fun _ => sx_32 x, fun z => absurd z h4⟩
theorem ty_t {n j : Nat} (hj : j < n) : Ty n 4 (lN j) := ⟨fun z => (by omega), fun _ => Or.inr ⟨j, hj, rfl⟩⟩
theorem ty_m {n : Nat} : Ty n 4 (-1) := ⟨fun z => (by omega), fun _ => Or.inl rfl⟩
theorem ty_l {n k j : Nat} (hj : j < 2 ^ 31) (h4 : k ≠ 4) : Ty n k (lN j) := by rw [← nI_l8 hj]; exact ty_i _ h4
theorem csI_n {y : Nat} (hy : y < 32) : csI (nI y) = nI (if y < 16 then y % 8 else 4) := by
  unfold csI
  rw [nl_16, if_lt (by omega) (by decide)]
  by_cases c : y < 16
  · rw [if_pos c, if_pos c, nl_8, pk_rem (by omega) (by decide) (by decide)]
  · rw [if_neg c, if_neg c]; rfl
theorem tkd_lo {y : Nat} (h1 : y < 16) (h3 : ¬ y % 8 = 4) : tkd (nI y) < 4 := by
  unfold tkd
  rw [csI_n (by omega), if_pos h1, cN_n (by omega)]
  unfold kcl
  split <;> omega
theorem tkd_hi {y : Nat} (h1 : 16 ≤ y) (h2 : y < 32) : tkd (nI y) = 4 := by
  unfold tkd
  rw [csI_n h2, if_neg (by omega), cN_n (by omega)]
  rfl
/-- what an array's cells are at first -/
theorem ty_c0 {n y : Nat} (h2 : y < 32) (h3 : ¬ y % 8 = 4) : Ty n (tkd (nI y)) (if nI y < 16 then 0 else -1) := by
  rw [nl_16, if_lt (by omega) (by decide)]
  by_cases c : y < 16
  · rw [if_pos c]
    have := tkd_lo c h3
    exact ty_l (j := 0) (by decide) (by omega)
  · rw [if_neg c, tkd_hi (by omega) h2]
    exact ty_m
theorem TH.add {T : Th} (th : TH T) (hn : T.1 < 60) {y : Int32} {z : Nat} (hz : z ≤ 100) (hy : (z = 0 ∧ y < 0 ∧ ∃ j : Nat, j < 16 ∧ y = -100 + nI j) ∨ ∃ w : Nat, 8 ≤ w ∧ w < 32 ∧ ¬ w % 8 = 4 ∧ y = nI w) : TH (addT T y z) := by
  unfold TH addT
  dsimp only
  refine ⟨by omega, fun t ht => ?_⟩
  by_cases c : t = T.1
  · subst c
    rw [va_s, va_s, va_s]
    refine ⟨hz, hy, fun k hk => ?_⟩
    rcases hy with ⟨z0, -, -⟩ | ⟨w, w1, w2, w3, rfl⟩
    · omega
    · exact ty_c0 w2 w3
  · rw [va_n _ _ c, va_n _ _ c, va_n _ _ c]
    obtain ⟨a1, a2, a3⟩ := th.2 t (by omega)
    exact ⟨a1, a2, fun k hk => (a3 k hk).mono (by omega)⟩
theorem neg100 {j : Nat} (hj : j < 16) : (-100 + nI j : Int32) < 0 := by
  rcases (show j = 0 ∨ j = 1 ∨ j = 2 ∨ j = 3 ∨ j = 4 ∨ j = 5 ∨ j = 6 ∨ j = 7 ∨ j = 8 ∨ j = 9 ∨ j = 10 ∨ j = 11 ∨ j = 12 ∨ j = 13 ∨ j = 14 ∨ j = 15 by omega) with rfl | rfl | rfl | rfl | rfl | rfl | rfl | rfl | rfl | rfl | rfl | rfl | rfl | rfl | rfl | rfl <;> decide
theorem TH.fail {T : Th} (th : TH T) (hn : T.1 < 60) {f : Nat} (hf : f < 16) : TH (addT T (-100 + nI f) 0) := th.add hn (by omega) (Or.inl ⟨rfl, neg100 hf, f, hf, rfl⟩)
theorem TH.wr {T : Th} (th : TH T) {t k : Nat} {v : Int64} (ht : t < T.1) (hv : Ty T.1 (tkd (T.2.1 t)) v) : TH (wrC T t k v) := by
  unfold TH wrC
  dsimp only
  refine ⟨th.1, fun a ha => ?_⟩
  obtain ⟨a1, a2, a3⟩ := th.2 a ha
  refine ⟨a1, a2, fun j hj => ?_⟩
  by_cases c : a = t
  · subst c
    rw [va_s]
    by_cases c2 : j = k
    · subst c2; rw [va_s]; exact hv
    · rw [va_n _ _ c2]; exact a3 j hj
  · rw [va_n _ _ c]; exact a3 j hj
theorem TH.hd {T : Th} (th : TH T) (f : Nat → Int32) : TH (hdT T f) := th
theorem mk_F_t {kr : Th → Th × Int64} {row c y : Nat} (hs : ∀ T, TH T → row < T.1 → T.2.1 row = nI y → T.1 + c ≤ 60 → TH (kr T).1 ∧ (kr T).1.1 = T.1 + c ∧ (kr T).1.2.1 row = nI y ∧ Ty (kr T).1.1 (tkd (nI y)) (kr T).2) : ∀ (r k : Nat) (T : Th), TH T → row < T.1 → T.2.1 row = nI y → T.1 + r * c ≤ 60 → TH (mk_F kr row r k T) := by
  intro r
  induction r with
  | zero => intro k T th _ _ _; exact th
  | succ r ih =>
    intro k T th h1 h2 h3
    rw [mk_F]
    rw [Nat.succ_mul] at h3
    obtain ⟨a1, a2, a3, a4⟩ := hs T th h1 h2 (by omega)
    refine ih (k + 1) _ (a1.wr (by omega) (by rw [a3]; exact a4)) ?_ ?_ ?_
    · show row < (kr T).1.1
      omega
    · show (kr T).1.2.1 row = nI y
      exact a3
    · show (kr T).1.1 + r * c ≤ 60
      omega
theorem mk_R_t (zs : List Nat) : ∀ (y : Nat) (T : Th), TH T → 8 * zs.length ≤ y → y < 32 → ¬ y % 8 = 4 → okz zs = true → T.1 + cnt zs ≤ 60 → TH (mk_R zs y T).1 ∧ Ty (mk_R zs y T).1.1 4 (mk_R zs y T).2 := by
  induction zs with
  | nil => intro y T th _ _ _ _ _; exact ⟨th, ty_m⟩
  | cons z zs ih =>
    intro y T th h1 h2 h3 h4 h5
    have hcn := mk_R_n (z :: zs) y T h1
    rw [okz, Bool.and_eq_true, decide_eq_true_eq, Bool.or_eq_true, decide_eq_true_eq] at h4
    rw [cnt] at h5 hcn
    rw [List.length_cons] at h1
    rw [mk_R] at hcn ⊢
    dsimp only at hcn ⊢
    have hadd : TH (addT T (nI y) z) := th.add (by omega) h4.1 (Or.inr ⟨y, by omega, h2, h3, rfl⟩)
    have hrow : (addT T (nI y) z).2.1 T.1 = nI y := va_s _ _ _
    refine ⟨?_, by rw [hcn]; exact ty_t (by omega)⟩
    by_cases hz0 : z = 0
    · subst hz0; exact hadd
    · refine mk_F_t (c := cnt zs) (y := y) (fun T' th' g1 g2 g3 => ?_) z 0 (addT T (nI y) z) hadd (by show T.1 < T.1 + 1; omega) hrow (by show T.1 + 1 + z * cnt zs ≤ 60; omega)
      by_cases c16 : 16 ≤ y
      · rw [if_pos c16]
        obtain ⟨b1, b2⟩ := ih (y - 8) T' th' (by omega) (by omega) (by omega) (h4.2.resolve_left hz0) g3
        refine ⟨b1, mk_R_n zs (y - 8) T' (by omega), ?_, by rw [tkd_hi c16 h2]; exact b2⟩
        rw [((mk_R_p zs (y - 8) T' T'.1 (Nat.le_refl _)).2 T.1 g1).1]; exact g2
      · rw [if_neg c16]
        have hzs : zs = [] := by
          cases zs with
          | nil => rfl
          | cons a b => rw [List.length_cons] at h1; omega
        subst hzs
        have := tkd_lo (show y < 16 by omega) h3
        exact ⟨th', rfl, g2, ty_l (j := 0) (by decide) (by omega)⟩
theorem TSt.mono {n n' d : Nat} {σ : Nat → Nat} {s : Nat → Int64} (h : TSt n d σ s) (hn : n ≤ n') : TSt n' d σ s := fun p hp => (h p hp).mono hn
theorem TLo.mono {n n' : Nat} {σ : Nat → Nat} {s : Nat → Int64} (h : TLo n σ s) (hn : n ≤ n') : TLo n' σ s := fun p hp => (h p hp).mono hn
theorem TSt.sub {n d d' : Nat} {σ : Nat → Nat} {s : Nat → Int64} (h : TSt n d σ s) (hd : d' ≤ d) : TSt n d' σ s := fun p hp => h p (by omega)
theorem tst_push {n D k : Nat} {σ : Nat → Nat} {s : Nat → Int64} {v : Int64} (h : TSt n D σ s) (hv : Ty n k v) : TSt n (D + wd k) (spu σ D k) (pushS s D k v) := by
  intro p hp
  unfold spu pushS
  have hw := wd_le k
  by_cases c : wd k = 2
  · rw [if_pos c, if_pos c]
    by_cases p1 : p = D + 1
    · subst p1
      rw [va_s]
      unfold en
      split <;> exact ty_x (by decide) (by decide) (by decide)
    · rw [va_n _ _ p1]
      have e : vp_updL (vp_updL s D v) (D + 1) 0 p = vp_updL s D v p := if_neg p1
      rw [e]
      by_cases p2 : p = D
      · subst p2
        rw [va_s]
        have e : vp_updL s p v p = v := if_pos rfl
        rw [e]; exact hv
      · rw [va_n _ _ p2]
        have e : vp_updL s D v p = s p := if_neg p2
        rw [e]; exact h p (by omega)
  · rw [if_neg c, if_neg c]
    by_cases p2 : p = D
    · subst p2
      rw [va_s]
      have e : vp_updL s p v p = v := if_pos rfl
      rw [e]; exact hv
    · rw [va_n _ _ p2]
      have e : vp_updL s D v p = s p := if_neg p2
      rw [e]; exact h p (by omega)
theorem tst_move {n d op : Nat} {σ : Nat → Nat} {s : Nat → Int64} (h1 : 8 ≤ op) (h2 : op ≤ 16) (hu : mvU op + mvV op ≤ d) (h : TSt n d σ s) : TSt n (mvD op d) (mvG op d σ) (mvS op d s) := by
  obtain ⟨b1, b2, b3⟩ := mv_b h1 h2
  intro p hp
  have key : ∃ q, q < d ∧ mvG op d σ p = σ q ∧ mvS op d s p = s q := by
    unfold mvG mvS mvD at *
    by_cases c9 : op ≤ 9
    · rw [if_pos c9] at hp ⊢
      rw [if_pos c9]
      exact ⟨p, by omega, rfl, rfl⟩
    · rw [if_neg c9] at hp ⊢
      rw [if_neg c9]
      by_cases c16 : op = 16
      · have e2 : mvU op + mvV op = 2 := by subst c16; rfl
        rw [if_pos c16] at hp ⊢
        rw [if_pos c16]
        by_cases p1 : p = d - 1
        · subst p1
          exact ⟨d - 2, by omega, va_s _ _ _, if_pos rfl⟩
        · rw [va_n _ _ p1]
          have e : vp_updL (vp_updL s (d - 2) (s (d - 1))) (d - 1) (s (d - 2)) p = vp_updL s (d - 2) (s (d - 1)) p := if_neg p1
          rw [e]
          by_cases p2 : p = d - 2
          · subst p2
            exact ⟨d - 1, by omega, va_s _ _ _, if_pos rfl⟩
          · rw [va_n _ _ p2]
            exact ⟨p, hp, rfl, if_neg p2⟩
      · rw [if_neg c16] at hp ⊢
        rw [if_neg c16]
        unfold cpG cpu
        by_cases p1 : p < d - mvV op - mvU op
        · rw [if_pos p1, if_pos p1]; exact ⟨p, by omega, rfl, rfl⟩
        · rw [if_neg p1, if_neg p1]
          by_cases p2 : p < d - mvV op
          · rw [if_pos p2, if_pos p2]; exact ⟨_, by omega, rfl, rfl⟩
          · rw [if_neg p2, if_neg p2]; exact ⟨_, by omega, rfl, rfl⟩
  obtain ⟨q, hq, e1, e2⟩ := key
  rw [e1, e2]
  exact h q hq
