/-! a method is made: the picture; the class's new object -/
def pgM0 (P : Pg) : Pg := pgN P 0 0 0 (p_nm P + 1)
def pgM (P : Pg) (r : Nat) : Pg := ((fun c m k => if m = p_nm P ∧ 3 ≤ c ∧ c ≤ 12 then (if c = 3 then r else 0) else (pgM0 P).1 c m k), P.2)
def gtt (G : Gs) (n : Nat) : Gs := (G.1, va_up G.2.1 n tfr, G.2.2)
def s_meth (G : Gs) (x : Int32) : Int32 × Gs := if wi x 6 = true then (if p_nm G.1 = 8 then (-4, G) else (nI (p_nm G.1), fgt (gtt G (p_nm G.1)) (pgM G.1 (cN x)))) else (-2, G)
section GQ
variable {h g : Hp} {o q : Nat} {G : Gs} {P : Pg} {r : Nat}
theorem eqm_M : EqM (pgM0 P) (pgM P r) (p_nm P) := by
  refine ⟨fun c m' j z => ?_, fun c m' j z => rfl, rfl⟩
  show (if m' = p_nm P ∧ 3 ≤ c ∧ c ≤ 12 then _ else (pgM0 P).1 c m' j) = (pgM0 P).1 c m' j
  rw [if_neg (by omega)]
theorem pM_n : p_nm (pgM P r) = p_nm P + 1 ∧ p_nc (pgM P r) = p_nc P ∧ p_nt (pgM P r) = p_nt P := eqm_M.n
theorem pM_r : p_re (pgM P r) (p_nm P) = r ∧ p_na (pgM P r) (p_nm P) = 0 ∧ p_nw (pgM P r) (p_nm P) = 0 ∧ p_no (pgM P r) (p_nm P) = 0 ∧ p_nh (pgM P r) (p_nm P) = 0 := by
  refine ⟨?_, ?_, ?_, ?_, ?_⟩
  · show (if p_nm P = p_nm P ∧ 3 ≤ 3 ∧ 3 ≤ 12 then r else _) = r
    rw [if_pos ⟨rfl, by decide, by decide⟩]
  · show (if p_nm P = p_nm P ∧ 3 ≤ 4 ∧ 4 ≤ 12 then 0 else _) = 0
    rw [if_pos ⟨rfl, by decide, by decide⟩]
  · show (if p_nm P = p_nm P ∧ 3 ≤ 5 ∧ 5 ≤ 12 then 0 else _) = 0
    rw [if_pos ⟨rfl, by decide, by decide⟩]
  · show (if p_nm P = p_nm P ∧ 3 ≤ 7 ∧ 7 ≤ 12 then 0 else _) = 0
    rw [if_pos ⟨rfl, by decide, by decide⟩]
  · show (if p_nm P = p_nm P ∧ 3 ≤ 9 ∧ 9 ≤ 12 then 0 else _) = 0
    rw [if_pos ⟨rfl, by decide, by decide⟩]
theorem pw_M (pw : PW P) (h8 : ¬ p_nm P = 8) (hr : r < 6) : PW (pgM P r) := by
  obtain ⟨r1, r2, r3, r4, r5⟩ := pM_r (P := P) (r := r)
  have wm : PWm (pgM P r) (p_nm P) := ⟨by rw [r1]; exact hr, by rw [r2]; omega, by rw [r3]; omega, by rw [r4]; omega, by rw [r5]; omega, by rw [r2, r3]; rfl, fun k hk => by rw [r2] at hk; omega, fun k hk => by rw [r4] at hk; omega, fun k hk => by rw [r5] at hk; omega⟩
  obtain ⟨n1, n2, n3⟩ := pM_n (P := P) (r := r)
  refine ⟨by have := pw.1; rw [n1]; omega, by rw [n2]; exact pw.2.1, by rw [n3]; exact pw.2.2.1, fun m hm => ?_, fun t ht => ?_⟩
  · rw [n1] at hm
    by_cases c : m = p_nm P
    · subst c; exact wm
    · obtain ⟨w1, w2, w3, w4, w5, w6, w7⟩ := pw.2.2.2.1 m (by omega)
      have w0 : PWm (pgM0 P) m := ⟨w1, w2, w3, w4, w5, (paw_c (P := P) (P' := pgM0 P) (m := m) (fun _ => rfl) (p_na P m)).trans w6, w7⟩
      exact w0.c eqm_M c
  · rw [n3] at ht
    have w : PWt (pgM0 P) t := pw.2.2.2.2 t ht
    exact w.c eqm_M
theorem gi_meth (gi : GI G) (x : Int32) : GI (s_meth G x).2 := by
  unfold s_meth
  cases hx : wi x 6 with
  | false => rw [if_neg (by decide)]; exact gi
  | true =>
    obtain ⟨j, hj, -, ej⟩ := wi_ex (by decide) hx
    rw [if_pos rfl, ej]
    by_cases c : p_nm G.1 = 8
    · rw [if_pos c]; exact gi
    · rw [if_neg c]; exact ⟨pw_M gi.1 c hj, gi.2.1, fun m _ z => by cases z⟩
end GQ
def L2 : Fl := [(1, some (.int, 8), 0), (2, none, 0), (3, none, 0), (4, some (.int, 60), 0), (5, some (.int, 60), 0), (6, some (.int, 60), 0), (7, none, 0), (8, some (.int, 6), 0), (9, some (.int, 6), 0), (10, some (.int, 6), 0), (11, some (.int, 6), 0), (12, none, 0)]
theorem i_2 {h : Hp} {a : Nat} {p : Int32} (t : hT h a = some (.inl 2)) (ez : hz h = a + 1) : Ok (FX2_init (some a) p h) (fun _ g => Ob h g a 13 ∧ MT (hT g) (hR g) a ∧ (hI g a 0 = p ∧ hI g a 2 = 0 ∧ hI g a 3 = 0 ∧ hI g a 7 = 0 ∧ hI g a 12 = 0) ∧ (hI g a 14 = 0 ∧ hI g a 15 = 0) ∧ Tv g (a + 9) (a + 10) (a + 11) (a + 12) (a + 13) tfr) := by
  have lt : a < hz h := by omega
  have e : FX2_init (some a) p h = runC a 2 L2 (fun g => nA g (.inl 5) fun v95 h96 => nz (some v95) none <| cl (FX6_init (some v95) h96) fun _ h100 => pR h100 (some a) 2 13 (some v95) fun h107 => pZ h107 (some a) 2 14 0 fun h112 => pZ h112 (some a) 2 15 0 fun h117 => pI h117 (some a) 2 0 p fun h122 => some ((), h122)) h := rfl
  rw [e, runC_ok L2 h t lt]
  have ob := runF_ob (a := a) L2 h lt
  have r : ∀ f, hR (runF a L2 h) a f = vR L2 (a + 1) f (hR h a f) := fun f => by rw [← ez]; exact runF_R f L2 h lt
  have ii : ∀ f, hI (runF a L2 h) a f = vI L2 f (hI h a f) := fun f => runF_I f L2 h lt
  have tt : ∀ i y, vT L2 i = some y → hT (runF a L2 h) (a + 1 + i) = some (.inr y) := fun i y e => by rw [← ez]; exact (runF_T (a := a) L2 i y h lt e).1
  generalize runF a L2 h = k at ob r ii tt ⊢
  have zk : hz k = a + 9 := by rw [ob.1, ez]; rfl
  rw [nA_ok, nz_ok, zk]
  have t5 : hT (aN k (.inl 5)) (a + 9) = some (.inl 5) := by rw [← zk]; exact aN_new.1
  have z5 : hz (aN k (.inl 5)) = a + 10 := by rw [hz_aN, zk]
  have o6 := i_6 t5 (by omega)
  rw [z5] at o6
  refine ok_cl o6 (fun _ g z => ?_)
  obtain ⟨og, tv⟩ := z
  have zg : hz g = a + 14 := by rw [og.1, z5]
  have sk : ∀ b, b < a + 9 → Sm k g b := fun b hb => (Sm.aN (by omega)).trans (og.2.2 b (by omega) (by omega))
  have ta : hT g a = some (.inl 2) := ((sk a (by omega)).1.trans ob.2.1).trans t
  rw [pR_ok ta, pZ0_ok (show hT (wR g a 13 _) a = _ from ta), pZ0_ok (show hT (wI (wR g a 13 _) a 14 0) a = _ from ta), pI_ok (show hT (wI (wI (wR g a 13 _) a 14 0) a 15 0) a = _ from ta)]
  have s2 : ∀ b, b ≠ a → Sm g (wI (wI (wI (wR g a 13 (some (a + 9))) a 14 0) a 15 0) a 0 p) b := fun b hb => (((Sm.wR hb).trans (Sm.wI hb)).trans (Sm.wI hb)).trans (Sm.wI hb)
  have sa := sk a (by omega)
  have kr : ∀ f, f ≠ 13 → hR (wI (wI (wI (wR g a 13 (some (a + 9))) a 14 0) a 15 0) a 0 p) a f = hR k a f := fun f hf => by rw [hR_wI, hR_wI, hR_wI, hR_wR_k hf, sa.2.1]
  have k13 : hR (wI (wI (wI (wR g a 13 (some (a + 9))) a 14 0) a 15 0) a 0 p) a 13 = some (a + 9) := by rw [hR_wI, hR_wI, hR_wI]; exact hR_wR_s
  have ki : ∀ f, f ≠ 0 → f ≠ 14 → f ≠ 15 → hI (wI (wI (wI (wR g a 13 (some (a + 9))) a 14 0) a 15 0) a 0 p) a f = hI k a f := fun f f0 f1 f2 => by rw [hI_wI_k f0, hI_wI_k f2, hI_wI_k f1, hI_wR, sa.2.2.1]
  have kt : hT (wI (wI (wI (wR g a 13 (some (a + 9))) a 14 0) a 15 0) a 0 p) a = some (.inl 2) := ta
  have k0 : hI (wI (wI (wI (wR g a 13 (some (a + 9))) a 14 0) a 15 0) a 0 p) a 0 = p := hI_wI_s
  have k15 : hI (wI (wI (wI (wR g a 13 (some (a + 9))) a 14 0) a 15 0) a 0 p) a 15 = 0 := by rw [hI_wI_k (by decide)]; exact hI_wI_s
  have k14 : hI (wI (wI (wI (wR g a 13 (some (a + 9))) a 14 0) a 15 0) a 0 p) a 14 = 0 := by rw [hI_wI_k (by decide), hI_wI_k (by decide)]; exact hI_wI_s
  have zz : hz (wI (wI (wI (wR g a 13 (some (a + 9))) a 14 0) a 15 0) a 0 p) = a + 14 := zg
  generalize wI (wI (wI (wR g a 13 (some (a + 9))) a 14 0) a 15 0) a 0 p = w at s2 kr k13 ki kt k0 k15 k14 zz ⊢
  have tw : ∀ i y, vT L2 i = some y → i < 8 → hT w (a + 1 + i) = some (.inr y) := fun i y e hi => by rw [((sk (a + 1 + i) (by omega)).trans (s2 (a + 1 + i) (by omega))).1]; exact tt i y e
  refine ok_some ⟨⟨by rw [zz, ez], by rw [kt, t], fun b hb hn => ((ob.2.2 b hb hn).trans (sk b (by omega))).trans (s2 b hn)⟩, ⟨kt, ⟨(kr 1 (by decide)).trans (r 1), (kr 4 (by decide)).trans (r 4), (kr 5 (by decide)).trans (r 5), (kr 6 (by decide)).trans (r 6), (kr 8 (by decide)).trans (r 8), (kr 9 (by decide)).trans (r 9), (kr 10 (by decide)).trans (r 10), (kr 11 (by decide)).trans (r 11), k13⟩, tw 0 _ rfl (by decide), tw 1 _ rfl (by decide), tw 2 _ rfl (by decide), tw 3 _ rfl (by decide), tw 4 _ rfl (by decide), tw 5 _ rfl (by decide), tw 6 _ rfl (by decide), tw 7 _ rfl (by decide)⟩, ⟨k0, (ki 2 (by decide) (by decide) (by decide)).trans (ii 2), (ki 3 (by decide) (by decide) (by decide)).trans (ii 3), (ki 7 (by decide) (by decide) (by decide)).trans (ii 7), (ki 12 (by decide) (by decide) (by decide)).trans (ii 12)⟩, ⟨k14, k15⟩, tv.sm (a := a + 9) (fun b h1 h2 => s2 b (by omega))⟩
