/-! a table is made: the picture -/
def pgT0 (P : Pg) : Pg := pgN P 2 0 0 (p_nt P + 1)
def pgT (P : Pg) (s v : Nat) (l : Int32) : Pg := ((fun c t k => if t = p_nt P ∧ 13 ≤ c then (if c = 13 then v else if c = 16 then s else 0) else (pgT0 P).1 c t k), (fun c t k => if t = p_nt P ∧ 3 ≤ c then l else P.2.1 c t k), P.2.2)
def s_tab (G : Gs) (x : Bool) (l v : Int32) : Int32 × Gs := if wi v 60 = true then (if p_nt G.1 = 8 then (-4, G) else (nI (p_nt G.1), fgt G (pgT G.1 (if x = true then 1 else 0) (cN v) l))) else (-2, G)
section GN
variable {h g : Hp} {o q : Nat} {G : Gs} {P : Pg} {s v : Nat} {l : Int32}
theorem eqt_T : EqT (pgT0 P) (pgT P s v l) (p_nt P) := by
  refine ⟨fun c t' j z => ?_, fun c t' j z => ?_, rfl⟩
  · show (if t' = p_nt P ∧ 13 ≤ c then _ else (pgT0 P).1 c t' j) = (pgT0 P).1 c t' j
    rw [if_neg (by omega)]
  · show (if t' = p_nt P ∧ 3 ≤ c then l else P.2.1 c t' j) = P.2.1 c t' j
    rw [if_neg (by omega)]
theorem pT_n : p_nm (pgT P s v l) = p_nm P ∧ p_nc (pgT P s v l) = p_nc P ∧ p_nt (pgT P s v l) = p_nt P + 1 := eqt_T.n
theorem pT_r : p_ot (pgT P s v l) (p_nt P) = v ∧ p_ne (pgT P s v l) (p_nt P) = 0 ∧ p_sp (pgT P s v l) (p_nt P) = s ∧ p_lo (pgT P s v l) (p_nt P) = l := by
  refine ⟨?_, ?_, ?_, ?_⟩
  · show (if p_nt P = p_nt P ∧ 13 ≤ 13 then v else _) = v
    rw [if_pos ⟨rfl, by decide⟩]
  · show (if p_nt P = p_nt P ∧ 13 ≤ 14 then 0 else _) = 0
    rw [if_pos ⟨rfl, by decide⟩]
  · show (if p_nt P = p_nt P ∧ 13 ≤ 16 then s else _) = s
    rw [if_pos ⟨rfl, by decide⟩]
  · show (if p_nt P = p_nt P ∧ 3 ≤ 3 then l else _) = l
    rw [if_pos ⟨rfl, by decide⟩]
theorem pw_T (pw : PW P) (h8 : ¬ p_nt P = 8) (hs : s < 2) (hv : v < 60) : PW (pgT P s v l) := by
  obtain ⟨r1, r2, r3, r4⟩ := pT_r (P := P) (s := s) (v := v) (l := l)
  have wt : PWt (pgT P s v l) (p_nt P) := ⟨by rw [r1]; exact hv, by rw [r2]; omega, by rw [r3]; exact hs, fun e he => by rw [r2] at he; omega, fun e he => by rw [r2] at he; omega, fun e f hef hf => by rw [r2] at hf; omega⟩
  obtain ⟨n1, n2, n3⟩ := pT_n (P := P) (s := s) (v := v) (l := l)
  refine ⟨by rw [n1]; exact pw.1, by rw [n2]; exact pw.2.1, by have := pw.2.2.1; rw [n3]; omega, fun m hm => ?_, fun t ht => ?_⟩
  · rw [n1] at hm
    obtain ⟨⟨a1, a2, a3, a4, a5⟩, a6, a7, a8⟩ := (eqt_T (P := P) (s := s) (v := v) (l := l)).mr m
    obtain ⟨w1, w2, w3, w4, w5, w6, w7, w8, w9⟩ := pw.2.2.2.1 m hm
    refine ⟨by rw [a1]; exact w1, by rw [a2]; exact w2, by rw [a3]; exact w3, by rw [a4]; exact w4, by rw [a5]; exact w5, ?_, fun k hk => ?_, fun i hi => ?_, fun k hk => ?_⟩
    · rw [paw_c a6, a2, a3]; exact (paw_c (P := P) (P' := pgT0 P) (m := m) (fun _ => rfl) (p_na P m)).trans w6
    · rw [a6]; exact w7 k (by rw [a2] at hk; exact hk)
    · rw [(a7 i).1]; exact w8 i (by rw [a4] at hi; exact hi)
    · obtain ⟨b1, b2, b3, b4⟩ := a8 k
      rw [b1, b2, b3, b4]; exact w9 k (by rw [a5] at hk; exact hk)
  · rw [n3] at ht
    by_cases c : t = p_nt P
    · subst c; exact wt
    · obtain ⟨⟨a1, a2, a3, a4⟩, a5⟩ := (eqt_T (P := P) (s := s) (v := v) (l := l)).tr c
      have b1 : ∀ x, p_tt (pgT P s v l) t x = p_tt (pgT0 P) t x := fun x => (a5 x).1
      have b2 : ∀ x, p_ky (pgT P s v l) t x = p_ky (pgT0 P) t x := fun x => (a5 x).2
      have w : PWt (pgT0 P) t := pw.2.2.2.2 t (by omega)
      unfold PWt at w ⊢
      simp only [a1, a2, a3, a4, b1, b2]
      exact w
theorem gi_tab (gi : GI G) (x : Bool) (l v : Int32) : GI (s_tab G x l v).2 := by
  unfold s_tab
  cases hv : wi v 60 with
  | false => rw [if_neg (by decide)]; exact gi
  | true =>
    obtain ⟨j, hj, -, ej⟩ := wi_ex (by decide) hv
    rw [if_pos rfl, ej]
    by_cases c : p_nt G.1 = 8
    · rw [if_pos c]; exact gi
    · rw [if_neg c]; exact gi_fgt gi (pw_T gi.1 c (by cases x <;> decide) hj)
end GN
