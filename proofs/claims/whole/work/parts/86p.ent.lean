/-! an entry is added: the picture -/
def pgE (P : Pg) (t v : Nat) (k : Int32) : Pg := pgI (pgN (pgN P 15 t (p_ne P t) v) 14 t 0 (p_ne P t + 1)) 4 t (p_ne P t) k
def mayf (P : Pg) (t : Nat) (k : Int32) : Bool := if p_sp P t = 0 then decide (k.toInt = (p_lo P t).toInt + p_ne P t) else decide (p_ne P t = 0 ∨ (p_ky P t (p_ne P t - 1)).toInt < k.toInt)
def s_ent (G : Gs) (x k v : Int32) : Int32 × Gs := if wi x (p_nt G.1) = true then (if wi v 60 = true then (if mayf G.1 (cN x) k = true then (if p_ne G.1 (cN x) = 8 then (-4, G) else (nI (p_ne G.1 (cN x) + 1), fgt G (pgE G.1 (cN x) (cN v) k))) else (-3, G)) else (-2, G)) else (-2, G)
section GE
variable {G : Gs} {P : Pg} {t v : Nat} {k : Int32}
theorem eqt_E : EqT P (pgE P t v k) t := by
  refine ⟨fun c t' j z => ?_, fun c t' j z => ?_, rfl⟩
  · show (if c = 14 then (if t' = t ∧ j = 0 then _ else (if c = 15 then (if t' = t ∧ j = p_ne P t then _ else P.1 c t' j) else P.1 c t' j)) else (if c = 15 then (if t' = t ∧ j = p_ne P t then _ else P.1 c t' j) else P.1 c t' j)) = P.1 c t' j
    by_cases c14 : c = 14
    · rw [if_pos c14, if_neg (by omega), if_neg (by omega)]
    · rw [if_neg c14]
      by_cases c15 : c = 15
      · rw [if_pos c15, if_neg (by omega)]
      · rw [if_neg c15]
  · show (if c = 4 then (if t' = t ∧ j = p_ne P t then k else P.2.1 c t' j) else P.2.1 c t' j) = _
    by_cases y : c = 4
    · rw [if_pos y, if_neg (by omega)]
    · rw [if_neg y]
theorem pE_ne : p_ne (pgE P t v k) t = p_ne P t + 1 := by
  show (if t = t ∧ 0 = 0 then p_ne P t + 1 else _) = _
  rw [if_pos ⟨rfl, rfl⟩]
theorem pE_k (j : Nat) : p_tt (pgE P t v k) t j = (if j = p_ne P t then v else p_tt P t j) ∧ p_ky (pgE P t v k) t j = (if j = p_ne P t then k else p_ky P t j) := by
  have e : ∀ {α : Type} (u w : α), (if t = t ∧ j = p_ne P t then u else w) = if j = p_ne P t then u else w := fun u w => by
    by_cases z : j = p_ne P t
    · rw [if_pos ⟨rfl, z⟩, if_pos z]
    · rw [if_neg (fun y => z y.2), if_neg z]
  exact ⟨e _ _, e _ _⟩
theorem pw_E (pw : PW P) (ht : t < p_nt P) (hv : v < 60) (hm : mayf P t k = true) (h8 : ¬ p_ne P t = 8) : PW (pgE P t v k) := by
  refine pwT_row pw eqt_E ?_
  obtain ⟨w1, w2, w3, w4, w5, w6⟩ := pw.2.2.2.2 t ht
  have hm0 : p_sp P t = 0 → k.toInt = (p_lo P t).toInt + p_ne P t := fun z => by
    unfold mayf at hm
    rw [if_pos z] at hm
    exact of_decide_eq_true hm
  have hm1 : ∀ e, e < p_ne P t → (p_ky P t e).toInt < k.toInt := fun e he => by
    by_cases z : p_sp P t = 0
    · have := w5 e he z
      have := hm0 z
      omega
    · unfold mayf at hm
      rw [if_neg z] at hm
      have y := of_decide_eq_true hm
      by_cases x : e = p_ne P t - 1
      · subst x; omega
      · have := w6 e (p_ne P t - 1) (by omega) (by omega)
        omega
  refine ⟨w1, by rw [pE_ne]; omega, w3, fun e he => ?_, fun e he hs => ?_, fun e f hef hf => ?_⟩
  · rw [pE_ne] at he
    rw [(pE_k e).1]
    by_cases z : e = p_ne P t
    · rw [if_pos z]; exact hv
    · rw [if_neg z]; exact w4 e (by omega)
  · rw [pE_ne] at he
    rw [(pE_k e).2]
    show _ = (p_lo P t).toInt + e
    by_cases z : e = p_ne P t
    · rw [if_pos z, z]; exact hm0 hs
    · rw [if_neg z]; exact w5 e (by omega) hs
  · rw [pE_ne] at hf
    rw [(pE_k e).2, (pE_k f).2, if_neg (show ¬ e = p_ne P t by omega)]
    by_cases z : f = p_ne P t
    · rw [if_pos z]; exact hm1 e (by omega)
    · rw [if_neg z]; exact w6 e f hef (by omega)
theorem gi_ent (gi : GI G) (x k v : Int32) : GI (s_ent G x k v).2 := by
  unfold s_ent
  have hnt := gi.1.2.2.1
  cases hx : wi x (p_nt G.1) with
  | false => rw [if_neg (by decide)]; exact gi
  | true =>
    obtain ⟨t, ht, -, ec⟩ := wi_ex (by omega) hx
    rw [if_pos rfl, ec]
    cases hv : wi v 60 with
    | false => rw [if_neg (by decide)]; exact gi
    | true =>
      obtain ⟨j, hj, -, ej⟩ := wi_ex (by decide) hv
      rw [if_pos rfl, ej]
      by_cases c : mayf G.1 t k = true
      · rw [if_pos c]
        by_cases y : p_ne G.1 t = 8
        · rw [if_pos y]; exact gi
        · rw [if_neg y]; exact gi_fgt gi (pw_E gi.1 ht hj c y)
      · rw [if_neg c]; exact gi
end GE
