/-! THE PROGRAM as a picture, and JUDGING as a function of it -/
abbrev Pg : Type := (Nat → Nat → Nat → Nat) × (Nat → Nat → Nat → Int32) × (Nat → Int64)
def p_nm (P : Pg) : Nat := P.1 0 0 0
def p_nc (P : Pg) : Nat := P.1 1 0 0
def p_nt (P : Pg) : Nat := P.1 2 0 0
def p_re (P : Pg) (m : Nat) : Nat := P.1 3 m 0
def p_na (P : Pg) (m : Nat) : Nat := P.1 4 m 0
def p_nw (P : Pg) (m : Nat) : Nat := P.1 5 m 0
def p_ka (P : Pg) (m k : Nat) : Nat := P.1 6 m k
def p_no (P : Pg) (m : Nat) : Nat := P.1 7 m 0
def p_op (P : Pg) (m i : Nat) : Nat := P.1 8 m i
def p_nh (P : Pg) (m : Nat) : Nat := P.1 9 m 0
def p_hf (P : Pg) (m k : Nat) : Nat := P.1 10 m k
def p_hu (P : Pg) (m k : Nat) : Nat := P.1 11 m k
def p_hg (P : Pg) (m k : Nat) : Nat := P.1 12 m k
def p_ot (P : Pg) (t : Nat) : Nat := P.1 13 t 0
def p_ne (P : Pg) (t : Nat) : Nat := P.1 14 t 0
def p_tt (P : Pg) (t e : Nat) : Nat := P.1 15 t e
def p_sp (P : Pg) (t : Nat) : Nat := P.1 16 t 0
def p_A (P : Pg) (m i : Nat) : Int32 := P.2.1 0 m i
def p_B (P : Pg) (m i : Nat) : Int32 := P.2.1 1 m i
def p_hn (P : Pg) (m k : Nat) : Int32 := P.2.1 2 m k
def p_lo (P : Pg) (t : Nat) : Int32 := P.2.1 3 t 0
def p_ky (P : Pg) (t e : Nat) : Int32 := P.2.1 4 t e
def p_c (P : Pg) (c : Nat) : Int64 := P.2.2 c
/-- the word at which an argument begins -/
def p_aw (P : Pg) (m : Nat) : Nat → Nat
  | 0 => 0
  | k + 1 => p_aw P m k + wd (p_ka P m k)
def PWm (P : Pg) (m : Nat) : Prop := p_re P m < 6 ∧ p_na P m ≤ 8 ∧ p_nw P m ≤ 8 ∧ p_no P m ≤ 60 ∧ p_nh P m ≤ 6 ∧ p_aw P m (p_na P m) = p_nw P m ∧ (∀ k, k < p_na P m → p_ka P m k < 5) ∧ (∀ i, i < p_no P m → p_op P m i < 36) ∧ ∀ k, k < p_nh P m → p_hf P m k ≤ 60 ∧ p_hu P m k ≤ 60 ∧ p_hg P m k < 60 ∧ (p_hn P m k = -1 ∨ ∃ j : Nat, j < 16 ∧ p_hn P m k = nI j)
def PWt (P : Pg) (t : Nat) : Prop := p_ot P t < 60 ∧ p_ne P t ≤ 8 ∧ p_sp P t < 2 ∧ (∀ e, e < p_ne P t → p_tt P t e < 60) ∧ (∀ e, e < p_ne P t → p_sp P t = 0 → (p_ky P t e).toInt = (p_lo P t).toInt + e) ∧ ∀ e f, e < f → f < p_ne P t → (p_ky P t e).toInt < (p_ky P t f).toInt
def PW (P : Pg) : Prop := p_nm P ≤ 8 ∧ p_nc P ≤ 40 ∧ p_nt P ≤ 8 ∧ (∀ m, m < p_nm P → PWm P m) ∧ ∀ t, t < p_nt P → PWt P t
/-- within -/
def wi (x : Int32) (n : Nat) : Bool := decide (0 ≤ x.toInt ∧ x.toInt < n)
def ity (x : Int32) : Bool := decide (8 ≤ x.toInt ∧ x.toInt < 32 ∧ ¬ x - x / 8 * 8 = 4)
def cN (x : Int32) : Nat := x.toNatClampNeg
theorem wi_n {j n : Nat} (hj : j < 2 ^ 31) : wi (nI j) n = decide (j < n) := by
  unfold wi
  rw [nI_tI hj]
  congr 1
  apply propext
  omega
theorem wi_ex {x : Int32} {n : Nat} (hn : n < 2 ^ 31) (h : wi x n = true) : ∃ j, j < n ∧ x = nI j ∧ cN x = j := by
  unfold wi at h
  have h := of_decide_eq_true h
  obtain ⟨j, h1, rfl⟩ := nI_lt_of hn h.1 h.2
  exact ⟨j, h1, rfl, nI_clamp (by omega)⟩
theorem cN_n {j : Nat} (hj : j < 2 ^ 31) : cN (nI j) = j := nI_clamp hj
theorem f_wi (x : Int32) {n : Nat} (hn : n < 2 ^ 31) (h : Hp) : FX11_within x (nI n) h = some (b2i (wi x n), h) := by
  rw [f_within, nI_tI hn]
  unfold wi
  by_cases c : 0 ≤ x.toInt ∧ x.toInt < n
  · rw [if_pos c, decide_eq_true c]; rfl
  · rw [if_neg c, decide_eq_false c]; rfl
/-- the kind of what a cell gives; the kind that a comparison takes -/
def kcl (b : Nat) : Nat := if 5 ≤ b then 0 else b
def kcm (a : Nat) : Nat := if a = 0 then 1 else if a ≤ 2 then 2 else 3
def takeL (σ : Nat → Nat) : List Nat → Nat → Option Nat
  | [], d => some d
  | k :: ks, d => if wd k ≤ d ∧ σ (d - wd k) = k then takeL σ ks (d - wd k) else none
def argL (P : Pg) (c : Nat) : Nat → List Nat
  | 0 => []
  | k + 1 => p_ka P c k :: argL P c k
def pcov (P : Pg) (m k i : Nat) : Bool := decide (p_hf P m k ≤ i ∧ i < p_hu P m k)
def tbel (P : Pg) (t n : Nat) : Bool := (List.range (p_ne P t)).all (fun e => decide (p_tt P t e < n)) && decide (p_ot P t < n)
def j_od (P : Pg) (op : Nat) (a b : Int32) : Bool :=
  if op = 1 ∨ op = 3 then wi a (p_nc P) else if op = 5 ∨ op = 6 then wi b 5 && wi a (17 - wd (cN b)) else if op = 7 then wi a 16 else if op = 17 then wi a 12 && wi b 2 else if op = 18 ∨ op = 19 then wi a 5 else if op = 21 then wi b 6 else if op = 22 then wi b 2 else if op = 23 then wi a (p_nt P) else if op = 24 then ity a && decide (1 ≤ b.toInt ∧ b.toInt ≤ a.toInt / 8) else if op = 25 ∨ op = 26 then wi b 8 else if op = 28 ∨ op = 29 then ity a else if op = 30 then wi a 16 else if op = 34 then wi a 6 else if op = 35 then wi a (p_nm P) else true
def j_tk (P : Pg) (op a b : Nat) : List Nat :=
  if op = 6 then [b] else if op = 17 then (if a < 8 then [b, b] else if a = 11 then [b] else [0, b]) else if op = 18 then [if a = 3 then 1 else 0] else if op = 19 then [kcm a, kcm a] else if op = 21 ∨ op = 23 then [0] else if op = 24 then List.replicate b 0 else if op = 25 then [0, 4] else if op = 26 then [kcl b, 0, 4] else if op = 22 ∨ op = 27 ∨ op = 28 ∨ op = 29 ∨ op = 31 ∨ op = 32 ∨ op = 33 then [4] else if op = 34 then (if a = 5 then [] else [a]) else if op = 35 then argL P a (p_na P a) else []
def j_pt (P : Pg) (op a b : Nat) : Nat :=
  if op ≤ 4 then op else if op = 5 ∨ op = 17 then b else if op = 18 then (if a = 4 then 1 else 0) else if op = 19 ∨ op = 27 ∨ op = 28 then 0 else if op = 24 ∨ op = 29 ∨ op = 30 then 4 else if op = 25 then kcl b else if op = 35 then p_re P a else 5
def j_hb (P : Pg) (m i : Nat) : Bool := (List.range (p_nh P m)).all (fun k => !pcov P m k i || decide (p_hg P m k < p_no P m))
def j_tg (P : Pg) (m i : Nat) : Bool := (if p_op P m i = 20 ∨ p_op P m i = 21 ∨ p_op P m i = 22 then wi (p_A P m i) (p_no P m) else true) && (if p_op P m i = 23 then tbel P (cN (p_A P m i)) (p_no P m) else true) && j_hb P m i
def j_nx (op : Nat) : Bool := decide (op ≠ 20 ∧ op ≠ 23 ∧ op ≠ 31 ∧ op ≠ 34)
def mok (op d : Nat) (σ : Nat → Nat) : Bool := decide (mvU op + mvV op ≤ d ∧ σ (d - mvU op - mvV op) < 6 ∧ σ (d - mvU op) < 6)
/-- the moves, of words of any sort -/
def cpG {α : Type} (s : Nat → α) (d v u : Nat) : Nat → α := fun i => if i < d - v - u then s i else if i < d - v then s (d - u + (i - (d - v - u))) else s (i - u)
def mvG {α : Type} (op d : Nat) (s : Nat → α) : Nat → α := if op ≤ 9 then s else if op = 16 then va_up (va_up s (d - 2) (s (d - 1))) (d - 1) (s (d - 2)) else cpG s d (mvV op) (mvU op)
def j_take (P : Pg) (op a b d : Nat) (σ : Nat → Nat) : Option Nat := if 8 ≤ op ∧ op ≤ 16 then (if mok op d σ = true then some d else none) else takeL σ (j_tk P op a b) d
def j_put (P : Pg) (op a b d : Nat) (σ l : Nat → Nat) : Sh := if 8 ≤ op ∧ op ≤ 16 then (mvD op d, mvG op d σ, l) else if op = 6 then (d, σ, dh (wrl l a b)) else if j_pt P op a b = 5 then (d, σ, l) else (d + wd (j_pt P op a b), spu σ d (j_pt P op a b), l)
def j_end (P : Pg) (m i : Nat) (s : Sh) : Nat × Sh := if 12 < s.1 then (4, s) else if j_nx (p_op P m i) = true ∧ p_no P m ≤ i + 1 then (1, s) else (0, s)
def j_own (P : Pg) (m i : Nat) (s : Sh) : Nat × Sh :=
  if j_od P (p_op P m i) (p_A P m i) (p_B P m i) = false then (7, s) else if j_tg P m i = false then (2, s) else
  match j_take P (p_op P m i) (cN (p_A P m i)) (cN (p_B P m i)) s.1 s.2.1 with
  | none => (3, s)
  | some d => if p_op P m i = 5 ∧ ¬ s.2.2 (cN (p_A P m i)) = cN (p_B P m i) ∨ p_op P m i = 7 ∧ ¬ s.2.2 (cN (p_A P m i)) = 0 then (5, s) else if p_op P m i = 34 ∧ ¬ cN (p_A P m i) = p_re P m then (8, s) else j_end P m i (j_put P (p_op P m i) (cN (p_A P m i)) (cN (p_B P m i)) d s.2.1 s.2.2)
def j_send (t : Tab) : List (Nat × Sh) → Option Nat × Tab
  | [] => (none, t)
  | q :: r => if (come t q.1 q.2).1 = true then j_send (come t q.1 q.2).2 r else (some q.1, (come t q.1 q.2).2)
def j_hs (P : Pg) (m i : Nat) (l : Nat → Nat) : List (Nat × Sh) := ((List.range (p_nh P m)).filter (fun k => pcov P m k i)).map (fun k => (p_hg P m k, (1, (fun _ => 4), l)))
def j_on (P : Pg) (m i : Nat) (s : Sh) : List (Nat × Sh) :=
  if p_op P m i = 23 then (List.range (p_ne P (cN (p_A P m i)))).map (fun e => (p_tt P (cN (p_A P m i)) e, s)) ++ [(p_ot P (cN (p_A P m i)), s)] else (if p_op P m i = 20 ∨ p_op P m i = 21 ∨ p_op P m i = 22 then [(cN (p_A P m i), s)] else []) ++ (if j_nx (p_op P m i) = true then [(i + 1, s)] else [])
def t_sh (t : Tab) (i : Nat) : Sh := ((t.1 i).getD 0, t.2.1 i, t.2.2.1 i)
def t_und (t : Tab) (i : Nat) : Tab := (t.1, t.2.1, t.2.2.1, va_up t.2.2.2 i false)
/-- a round: the fault, its place, the shapes -/
def j_step (P : Pg) (m i : Nat) (t : Tab) : Nat × Nat × Tab :=
  if (j_own P m i (t_sh t i)).1 = 0 then
    (if (j_send (t_und t i) (j_hs P m i (t.2.2.1 i) ++ j_on P m i (j_own P m i (t_sh t i)).2)).1 = none then (0, i, (j_send (t_und t i) (j_hs P m i (t.2.2.1 i) ++ j_on P m i (j_own P m i (t_sh t i)).2)).2) else (6, ((j_send (t_und t i) (j_hs P m i (t.2.2.1 i) ++ j_on P m i (j_own P m i (t_sh t i)).2)).1).getD 0, (j_send (t_und t i) (j_hs P m i (t.2.2.1 i) ++ j_on P m i (j_own P m i (t_sh t i)).2)).2))
  else ((j_own P m i (t_sh t i)).1, i, t_und t i)
def t_least (t : Tab) : Option Nat := (List.range 60).find? (fun i => t.2.2.2 i)
def j_run (P : Pg) (m : Nat) : Nat → Tab → Nat × Nat × Tab
  | 0, t => (0, 0, t)
  | n + 1, t => match t_least t with
    | none => (0, 0, t)
    | some i => if (j_step P m i t).1 = 0 then j_run P m n (j_step P m i t).2.2 else j_step P m i t
/-- the locals of the arguments -/
def j_arg (P : Pg) (m : Nat) : Nat → (Nat → Nat)
  | 0 => fun _ => 5
  | k + 1 => dh (wrl (j_arg P m k) (p_aw P m k) (p_ka P m k))
