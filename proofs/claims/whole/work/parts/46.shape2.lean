theorem f_within_t {j n : Nat} (hj : j < n) (hn : n < 2 ^ 31) (h : Hp) : FX11_within (nI j) (nI n) h = some (1, h) := by
  rw [f_within, nI_tI (by omega), nI_tI hn, if_pos (by omega)]
theorem f_within_f {x : Int32} {n : Nat} (hn : n < 2 ^ 31) (hx : x.toInt < 0 ∨ (n : Int) ≤ x.toInt) (h : Hp) : FX11_within x (nI n) h = some (0, h) := by
  rw [f_within, nI_tI hn, if_neg (by omega)]
def Sv (h : Hp) (s w wa la d : Nat) (σ l : Nat → Nat) : Prop := hT h s = some (.inl 4) ∧ hR h s 0 = some w ∧ hR h s 1 = some la ∧ hT h la = some (.inr (.long, 16)) ∧ la ≠ w ∧ la ≠ wa ∧ Wv h w wa d (fun i => lN (σ i)) ∧ (∀ j, j < 16 → hL h la j = lN (l j)) ∧ (∀ j, j < 16 → l j < 8) ∧ ∀ i, i < d → σ i < 8
def Asv (w wa la : Nat) : Nat → Prop := fun b => b = w ∨ b = wa ∨ b = la
theorem Aw_Asv {w wa la : Nat} : ∀ b, Aw w wa b → Asv w wa la b := fun b h => h.elim Or.inl (fun e => Or.inr (Or.inl e))
theorem Sv.fr {h g : Hp} {s w wa la d : Nat} {σ l : Nat → Nat} {A : Nat → Prop} (v : Sv h s w wa la d σ l) (f : Fr A h g) (h1 : ¬ A w) (h2 : ¬ A wa) (h3 : ¬ A la) : Sv g s w wa la d σ l := by
  obtain ⟨a1, a2, a3, a4, a5, a6, a7, a8, a9, a10⟩ := v
  exact ⟨by rw [f.1]; exact a1, by rw [f.2.1]; exact a2, by rw [f.2.1]; exact a3, by rw [f.1]; exact a4, a5, a6, a7.fr f h1 h2, fun j hj => by rw [(f.2.2.2 la h3).2]; exact a8 j hj, a9, a10⟩
/-- the stack moves, the locals stay -/
theorem Sv.stk {h g : Hp} {s w wa la d d' : Nat} {σ σ' l : Nat → Nat} (v : Sv h s w wa la d σ l) (f : Fr (Aw w wa) h g) (q : Wv g w wa d' (fun i => lN (σ' i))) (hs : ∀ i, i < d' → σ' i < 8) : Sv g s w wa la d' σ' l := by
  obtain ⟨a1, a2, a3, a4, a5, a6, a7, a8, a9, a10⟩ := v
  have h3 : ¬ Aw w wa la := fun z => z.elim a5 a6
  exact ⟨by rw [f.1]; exact a1, by rw [f.2.1]; exact a2, by rw [f.2.1]; exact a3, by rw [f.1]; exact a4, a5, a6, q, fun j hj => by rw [(f.2.2.2 la h3).2]; exact a8 j hj, a9, hs⟩
/-- the locals move, the stack stays -/
theorem Sv.loc {h g : Hp} {s w wa la d : Nat} {σ l l' : Nat → Nat} (v : Sv h s w wa la d σ l) (f : Fr (fun b => b = la) h g) (q : ∀ j, j < 16 → hL g la j = lN (l' j)) (hs : ∀ j, j < 16 → l' j < 8) : Sv g s w wa la d σ l' := by
  obtain ⟨a1, a2, a3, a4, a5, a6, a7, a8, a9, a10⟩ := v
  exact ⟨by rw [f.1]; exact a1, by rw [f.2.1]; exact a2, by rw [f.2.1]; exact a3, by rw [f.1]; exact a4, a5, a6, a7.fr f (fun e => a5 e.symm) (fun e => a6 e.symm), q, hs, a10⟩
theorem wd_le (k : Nat) : 1 ≤ wd k ∧ wd k ≤ 2 := by unfold wd; split <;> omega
theorem nI_neg {a b : Nat} (h : a < b) (hb : b < 2 ^ 30) : nI a - nI b < 0 := pk_sneg hb h
theorem nI_l8 {k : Nat} (h : k < 2 ^ 31) : Int32.toInt64 (nI k) = lN k := nI_l h
theorem k_take_t {h : Hp} {s w wa la d k : Nat} {σ l : Nat → Nat} (v : Sv h s w wa la d σ l) (hk : k < 8) (h1 : wd k ≤ d) (h2 : σ (d - wd k) = k) : Ok (FX5_take (some s) (nI k) h) (fun r g => r = 1 ∧ Sv g s w wa la (d - wd k) σ l ∧ Fr (Aw w wa) h g) := by
  have v0 := v
  obtain ⟨a1, a2, a3, a4, a5, a6, a7, a8, a9, a10⟩ := v
  have hw := wd_le k
  have hd : d ≤ 14 := a7.2.2.2.2.2.1
  unfold FX5_take
  rw [f_width hk, cl_ok, gR_ok a1, gR_ok a1, a2, gI_ok a7.1, a7.2.2.2.2.1, rcv_ok a7.1, pk_sub h1, k_at a7 (by omega), cl_ok, nI_l8 (by omega), if_eqL (by rw [h2]; omega) (by omega), if_pos h2, gR_ok a1, a2, rcv_ok a7.1]
  refine ok_cl (k_drop a7 h1) (fun _ g q => ok_bz (Or.inr rfl) (ok_some ⟨rfl, v0.stk q.2 q.1 (fun i hi => a10 i (by omega)), q.2⟩))
theorem k_take_f {h : Hp} {s w wa la d k : Nat} {σ l : Nat → Nat} (v : Sv h s w wa la d σ l) (hk : k < 8) (h2 : ¬ (wd k ≤ d ∧ σ (d - wd k) = k)) : FX5_take (some s) (nI k) h = some (0, h) := by
  obtain ⟨a1, a2, a3, a4, a5, a6, a7, a8, a9, a10⟩ := v
  have hw := wd_le k
  have hd : d ≤ 14 := a7.2.2.2.2.2.1
  unfold FX5_take
  rw [f_width hk, cl_ok, gR_ok a1, gR_ok a1, a2, gI_ok a7.1, a7.2.2.2.2.1, rcv_ok a7.1]
  by_cases c : wd k ≤ d
  · rw [pk_sub c, k_at a7 (by omega), cl_ok, nI_l8 (by omega), if_eqL (by have := a10 (d - wd k) (by omega); omega) (by omega), if_neg (fun e => h2 ⟨c, e⟩)]
    rfl
  · rw [k_at_no a7 (nI_neg (by omega) (by omega)), cl_ok, nI_l8 (by omega), if_neg (by
      intro e
      have e2 := congrArg Int64.toInt e
      rw [lN_toInt (by omega)] at e2
      have : (-1 : Int64).toInt = -1 := rfl
      omega)]
    rfl
/-- a kind goes onto the stack -/
def spu (σ : Nat → Nat) (d k : Nat) : Nat → Nat := if wd k = 2 then va_up (va_up σ d k) (d + 1) (en k) else va_up σ d k
theorem lN_up (σ : Nat → Nat) (d k : Nat) : vp_updL (fun i => lN (σ i)) d (lN k) = fun i => lN (va_up σ d k i) := by
  funext i
  simp only [vp_updL, va_up]
  split <;> rfl
theorem en_lt (k : Nat) : en k < 8 := by unfold en; split <;> omega
theorem k_put {h : Hp} {s w wa la d k : Nat} {σ l : Nat → Nat} (v : Sv h s w wa la d σ l) (hk : k < 5) (hd : d + wd k ≤ 14) : Ok (FX5_put (some s) (nI k) h) (fun _ g => Sv g s w wa la (d + wd k) (spu σ d k) l ∧ Fr (Aw w wa) h g) := by
  have v0 := v
  obtain ⟨a1, a2, a3, a4, a5, a6, a7, a8, a9, a10⟩ := v
  have hw := wd_le k
  unfold FX5_put
  rw [gR_ok a1, a2, rcv_ok a7.1, nI_l8 (by omega)]
  refine ok_cl (k_push a7 (lN k) (by omega)) (fun _ g q => ?_)
  obtain ⟨q1, q2⟩ := q
  rw [lN_up] at q1
  have v1 : Sv g s w wa la (d + 1) (va_up σ d k) l := v0.stk q2 q1 (fun i hi => by
    unfold va_up
    split
    · omega
    · exact a10 i (by omega))
  rw [f_isWide (by omega), cl_ok]
  by_cases c : k = 1 ∨ k = 3
  · have e : wd k = 2 := if_pos c
    unfold spu
    rw [e] at hd ⊢
    rw [if_pos c, if_neg (by decide), gR_ok v1.1, v1.2.1, f_endOf (by omega), cl_ok, rcv_ok q1.1, nI_l8 (by have := en_lt k; omega), if_pos rfl]
    refine ok_cl (k_push q1 (lN (en k)) (by omega)) (fun _ g' q => ?_)
    obtain ⟨q3, q4⟩ := q
    rw [lN_up] at q3
    refine ok_some ⟨v1.stk q4 q3 (fun i hi => ?_), q2.trans q4⟩
    have := en_lt k
    have := v1.2.2.2.2.2.2.2.2.2
    unfold va_up
    split
    · omega
    · exact this i (by omega)
  · have e : wd k = 1 := if_neg c
    unfold spu
    rw [e]
    rw [if_neg c, if_pos rfl, if_neg (by decide)]
    exact ok_some ⟨v1, q2⟩
theorem k_holds {h : Hp} {s w wa la d k a : Nat} {σ l : Nat → Nat} (v : Sv h s w wa la d σ l) (hk : k < 8) (ha : a < 16) : FX5_holds (some s) (nI a) (nI k) h = some ((if l a = k then 1 else 0), h) := by
  obtain ⟨a1, a2, a3, a4, a5, a6, a7, a8, a9, a10⟩ := v
  have h9 := a9 a ha
  unfold FX5_holds
  rw [show (16 : Int32) = nI 16 from rfl, f_within_t ha (by decide), cl_ok, if_neg (by decide), gR_ok a1, a3, aL_n a4 ha (by decide), a8 a ha, nI_l8 (by omega), if_eqL (by omega) (by omega)]
  split <;> rfl
theorem k_mayMove {h : Hp} {s w wa la d op : Nat} {σ l : Nat → Nat} (v : Sv h s w wa la d σ l) (h1 : 8 ≤ op) (h2 : op ≤ 16) : FX5_mayMove (some s) (nI op) h = some ((if mvU op + mvV op ≤ d ∧ σ (d - mvU op - mvV op) < 6 ∧ σ (d - mvU op) < 6 then 1 else 0), h) := by
  obtain ⟨a1, a2, a3, a4, a5, a6, a7, a8, a9, a10⟩ := v
  obtain ⟨b1, b2, b3⟩ := mv_b h1 h2
  have hd : d ≤ 14 := a7.2.2.2.2.2.1
  unfold FX5_mayMove
  rw [gR_ok a1, a2, gI_ok a7.1, a7.2.2.2.2.1, f_tU h1 h2, f_tV h1 h2]
  by_cases c : mvU op + mvV op ≤ d
  · rw [pk_sub (by omega), pk_sub (by omega), if_neg (nI_pos (by omega)), gR_ok a1, a2, rcv_ok a7.1, k_at a7 (by omega), cl_ok, f_isEnd (a10 _ (by omega)), cl_ok]
    by_cases c1 : 6 ≤ σ (d - mvU op - mvV op)
    · rw [if_pos c1, if_neg (by decide), if_neg (by omega)]; rfl
    · rw [if_neg c1, if_pos rfl, gR_ok a1, a2, rcv_ok a7.1, k_at a7 (by omega), cl_ok, f_isEnd (a10 _ (by omega)), cl_ok]
      by_cases c2 : 6 ≤ σ (d - mvU op)
      · rw [if_pos c2, if_neg (by decide), if_neg (by omega)]; rfl
      · rw [if_neg c2, if_pos rfl, if_pos (by omega)]; rfl
  · have e : (nI d - nI (mvU op) - nI (mvV op)) < 0 := by
      rw [i32_lt, i32_0]
      rw [Int32.sub_sub, nI_add]
      have := pk_sub_toInt (a := d) (b := mvU op + mvV op) (by omega) (by omega)
      omega
    rw [if_pos e, if_neg (by omega)]
    rfl
/-- a kind goes into locals -/
def wrl (l : Nat → Nat) (a k : Nat) : Nat → Nat := if wd k = 2 then va_up (va_up l a k) (a + 1) (en k) else va_up l a k
theorem wrl_lt {l : Nat → Nat} (hl : ∀ j, j < 16 → l j < 8) {a k : Nat} (hk : k < 8) : ∀ j, j < 16 → wrl l a k j < 8 := by
  intro j hj
  have h1 := hl j hj
  have h2 := en_lt k
  unfold wrl va_up
  split <;> dsimp only <;> repeat (first | omega | split)
theorem k_writeLocal {h : Hp} {s w wa la d a k : Nat} {σ l : Nat → Nat} (v : Sv h s w wa la d σ l) (hk : k < 8) (ha : a < 16) : Ok (FX5_writeLocal (some s) (nI a) (nI k) h) (fun _ g => Sv g s w wa la d σ (va_up l a k) ∧ Fr (fun b => b = la) h g) := by
  have v0 := v
  obtain ⟨a1, a2, a3, a4, a5, a6, a7, a8, a9, a10⟩ := v
  unfold FX5_writeLocal
  rw [show (16 : Int32) = nI 16 from rfl, f_within_t ha (by decide), cl_ok, if_neg (by decide), gR_ok a1, a3, sL_n a4 ha (by decide), nI_l8 (by omega)]
  refine ok_some ⟨v0.loc (Fr.wL (A := fun b => b = la) rfl) (fun j hj => ?_) (fun j hj => ?_), Fr.wL (A := fun b => b = la) rfl⟩
  · unfold va_up
    by_cases e : j = a
    · subst e; rw [hL_wL_s, if_pos rfl]
    · rw [hL_wL_k e, if_neg e]; exact a8 j hj
  · unfold va_up
    split
    · omega
    · exact a9 j hj
theorem k_store {h : Hp} {s w wa la d a k : Nat} {σ l : Nat → Nat} (v : Sv h s w wa la d σ l) (hk : k < 8) (ha : a + wd k ≤ 16) : Ok (FX5_store (some s) (nI a) (nI k) h) (fun _ g => Sv g s w wa la d σ (dh (wrl l a k)) ∧ Fr (fun b => b = la) h g) := by
  have hw := wd_le k
  unfold FX5_store
  rw [rcv_ok v.1]
  have fin : ∀ (l2 : Nat → Nat) (g : Hp), Sv g s w wa la d σ l2 → Ok (BX5_store_24 (some s) g) (fun _ g' => Sv g' s w wa la d σ (dh l2) ∧ Fr (fun b => b = la) g g') := by
    intro l2 g v2
    obtain ⟨a1, a2, a3, a4, a5, a6, a7, a8, a9, a10⟩ := id v2
    unfold BX5_store_24
    rw [gR_ok a1, a3, nI_c0]
    refine ok_cl (k_dropHalves (row := 0) a4 (by omega) (by decide) a9 (fun j hj => by rw [Nat.zero_add]; exact a8 j hj)) (fun _ g' q => ok_some ⟨v2.loc q.1 (fun j hj => ?_) (fun j hj => dh_lt a9 hj), q.1⟩)
    have := q.2.1 j hj
    rw [Nat.zero_add] at this
    exact this
  refine ok_cl (k_writeLocal v hk (by omega)) (fun _ g q => ?_)
  obtain ⟨q1, q2⟩ := q
  rw [f_isWide hk, cl_ok]
  by_cases c : k = 1 ∨ k = 3
  · have e : wd k = 2 := if_pos c
    rw [if_pos c, if_neg (by decide), f_endOf hk, cl_ok, rcv_ok q1.1, nI_1]
    refine ok_cl (k_writeLocal q1 (en_lt k) (by omega)) (fun _ g2 q => ?_)
    obtain ⟨q3, q4⟩ := q
    refine (fin _ g2 q3).mono (fun _ g3 q => ⟨?_, (q2.trans q4).trans q.2⟩)
    unfold wrl
    rw [e, if_pos rfl]
    exact q.1
  · have e : wd k = 1 := if_neg c
    rw [if_neg c, if_pos rfl]
    refine (fin _ g q1).mono (fun _ g3 q => ⟨?_, q2.trans q.2⟩)
    unfold wrl
    rw [e, if_neg (by decide)]
    exact q.1
