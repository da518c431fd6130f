/-! THE LAW'S LOOP: class and model answer alike, call by call -/
def Rl (o : Nat) (h : Hp) : Prop := ∃ G, CG h o G ∧ MG h (o + 53) G ∧ GI G
def St2 {β : Type} (o : Nat) (A : Option (β × Hp)) (B : Hp → Option (β × Hp)) : Prop := ∃ r g1 g2, A = some (r, g1) ∧ hT g1 (o + 53) = some (.inl 11) ∧ B g1 = some (r, g2) ∧ Rl o g2
section LW
variable {h : Hp} {o : Nat} {G : Gs}
theorem st_of {X : Int32 × Gs} {A : Option (Int32 × Hp)} {B : Hp → Option (Int32 × Hp)} (mg : MG h (o + 53) G) (hc : Ok A (CQ o h X)) (hd : ∀ g, MG g (o + 53) G → Ok (B g) (DQ (o + 53) g X)) (hg : GI X.2) : St2 o A B := by
  obtain ⟨r, g1, e1, rfl, c1, fc⟩ := hc
  have m1 := mg.fc fc
  obtain ⟨r2, g2, e2, rfl, d1, fr⟩ := hd g1 m1
  exact ⟨_, g1, g2, e1, m1.1.1.1, e2, X.2, c1.fr fr (fun b hb => by unfold AMd; omega), d1, hg⟩
theorem st_tell {β : Type} {r : β} {A : Option (β × Hp)} {B : Hp → Option (β × Hp)} (cg : CG h o G) (mg : MG h (o + 53) G) (gi : GI G) (e1 : A = some (r, h)) (e2 : B h = some (r, h)) : St2 o A B := ⟨r, h, h, e1, mg.1.1.1, e2, G, cg, mg, gi⟩
theorem st_judge (cg : CG h o G) (mg : MG h (o + 53) G) (gi : GI G) (x : Int32) : St2 o (FX11_judge (some o) x h) (fun g => FX12_judge (some (o + 53)) x g) := by
  obtain ⟨r, g1, e1, rfl, c1, fc⟩ := c_judge gi cg x
  have m1 := mg.fc fc
  obtain ⟨r2, g2, e2, ⟨rfl, d1, fr⟩, tw⟩ := d_judge gi m1 x
  exact ⟨_, g1, g2, e1, m1.1.1.1, e2, _, c1.fr fr (fun b hb => by unfold AMd; omega), d1, gi_judge gi x tw⟩
theorem st_walk (cg : CG h o G) (mg : MG h (o + 53) G) (gi : GI G) (x n : Int32) : St2 o (FX11_walk (some o) x n h) (fun g => FX12_walk (some (o + 53)) x n g) := by
  obtain ⟨r, g1, e1, L, rfl, c1, fc⟩ := c_walk gi cg x n
  have m1 := mg.fc fc
  obtain ⟨r2, g2, e2, rfl, d1, fr⟩ := d_walk gi m1 x n L
  exact ⟨_, g1, g2, e1, m1.1.1.1, e2, _, c1.fr fr (fun b hb => by unfold AMd; omega), d1, gi_walk gi x n L⟩
theorem lw_c {β : Type} [DecidableEq β] {A : Option (β × Hp)} {B : Hp → Option (β × Hp)} {K : Hp → Option (Int32 × Hp)} (t : hT h o = some (.inl 10)) (s : St2 o A B) (hK : ∀ g, Rl o g → ∃ h1, K g = some (1, h1)) : ∃ h1, (rcv h (some o) 10 <| cl A fun v h9 => rcv h9 (some (o + 53)) 11 <| cl (B h9) fun w g => if v = w then K g else bz 0 (some ((0 : Int32), g))) = some (1, h1) := by
  obtain ⟨r, g1, g2, e1, t1, e2, rl⟩ := s
  obtain ⟨h1, e3⟩ := hK g2 rl
  refine ⟨h1, ?_⟩
  rw [rcv_ok t, e1, cl_ok, rcv_ok t1, e2, cl_ok, if_pos rfl]
  exact e3
theorem tS_n {α : Type} {L j : Nat} {xs : Nat → Int32} {c : Int32 → Option α} (hj : j < L) (hL : L ≤ 3072) : tS L xs (nI j) c = c (xs j) := by
  unfold tS
  rw [inb_nI hj (by omega), nI_clamp (by omega)]
theorem L_6 {L k : Nat} (hL : L ≤ 3072) (hk : k ≤ 3072) : ((Int32.ofNat L - 6 : Int32) < nI k) ↔ (L : Int) - 6 < k := by
  have e : (Int32.ofNat L - 6 : Int32).toInt = (L : Int) - 6 := by
    have e0 : (Int32.ofNat L).toInt = L := nI_tI (n := L) (by omega)
    rw [Int32.toInt_sub, e0, show (6 : Int32).toInt = 6 from by decide, Int.bmod_def]
    omega
  rw [i32_lt, e, nI_tI (by omega)]
theorem lw_loop {L : Nat} {xs : Nat → Int32} (hL : L ≤ 3072) : ∀ (n k : Nat) (h : Hp), 513 ≤ n + k → 6 * k ≤ L → Rl o h → ∃ h1, BL_law_18 L xs n (some o) (some (o + 53)) (nI (6 * k)) h = some (1, h1) := by
  intro n
  induction n with
  | zero => intro k h h1 h2; omega
  | succ n ih =>
    intro k h h1 h2 rl
    obtain ⟨G, cg, mg, gi⟩ := rl
    have t := cg.2.1.1.1
    unfold BL_law_18
    by_cases c : (Int32.ofNat L - 6 : Int32) < nI (6 * k)
    · rw [if_pos c]; exact ⟨h, rfl⟩
    · rw [if_neg c]
      rw [L_6 hL (by omega)] at c
      have hK : ∀ g, Rl o g → ∃ h1, BL_law_839 L xs (BL_law_18 L xs n) (some o) (some (o + 53)) (nI (6 * k)) g = some (1, h1) := fun g rg => by
        obtain ⟨h1, e⟩ := ih (k + 1) g (by omega) (by omega) rg
        refine ⟨h1, ?_⟩
        unfold BL_law_839
        rw [nl_6, nI_add, show 6 * k + 6 = 6 * (k + 1) by omega]
        exact e
      have ts0 : ∀ {α : Type} (c : Int32 → Option α), tS L xs (nI (6 * k)) c = c (xs (6 * k)) := fun c => tS_n (by omega) hL
      have ts1 : ∀ {α : Type} (c : Int32 → Option α), tS L xs (nI (6 * k) + 1) c = c (xs (6 * k + 1)) := fun c => by rw [nI_1, tS_n (by omega) hL]
      have ts2 : ∀ {α : Type} (c : Int32 → Option α), tS L xs (nI (6 * k) + 2) c = c (xs (6 * k + 2)) := fun c => by rw [nl_2, nI_add, tS_n (by omega) hL]
      have ts3 : ∀ {α : Type} (c : Int32 → Option α), tS L xs (nI (6 * k) + 3) c = c (xs (6 * k + 3)) := fun c => by rw [nl_3, nI_add, tS_n (by omega) hL]
      have ts4 : ∀ {α : Type} (c : Int32 → Option α), tS L xs (nI (6 * k) + 4) c = c (xs (6 * k + 4)) := fun c => by rw [nl_4, nI_add, tS_n (by omega) hL]
      have ts5 : ∀ {α : Type} (c : Int32 → Option α), tS L xs (nI (6 * k) + 5) c = c (xs (6 * k + 5)) := fun c => by rw [nl_5, nI_add, tS_n (by omega) hL]
      rw [ts0]
      by_cases c0 : xs (6 * k) &&& 31 = 0
      · rw [if_pos c0]
        simp only [ts1]
        exact lw_c (B := fun g => FX12_method (some (o + 53)) _ g) t (st_of mg (c_meth gi cg _) (fun g m => d_meth gi m _) (gi_meth gi _)) hK
      rw [if_neg c0]
      by_cases c1 : xs (6 * k) &&& 31 = 1
      · rw [if_pos c1]
        simp only [ts1, ts2]
        exact lw_c (B := fun g => FX12_argument (some (o + 53)) _ _ g) t (st_of mg (c_arg gi cg _ _) (fun g m => d_arg gi m _ _) (gi_arg gi _ _)) hK
      rw [if_neg c1]
      by_cases c2 : xs (6 * k) &&& 31 = 2
      · rw [if_pos c2]
        simp only [ts1, ts2, ts3, ts4]
        exact lw_c (B := fun g => FX12_op (some (o + 53)) _ _ _ _ g) t (st_of mg (c_op gi cg _ _ _ _) (fun g m => d_op gi m _ _ _ _) (gi_op gi _ _ _ _)) hK
      rw [if_neg c2]
      by_cases c3 : xs (6 * k) &&& 31 = 3
      · rw [if_pos c3]
        simp only [ts1, ts2, ts3, ts4, ts5]
        exact lw_c (B := fun g => FX12_alter (some (o + 53)) _ _ _ _ _ g) t (st_of mg (c_alter gi cg _ _ _ _ _) (fun g m => d_alter gi m _ _ _ _ _) (gi_alter gi _ _ _ _ _)) hK
      rw [if_neg c3]
      by_cases c4 : xs (6 * k) &&& 31 = 4
      · rw [if_pos c4]
        simp only [ts1, ts2, ts3, ts4, ts5]
        exact lw_c (B := fun g => FX12_handler (some (o + 53)) _ _ _ _ _ g) t (st_of mg (c_han gi cg _ _ _ _ _) (fun g m => d_han gi m _ _ _ _ _) (gi_han gi _ _ _ _ _)) hK
      rw [if_neg c4]
      by_cases c5 : xs (6 * k) &&& 31 = 5
      · rw [if_pos c5]
        simp only [ts1, ts2]
        exact lw_c (B := fun g => FX12_constant (some (o + 53)) _ g) t (st_of mg (c_const gi cg _) (fun g m => d_const gi m _) (gi_const gi _)) hK
      rw [if_neg c5]
      by_cases c6 : xs (6 * k) &&& 31 = 6
      · rw [if_pos c6]
        simp only [ts1, BL_law_426, BL_law_453, ts2, ts3]
        by_cases z : xs (6 * k + 1) = 0
        · simp only [if_pos z]
          exact lw_c (B := fun g => FX12_table (some (o + 53)) _ _ _ g) t (st_of mg (c_tab gi cg false _ _) (fun g m => d_tab gi m false _ _) (gi_tab gi false _ _)) hK
        · simp only [if_neg z]
          exact lw_c (B := fun g => FX12_table (some (o + 53)) _ _ _ g) t (st_of mg (c_tab gi cg true _ _) (fun g m => d_tab gi m true _ _) (gi_tab gi true _ _)) hK
      rw [if_neg c6]
      by_cases c7 : xs (6 * k) &&& 31 = 7
      · rw [if_pos c7]
        simp only [ts1, ts2, ts3]
        exact lw_c (B := fun g => FX12_entry (some (o + 53)) _ _ _ g) t (st_of mg (c_ent gi cg _ _ _) (fun g m => d_ent gi m _ _ _) (gi_ent gi _ _ _)) hK
      rw [if_neg c7]
      by_cases c8 : xs (6 * k) &&& 31 = 8
      · rw [if_pos c8]
        simp only [ts1]
        exact lw_c (B := fun g => FX12_count (some (o + 53)) _ g) t (st_tell cg mg gi (c_count cg _) (d_count mg _)) hK
      rw [if_neg c8]
      by_cases c9 : xs (6 * k) &&& 31 = 9
      · rw [if_pos c9]
        simp only [ts1]
        exact lw_c (B := fun g => FX12_judge (some (o + 53)) _ g) t (st_judge cg mg gi _) hK
      rw [if_neg c9]
      by_cases c10 : xs (6 * k) &&& 31 = 10
      · rw [if_pos c10]
        simp only [ts1]
        exact lw_c (B := fun g => FX12_fault (some (o + 53)) _ g) t (st_tell cg mg gi (c_fault cg _) (d_fault mg _)) hK
      rw [if_neg c10]
      by_cases c11 : xs (6 * k) &&& 31 = 11
      · rw [if_pos c11]
        simp only [ts1]
        exact lw_c (B := fun g => FX12_good (some (o + 53)) _ g) t (st_tell cg mg gi (c_good gi cg _) (d_good gi mg _)) hK
      rw [if_neg c11]
      by_cases c12 : xs (6 * k) &&& 31 = 12
      · rw [if_pos c12]
        simp only [ts1, ts2, ts3]
        exact lw_c (B := fun g => FX12_shape (some (o + 53)) _ _ _ g) t (st_tell cg mg gi (c_shape gi cg _ _ _) (d_shape gi mg _ _ _)) hK
      rw [if_neg c12]
      by_cases c13 : xs (6 * k) &&& 31 = 13
      · rw [if_pos c13]
        simp only [ts1, ts2]
        exact lw_c (B := fun g => FX12_give (some (o + 53)) _ g) t (st_of mg (c_give gi cg _) (fun g m => d_give gi m _) (gi_give gi _)) hK
      rw [if_neg c13]
      by_cases c14 : xs (6 * k) &&& 31 = 14
      · rw [if_pos c14]
        simp only [ts1, ts2]
        exact lw_c (B := fun g => FX12_walk (some (o + 53)) _ _ g) t (st_walk cg mg gi _ _) hK
      rw [if_neg c14]
      by_cases c15 : xs (6 * k) &&& 31 = 15
      · rw [if_pos c15]
        exact lw_c (B := fun g => FX12_value (some (o + 53)) g) t (st_tell cg mg gi (c_value cg) (d_value mg)) hK
      rw [if_neg c15]
      by_cases c16 : xs (6 * k) &&& 31 = 16
      · rw [if_pos c16]
        simp only [ts1]
        exact lw_c (B := fun g => FX12_told (some (o + 53)) _ g) t (st_tell cg mg gi (c_told cg _) (d_told mg _)) hK
      rw [if_neg c16]
      by_cases c17 : xs (6 * k) &&& 31 = 17
      · rw [if_pos c17]
        simp only [ts1, ts2]
        exact lw_c (B := fun g => FX12_thing (some (o + 53)) _ _ g) t (st_tell cg mg gi (c_thing cg _ _) (d_thing mg _ _)) hK
      rw [if_neg c17]
      by_cases c18 : xs (6 * k) &&& 31 = 18
      · rw [if_pos c18]
        simp only [ts1, ts2]
        exact lw_c (B := fun g => FX12_cell (some (o + 53)) _ _ g) t (st_tell cg mg gi (c_cell cg _ _) (d_cell mg _ _)) hK
      rw [if_neg c18]
      exact hK h ⟨G, cg, mg, gi⟩
end LW
