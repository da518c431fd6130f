/-! the model: things made -/
theorem off_s (T : Th) (t : Nat) : off T (t + 1) = off T t + T.2.2.1 t := sm_succ t T.2.2.1
theorem off_m {T : Th} {a b : Nat} (h : a ≤ b) : off T a ≤ off T b := by
  induction b with
  | zero => have : a = 0 := by omega
            subst this; exact Nat.le_refl _
  | succ b ih =>
    by_cases z : a = b + 1
    · subst z; exact Nat.le_refl _
    · have := ih (by omega)
      rw [off_s]; omega
theorem off_b {T : Th} {n : Nat} (h : ∀ t, t < n → T.2.2.1 t ≤ 100) : off T n ≤ 100 * n := by
  induction n with
  | zero => exact Nat.le_refl _
  | succ n ih =>
    have := ih (fun t ht => h t (by omega))
    have := h n (by omega)
    rw [off_s]; omega
theorem off_inj {T : Th} {t k t' k' : Nat} (hk : k < T.2.2.1 t) (hk' : k' < T.2.2.1 t') (e : off T t + k = off T t' + k') : t = t' ∧ k = k' := by
  by_cases h1 : t < t'
  · have := off_m (T := T) (show t + 1 ≤ t' from h1)
    rw [off_s] at this
    omega
  · by_cases h2 : t' < t
    · have := off_m (T := T) (show t' + 1 ≤ t from h2)
      rw [off_s] at this
      omega
    · have : t = t' := by omega
      subst this
      exact ⟨rfl, by omega⟩
theorem off_add {T : Th} {y : Int32} {z t : Nat} (ht : t ≤ T.1) : off (addT T y z) t = off T t := by
  unfold off addT sm
  dsimp only
  congr 1
  apply List.map_congr_left
  intro a ha
  exact va_n _ _ (by have := List.mem_range.mp ha; omega)
theorem wrC_id {T : Th} {t k : Nat} {v : Int64} (h : T.2.2.2.2 t k = v) : wrC T t k v = T := by
  unfold wrC
  have : va_up T.2.2.2.2 t (va_up (T.2.2.2.2 t) k v) = T.2.2.2.2 := by
    funext a b
    by_cases c1 : a = t
    · subst c1
      rw [va_s]
      by_cases c2 : b = k
      · subst c2; rw [va_s, h]
      · rw [va_n _ _ c2]
    · rw [va_n _ _ c1]
  rw [this]
theorem mk_F_id {kr : Th → Th × Int64} {row : Nat} {v : Int64} (hk : ∀ T, kr T = (T, v)) : ∀ (r k : Nat) (T : Th), (∀ j, T.2.2.2.2 row j = v) → mk_F kr row r k T = T := by
  intro r
  induction r with
  | zero => intro k T _; rfl
  | succ r ih =>
    intro k T h
    rw [mk_F, hk]
    dsimp only
    rw [wrC_id (h k)]
    exact ih (k + 1) T h
theorem mk_R_1 {z y : Nat} {T : Th} (hy : y < 32) : mk_R [z] y T = (addT T (nI y) z, lN T.1) := by
  rw [mk_R]
  have hc : ∀ j, (addT T (nI y) z).2.2.2.2 T.1 j = if nI y < 16 then 0 else -1 := fun j => by
    show va_up T.2.2.2.2 T.1 _ T.1 j = _
    rw [va_s]
  have hlt : (nI y < 16) ↔ y < 16 := by rw [nl_16, i32_lt, nI_tI (by omega), nI_tI (by decide)]; omega
  by_cases c : 16 ≤ y
  · rw [if_pos c]
    have h1 : ¬ nI y < 16 := fun z => by have := hlt.mp z; omega
    rw [mk_F_id (kr := mk_R [] (y - 8)) (v := -1) (fun T => rfl) z 0 _ (fun j => by rw [hc j, if_neg h1])]
  · rw [if_neg c]
    have h1 : nI y < 16 := hlt.mpr (by omega)
    rw [mk_F_id (v := 0) (fun T => rfl) z 0 _ (fun j => by rw [hc j, if_pos h1])]
theorem addT_wr {T : Th} {row k z : Nat} {v : Int64} {y : Int32} (h : row < T.1) : addT (wrC T row k v) y z = wrC (addT T y z) row k v := by
  unfold addT wrC
  dsimp only
  have e1 : va_up T.2.2.2.2 T.1 (fun _ => if y < 16 then (0 : Int64) else -1) row = T.2.2.2.2 row := va_n _ _ (by omega)
  rw [e1]
  have : va_up (va_up T.2.2.2.2 row (va_up (T.2.2.2.2 row) k v)) T.1 (fun _ => if y < 16 then 0 else -1) = va_up (va_up T.2.2.2.2 T.1 (fun _ => if y < 16 then 0 else -1)) row (va_up (T.2.2.2.2 row) k v) := by
    funext a
    by_cases c1 : a = T.1
    · subst c1
      rw [va_s, va_n _ _ (by omega), va_s]
    · rw [va_n _ _ c1]
      by_cases c2 : a = row
      · subst c2; rw [va_s, va_s]
      · rw [va_n _ _ c2, va_n _ _ c2, va_n _ _ c1]
  rw [this]
theorem wr_wr {T : Th} {a k b j : Nat} {v w : Int64} (h : a ≠ b) : wrC (wrC T a k v) b j w = wrC (wrC T b j w) a k v := by
  unfold wrC
  dsimp only
  rw [va_n _ _ (Ne.symm h), va_n _ _ h]
  have : va_up (va_up T.2.2.2.2 a (va_up (T.2.2.2.2 a) k v)) b (va_up (T.2.2.2.2 b) j w) = va_up (va_up T.2.2.2.2 b (va_up (T.2.2.2.2 b) j w)) a (va_up (T.2.2.2.2 a) k v) := by
    funext x
    by_cases c1 : x = b
    · subst c1
      rw [va_s, va_n _ _ (Ne.symm h), va_s]
    · rw [va_n _ _ c1]
      by_cases c2 : x = a
      · subst c2; rw [va_s, va_s]
      · rw [va_n _ _ c2, va_n _ _ c2, va_n _ _ c1]
  rw [this]
/-- rows that are plain arrays -/
def kr1 (y z : Nat) : Th → Th × Int64 := fun T => (addT T (nI y) z, lN T.1)
theorem mk_F_c {y z rr row k0 : Nat} {v : Int64} (hne : row ≠ rr) : ∀ (r k : Nat) (T : Th), row < T.1 → mk_F (kr1 y z) rr r k (wrC T row k0 v) = wrC (mk_F (kr1 y z) rr r k T) row k0 v := by
  intro r
  induction r with
  | zero => intro k T _; rfl
  | succ r ih =>
    intro k T h
    rw [mk_F, mk_F]
    unfold kr1 at ih ⊢
    dsimp only
    rw [addT_wr h, wr_wr hne]
    exact ih (k + 1) _ (by show row < T.1 + 1; omega)
/-- as the model makes them -/
def mo (b3 : Bool) (y1 z1 y2 z2 arr : Nat) : Nat → Nat → Th → Th
  | 0, _, T => T
  | r + 1, i, T => mo b3 y1 z1 y2 z2 arr r (i + 1) (if b3 = true then mk_F (kr1 y2 z2) T.1 z1 0 (wrC (addT T (nI y1) z1) arr i (lN T.1)) else wrC (addT T (nI y1) z1) arr i (lN T.1))
theorem mo_mk {b3 : Bool} {y1 z1 y2 z2 arr : Nat} {kr : Th → Th × Int64} (hk : ∀ T, kr T = ((if b3 = true then mk_F (kr1 y2 z2) T.1 z1 0 (addT T (nI y1) z1) else addT T (nI y1) z1), lN T.1)) (hc : ∀ T : Th, T.1 ≤ (kr T).1.1) : ∀ (r i : Nat) (T : Th), arr < T.1 → mo b3 y1 z1 y2 z2 arr r i T = mk_F kr arr r i T := by
  intro r
  induction r with
  | zero => intro i T _; rfl
  | succ r ih =>
    intro i T h
    rw [mo, mk_F]
    have e : (if b3 = true then mk_F (kr1 y2 z2) T.1 z1 0 (wrC (addT T (nI y1) z1) arr i (lN T.1)) else wrC (addT T (nI y1) z1) arr i (lN T.1)) = wrC (kr T).1 arr i (kr T).2 := by
      rw [hk T]
      dsimp only
      by_cases z : b3 = true
      · rw [if_pos z, if_pos z, mk_F_c (by omega) z1 0 _ (by show arr < T.1 + 1; omega)]
      · rw [if_neg z, if_neg z]
    rw [e]
    exact ih (i + 1) _ (by have := hc T; show arr < (kr T).1.1; omega)
section MN
variable {h g : Hp} {q c m i d : Nat} {s l : Nat → Int64} {hn : Nat → Nat} {T : Th} {σ lk : Nat → Nat} {P : Pg}
def FT : Nat → Prop := fun k => k = 40 ∨ k = 46
def AT5 (q : Nat) : Nat → Prop := fun b => q + 33 ≤ b ∧ b ≤ q + 37
theorem nt_58 {n o1 z : Nat} {v : Int64} {x3 : Int32} (hx : (x3 = 0 ∧ v = 0) ∨ (¬ x3 = 0 ∧ v = -1)) (hn60 : n < 60) (hz : o1 + z ≤ 6000) : ∀ (f k : Nat) (h : Hp), k ≤ z → z - k < f → LM (hT h) (hR h) q → hI h q 40 = nI n → hI h q 46 = nI o1 → (∀ j, j < k → hL h (q + 37) (o1 + j) = v) → Ok (BX12_newThing_58 f (some q) (nI z) x3 (nI k) h) (fun r g => r = nI n ∧ (∀ j, j < z → hL g (q + 37) (o1 + j) = v) ∧ (∀ x, x < o1 ∨ o1 + z ≤ x → hL g (q + 37) x = hL h (q + 37) x) ∧ hI g q 46 = nI (o1 + z) ∧ hI g q 40 = nI (n + 1) ∧ Fm q FT (fun b => b = q + 37) h g) := by
  intro f
  induction f with
  | zero => intro k h h1 h2; omega
  | succ f ih =>
    intro k h h1 h2 lm e40 e46 hc
    obtain ⟨mt0, ⟨mr1, mt1⟩, ⟨mr2, mt2⟩, ⟨mr3, mt3⟩, ⟨mr4, mt4⟩, ⟨mr5, mt5⟩, ⟨mr6, mt6⟩, ⟨mr7, mt7⟩, ⟨mr8, mt8⟩, ⟨mr9, mt9⟩, ⟨mr10, mt10⟩, ⟨mr11, mt11⟩, ⟨mr12, mt12⟩, ⟨mr13, mt13⟩, ⟨mr14, mt14⟩, ⟨mr15, mt15⟩, ⟨mr16, mt16⟩, ⟨mr17, mt17⟩, ⟨mr18, mt18⟩, ⟨mr19, mt19⟩, ⟨mr20, mt20⟩, ⟨mr21, mt21⟩, ⟨mr22, mt22⟩, ⟨mr23, mt23⟩, ⟨mr24, mt24⟩, ⟨mr25, mt25⟩, ⟨mr26, mt26⟩, ⟨mr27, mt27⟩, ⟨mr28, mt28⟩, ⟨mr29, mt29⟩, ⟨mr30, mt30⟩, ⟨mr31, mt31⟩, ⟨mr32, mt32⟩, ⟨mr33, mt33⟩, ⟨mr34, mt34⟩, ⟨mr35, mt35⟩, ⟨mr36, mt36⟩, ⟨mr37, mt37⟩, ⟨mr38, mt38⟩, ⟨mr39, mt39⟩, ⟨mr40, mt40⟩, ⟨mr41, mt41⟩, ⟨mr42, mt42⟩, ⟨mr43, mt43⟩⟩ := id lm
    unfold BX12_newThing_58
    rw [if_lt (by omega) (by omega)]
    by_cases ck : k < z
    · have go : Ok (BX12_newThing_86 (BX12_newThing_58 f) (some q) (nI z) x3 (nI k) (some (q + 37)) (nI o1 + nI k) v h) (fun r g => r = nI n ∧ (∀ j, j < z → hL g (q + 37) (o1 + j) = v) ∧ (∀ x, x < o1 ∨ o1 + z ≤ x → hL g (q + 37) x = hL h (q + 37) x) ∧ hI g q 46 = nI (o1 + z) ∧ hI g q 40 = nI (n + 1) ∧ Fm q FT (fun b => b = q + 37) h g) := by
        unfold BX12_newThing_86
        rw [nI_add, sL_n mt37 (by omega) (by decide), nI_1]
        refine (ih (k + 1) (wL h (q + 37) (o1 + k) v) (by omega) (by omega) lm e40 e46 (fun j hj => ?_)).mono (fun r g x => ?_)
        · by_cases y : j = k
          · subst y; exact hL_wL_s
          · rw [hL_wL_k (by omega)]; exact hc j (by omega)
        · obtain ⟨x1, x2, x3, x4, x5, x6⟩ := x
          exact ⟨x1, x2, fun y hy => by rw [x3 y hy, hL_wL_k (by omega)], x4, x5, (Fm.wb (A := fun b => b = q + 37) rfl (by omega)).trans x6⟩
      rw [if_pos ck, gR_ok mt0, mr37, gI_ok mt0, e46]
      rcases hx with ⟨y1, y2⟩ | ⟨y1, y2⟩
      · rw [if_pos y1]; rw [y2] at go; rw [y2]; exact go
      · rw [if_neg y1]; rw [y2] at go; rw [y2]; exact go
    · have ek : k = z := by omega
      subst ek
      rw [if_neg ck, gI_ok mt0, e46, pI_ok mt0, nI_add]
      have e40' : hI (wI h q 46 (nI (o1 + k))) q 40 = nI n := by rw [hI_wI_k (by decide)]; exact e40
      rw [gI_ok (show hT (wI h q 46 (nI (o1 + k))) q = _ from mt0), e40', pI_ok (show hT (wI h q 46 (nI (o1 + k))) q = _ from mt0), nI_1, gI_ok (show hT (wI (wI h q 46 (nI (o1 + k))) q 40 (nI (n + 1))) q = _ from mt0), hI_wI_s, nI_pred]
      exact ok_some ⟨rfl, hc, fun x _ => rfl, by rw [hI_wI_k (by decide)]; exact hI_wI_s, hI_wI_s, (Fm.fI (F := FT) (Or.inr rfl)).trans (Fm.fI (F := FT) (Or.inl rfl))⟩
theorem m_new (lm : LM (hT h) (hR h) q) (v : MTh h q T) (hn : T.1 < 60) (y : Int32) {z : Nat} (hz : z ≤ 100) : Ok (FX12_newThing (some q) y (nI z) h) (fun r g => r = nI T.1 ∧ MTh g q (addT T y z) ∧ Fm q FT (AT5 q) h g) := by
  obtain ⟨mt0, ⟨mr1, mt1⟩, ⟨mr2, mt2⟩, ⟨mr3, mt3⟩, ⟨mr4, mt4⟩, ⟨mr5, mt5⟩, ⟨mr6, mt6⟩, ⟨mr7, mt7⟩, ⟨mr8, mt8⟩, ⟨mr9, mt9⟩, ⟨mr10, mt10⟩, ⟨mr11, mt11⟩, ⟨mr12, mt12⟩, ⟨mr13, mt13⟩, ⟨mr14, mt14⟩, ⟨mr15, mt15⟩, ⟨mr16, mt16⟩, ⟨mr17, mt17⟩, ⟨mr18, mt18⟩, ⟨mr19, mt19⟩, ⟨mr20, mt20⟩, ⟨mr21, mt21⟩, ⟨mr22, mt22⟩, ⟨mr23, mt23⟩, ⟨mr24, mt24⟩, ⟨mr25, mt25⟩, ⟨mr26, mt26⟩, ⟨mr27, mt27⟩, ⟨mr28, mt28⟩, ⟨mr29, mt29⟩, ⟨mr30, mt30⟩, ⟨mr31, mt31⟩, ⟨mr32, mt32⟩, ⟨mr33, mt33⟩, ⟨mr34, mt34⟩, ⟨mr35, mt35⟩, ⟨mr36, mt36⟩, ⟨mr37, mt37⟩, ⟨mr38, mt38⟩, ⟨mr39, mt39⟩, ⟨mr40, mt40⟩, ⟨mr41, mt41⟩, ⟨mr42, mt42⟩, ⟨mr43, mt43⟩⟩ := id lm
  obtain ⟨⟨v1, v2, v3⟩, v4⟩ := id v
  have hb := off_b (T := T) (n := T.1) (fun t ht => (v4 t ht).2.1.2)
  unfold FX12_newThing
  rw [gR_ok mt0, mr33, gI_ok mt0, v1, sI_n mt33 hn (by decide)]
  have k0 : ∀ {x : Hp}, x = wI h (q + 33) T.1 y → hT x q = some (.inl 11) ∧ hR x q 42 = some (q + 34) ∧ hI x q 40 = nI T.1 ∧ hT x (q + 34) = some (.inr (.int, 60)) := fun e => by subst e; exact ⟨mt0, mr34, by rw [hI_wI_a (by omega)]; exact v1, mt34⟩
  obtain ⟨a1, a2, a3, a4⟩ := k0 rfl
  rw [gR_ok a1, a2, gI_ok a1, a3, sI_n a4 hn (by decide)]
  have k1 : ∀ {x : Hp}, x = wI (wI h (q + 33) T.1 y) (q + 34) T.1 (nI z) → hT x q = some (.inl 11) ∧ hR x q 43 = some (q + 35) ∧ hI x q 40 = nI T.1 ∧ hT x (q + 35) = some (.inr (.int, 60)) := fun e => by subst e; exact ⟨mt0, mr35, by rw [hI_wI_a (by omega), hI_wI_a (by omega)]; exact v1, mt35⟩
  obtain ⟨b1, b2, b3, b4⟩ := k1 rfl
  rw [gR_ok b1, b2, gI_ok b1, b3, sI_n b4 hn (by decide)]
  have k2 : ∀ {x : Hp}, x = wI (wI (wI h (q + 33) T.1 y) (q + 34) T.1 (nI z)) (q + 35) T.1 0 → hT x q = some (.inl 11) ∧ hR x q 44 = some (q + 36) ∧ hI x q 40 = nI T.1 ∧ hI x q 46 = nI (off T T.1) ∧ hT x (q + 36) = some (.inr (.int, 60)) := fun e => by subst e; exact ⟨mt0, mr36, by rw [hI_wI_a (by omega), hI_wI_a (by omega), hI_wI_a (by omega)]; exact v1, by rw [hI_wI_a (by omega), hI_wI_a (by omega), hI_wI_a (by omega)]; exact v2, mt36⟩
  obtain ⟨c1, c2, c3, c4, c5⟩ := k2 rfl
  rw [gR_ok c1, c2, gI_ok c1, c3, gI_ok c1, c4, sI_n c5 hn (by decide)]
  have f1 : Fm q FT (AT5 q) h (wI (wI (wI (wI h (q + 33) T.1 y) (q + 34) T.1 (nI z)) (q + 35) T.1 0) (q + 36) T.1 (nI (off T T.1))) := (((Fm.wa (A := AT5 q) (by unfold AT5; omega) (by omega)).trans (Fm.wa (by unfold AT5; omega) (by omega))).trans (Fm.wa (by unfold AT5; omega) (by omega))).trans (Fm.wa (by unfold AT5; omega) (by omega))
  have d33 : hI (wI (wI (wI (wI h (q + 33) T.1 y) (q + 34) T.1 (nI z)) (q + 35) T.1 0) (q + 36) T.1 (nI (off T T.1))) (q + 33) = upd (hI h (q + 33)) T.1 y := by rw [hI_wI_a (by omega), hI_wI_a (by omega), hI_wI_a (by omega), hI_wI_row]
  have d34 : hI (wI (wI (wI (wI h (q + 33) T.1 y) (q + 34) T.1 (nI z)) (q + 35) T.1 0) (q + 36) T.1 (nI (off T T.1))) (q + 34) = upd (hI h (q + 34)) T.1 (nI z) := by rw [hI_wI_a (by omega), hI_wI_a (by omega), hI_wI_row, hI_wI_a (by omega)]
  have d35 : hI (wI (wI (wI (wI h (q + 33) T.1 y) (q + 34) T.1 (nI z)) (q + 35) T.1 0) (q + 36) T.1 (nI (off T T.1))) (q + 35) = upd (hI h (q + 35)) T.1 0 := by rw [hI_wI_a (by omega), hI_wI_row, hI_wI_a (by omega), hI_wI_a (by omega)]
  have d36 : hI (wI (wI (wI (wI h (q + 33) T.1 y) (q + 34) T.1 (nI z)) (q + 35) T.1 0) (q + 36) T.1 (nI (off T T.1))) (q + 36) = upd (hI h (q + 36)) T.1 (nI (off T T.1)) := by rw [hI_wI_row, hI_wI_a (by omega), hI_wI_a (by omega), hI_wI_a (by omega)]
  have d37 : hL (wI (wI (wI (wI h (q + 33) T.1 y) (q + 34) T.1 (nI z)) (q + 35) T.1 0) (q + 36) T.1 (nI (off T T.1))) = hL h := rfl
  have d40 : hI (wI (wI (wI (wI h (q + 33) T.1 y) (q + 34) T.1 (nI z)) (q + 35) T.1 0) (q + 36) T.1 (nI (off T T.1))) q = hI h q := by rw [hI_wI_a (by omega), hI_wI_a (by omega), hI_wI_a (by omega), hI_wI_a (by omega)]
  generalize wI (wI (wI (wI h (q + 33) T.1 y) (q + 34) T.1 (nI z)) (q + 35) T.1 0) (q + 36) T.1 (nI (off T T.1)) = g1 at f1 d33 d34 d35 d36 d37 d40 ⊢
  have go : ∀ (x3 : Int32) (w : Int64), ((x3 = 0 ∧ w = 0) ∨ (¬ x3 = 0 ∧ w = -1)) → w = (if y < 16 then 0 else -1) → Ok (BX12_newThing_54 (some q) (nI z) x3 g1) (fun r g => r = nI T.1 ∧ MTh g q (addT T y z) ∧ Fm q FT (AT5 q) h g) := by
    intro x3 w hx hw
    unfold BX12_newThing_54
    rw [nI_c0]
    refine (nt_58 (n := T.1) (o1 := off T T.1) (z := z) hx hn (by omega) 100000 0 g1 (by omega) (by omega) (lm.fm f1) (by rw [d40]; exact v1) (by rw [d40]; exact v2) (fun j hj => by omega)).mono (fun r g x => ?_)
    obtain ⟨x1, x2, x3, x4, x5, x6⟩ := x
    have eo : ∀ t, t ≤ T.1 → off (addT T y z) t = off T t := fun t ht => off_add ht
    have en : off (addT T y z) (T.1 + 1) = off T T.1 + z := by
      rw [off_s, eo T.1 (Nat.le_refl _)]
      show off T T.1 + va_up T.2.2.1 T.1 z T.1 = _
      rw [va_s]
    refine ⟨x1, ⟨⟨x5, ?_, by show T.1 + 1 ≤ 60; omega⟩, fun t ht => ?_⟩, f1.trans (x6.mono (fun _ z => z) (fun b z => by unfold AT5; omega))⟩
    · show hI g q 46 = nI (off (addT T y z) (T.1 + 1))
      rw [en]; exact x4
    · have ht : t < T.1 + 1 := ht
      rw [(x6.2.2.2.1 (q + 33) (by omega) (by omega)).1, (x6.2.2.2.1 (q + 34) (by omega) (by omega)).1, (x6.2.2.2.1 (q + 35) (by omega) (by omega)).1, (x6.2.2.2.1 (q + 36) (by omega) (by omega)).1, d33, d34, d35, d36, eo t (by omega)]
      show upd (hI h (q + 33)) T.1 y t = va_up T.2.1 T.1 y t ∧ (upd (hI h (q + 34)) T.1 (nI z) t = nI (va_up T.2.2.1 T.1 z t) ∧ va_up T.2.2.1 T.1 z t ≤ 100) ∧ upd (hI h (q + 35)) T.1 0 t = va_up T.2.2.2.1 T.1 0 t ∧ upd (hI h (q + 36)) T.1 (nI (off T T.1)) t = nI (off T t) ∧ ∀ k, k < va_up T.2.2.1 T.1 z t → hL g (q + 37) (off T t + k) = va_up T.2.2.2.2 T.1 (fun _ => if y < 16 then 0 else -1) t k
      by_cases e : t = T.1
      · subst e
        rw [pk_us, pk_us, pk_us, pk_us, va_s, va_s, va_s, va_s]
        exact ⟨rfl, ⟨rfl, hz⟩, rfl, rfl, fun k hk => by rw [x2 k hk, hw]⟩
      · obtain ⟨w1, w2, w3, w4, w5⟩ := v4 t (by omega)
        rw [pk_un e, pk_un e, pk_un e, pk_un e, va_n _ _ e, va_n _ _ e, va_n _ _ e, va_n _ _ e]
        refine ⟨w1, w2, w3, w4, fun k hk => ?_⟩
        have := off_m (T := T) (show t + 1 ≤ T.1 by omega)
        rw [off_s] at this
        rw [x3 _ (Or.inl (by omega)), d37]
        exact w5 k hk
  by_cases cy : y < 16
  · rw [if_pos cy]
    exact go 0 0 (Or.inl ⟨rfl, rfl⟩) (by rw [if_pos cy])
  · rw [if_neg cy]
    exact go 1 (-1) (Or.inr ⟨by decide, rfl⟩) (by rw [if_neg cy])
theorem m_wr (v : MTh h q T) {t k : Nat} (ht : t < T.1) (hk : k < T.2.2.1 t) (x : Int64) : MTh (wL h (q + 37) (off T t + k) x) q (wrC T t k x) := by
  refine ⟨v.1, fun a ha => ?_⟩
  obtain ⟨w1, w2, w3, w4, w5⟩ := v.2 a ha
  refine ⟨w1, w2, w3, w4, fun j hj => ?_⟩
  show hL (wL h (q + 37) (off T t + k) x) (q + 37) (off T a + j) = va_up T.2.2.2.2 t (va_up (T.2.2.2.2 t) k x) a j
  have hj : j < T.2.2.1 a := hj
  by_cases c1 : a = t
  · subst c1
    rw [va_s]
    by_cases c2 : j = k
    · subst c2; rw [va_s]; exact hL_wL_s
    · rw [va_n _ _ c2, hL_wL_k (by omega)]; exact w5 j hj
  · rw [va_n _ _ c1, hL_wL_k (fun e => c1 (off_inj hj hk e).1)]
    exact w5 j hj
theorem m_at (v : MTh h q T) {t k : Nat} (ht : t < T.1) (hk : k < T.2.2.1 t) : off T t + k < 6000 := by
  have hb := off_b (T := T) (n := T.1) (fun t ht => (v.2 t ht).2.1.2)
  have := off_m (T := T) (show t + 1 ≤ T.1 from ht)
  rw [off_s] at this
  have := v.1.2.2
  omega
end MN
