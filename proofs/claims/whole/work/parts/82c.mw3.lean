/-! the model: moves, jumps -/
theorem mv_src {d op p : Nat} (h1 : 8 ≤ op) (h2 : op ≤ 16) (hu : mvU op + mvV op ≤ d) (hp : p < mvD op d) : ∃ r, r < d ∧ (∀ σ : Nat → Nat, mvG op d σ p = σ r) ∧ ∀ s : Nat → Int64, mvS op d s p = s r := by
  obtain ⟨b1, b2, b3⟩ := mv_b h1 h2
  unfold mvD at hp
  unfold mvG mvS
  by_cases c9 : op ≤ 9
  · rw [if_pos c9] at hp
    exact ⟨p, by omega, fun σ => by rw [if_pos c9], fun s => by rw [if_pos c9]⟩
  · rw [if_neg c9] at hp
    by_cases c16 : op = 16
    · have e2 : mvU op + mvV op = 2 := by subst c16; rfl
      rw [if_pos c16] at hp
      by_cases p1 : p = d - 1
      · subst p1
        exact ⟨d - 2, by omega, fun σ => by rw [if_neg c9, if_pos c16, va_s], fun s => by rw [if_neg c9, if_pos c16]; exact if_pos rfl⟩
      · by_cases p2 : p = d - 2
        · subst p2
          refine ⟨d - 1, by omega, fun σ => by rw [if_neg c9, if_pos c16, va_n _ _ p1, va_s], fun s => ?_⟩
          rw [if_neg c9, if_pos c16]
          have e : vp_updL (vp_updL s (d - 2) (s (d - 1))) (d - 1) (s (d - 2)) (d - 2) = vp_updL s (d - 2) (s (d - 1)) (d - 2) := if_neg p1
          rw [e]; exact if_pos rfl
        · refine ⟨p, hp, fun σ => by rw [if_neg c9, if_pos c16, va_n _ _ p1, va_n _ _ p2], fun s => ?_⟩
          rw [if_neg c9, if_pos c16]
          have e : vp_updL (vp_updL s (d - 2) (s (d - 1))) (d - 1) (s (d - 2)) p = vp_updL s (d - 2) (s (d - 1)) p := if_neg p1
          rw [e]; exact if_neg p2
    · rw [if_neg c16] at hp
      unfold cpG cpu
      by_cases p1 : p < d - mvV op - mvU op
      · exact ⟨p, by omega, fun σ => by rw [if_neg c9, if_neg c16, if_pos p1], fun s => by rw [if_neg c9, if_neg c16, if_pos p1]⟩
      · by_cases p2 : p < d - mvV op
        · exact ⟨d - mvU op + (p - (d - mvV op - mvU op)), by omega, fun σ => by rw [if_neg c9, if_neg c16, if_neg p1, if_pos p2], fun s => by rw [if_neg c9, if_neg c16, if_neg p1, if_pos p2]⟩
        · exact ⟨p - mvU op, by omega, fun σ => by rw [if_neg c9, if_neg c16, if_neg p1, if_neg p2], fun s => by rw [if_neg c9, if_neg c16, if_neg p1, if_neg p2]⟩
section MM
variable {h g : Hp} {q c m i d : Nat} {s l : Nat → Int64} {hn : Nat → Nat} {T : Th} {σ lk : Nat → Nat} {P : Pg}
/-- what the model's moves leave: the words are moved as the function says -/
def MvQ (q c d' : Nat) (w : Nat → Int64) (h : Hp) : Unit → Hp → Prop := fun _ g => hI g (q + 40) c = nI d' ∧ (∀ p, p < d' → hL g (q + 41) (32 * c + p) = w p) ∧ Fm q F40 (A41 q) h g ∧ Fo2 q c h g
theorem mw_o2 {x : Nat} {v : Int64} (hx : 32 * c ≤ x) (hx2 : x < 32 * c + 32) : Fo2 q c h (wL h (q + 41) x v) := fun y hy => ⟨⟨rfl, rfl, rfl⟩, fun p hp => by rw [hL_wL_k (by omega)], fun j hj => by rw [hL_wL_a (by omega)], fun t ht => rfl⟩
theorem mw_o2i {v : Int32} : Fo2 q c h (wI h (q + 40) c v) := fun y hy => ⟨⟨by rw [hI_wI_a (by omega)], by rw [hI_wI_a (by omega)], by rw [hI_wI_k hy]⟩, fun p hp => rfl, fun j hj => rfl, fun t ht => by rw [hI_wI_a (by omega)]⟩
theorem mw_171 {w : Nat → Int64} {u v : Nat} (hu : 1 ≤ u) (hu2 : u ≤ 2) (hv : v ≤ 2) (hd : u + v ≤ d) (hd12 : d ≤ 12) (hc : c < 6) : ∀ (f k : Nat) (h : Hp), k ≤ u → u - k < f → LM (hT h) (hR h) q → hI h (q + 40) c = nI d → (∀ p, p < 32 → hL h (q + 41) (32 * c + p) = if d - v - u ≤ p ∧ p < d - v - u + k then w (d - u + (p - (d - v - u))) else if d - v ≤ p ∧ p < d + u then w (p - u) else w p) → Ok (BX12_moveWords_171 f (some q) (nI c) (nI (32 * c)) (nI d) (nI u) (nI v) (nI k) h) (MvQ q c (d + u) (cpu w d v u) h) := by
  intro f
  induction f with
  | zero => intro k h h1 h2; omega
  | succ f ih =>
    intro k h h1 h2 lm e40 hw
    obtain ⟨mt0, ⟨mr1, mt1⟩, ⟨mr2, mt2⟩, ⟨mr3, mt3⟩, ⟨mr4, mt4⟩, ⟨mr5, mt5⟩, ⟨mr6, mt6⟩, ⟨mr7, mt7⟩, ⟨mr8, mt8⟩, ⟨mr9, mt9⟩, ⟨mr10, mt10⟩, ⟨mr11, mt11⟩, ⟨mr12, mt12⟩, ⟨mr13, mt13⟩, ⟨mr14, mt14⟩, ⟨mr15, mt15⟩, ⟨mr16, mt16⟩, ⟨mr17, mt17⟩, ⟨mr18, mt18⟩, ⟨mr19, mt19⟩, ⟨mr20, mt20⟩, ⟨mr21, mt21⟩, ⟨mr22, mt22⟩, ⟨mr23, mt23⟩, ⟨mr24, mt24⟩, ⟨mr25, mt25⟩, ⟨mr26, mt26⟩, ⟨mr27, mt27⟩, ⟨mr28, mt28⟩, ⟨mr29, mt29⟩, ⟨mr30, mt30⟩, ⟨mr31, mt31⟩, ⟨mr32, mt32⟩, ⟨mr33, mt33⟩, ⟨mr34, mt34⟩, ⟨mr35, mt35⟩, ⟨mr36, mt36⟩, ⟨mr37, mt37⟩, ⟨mr38, mt38⟩, ⟨mr39, mt39⟩, ⟨mr40, mt40⟩, ⟨mr41, mt41⟩, ⟨mr42, mt42⟩, ⟨mr43, mt43⟩⟩ := id lm
    unfold BX12_moveWords_171
    rw [if_lt (by omega) (by omega)]
    by_cases ck : k < u
    · have e1 := hw (d + k) (by omega)
      rw [if_neg (by omega), if_pos (by omega)] at e1
      rw [if_pos ck, gR_ok mt0, mr41, gR_ok mt0, mr41, nI_add, nI_add, pk_sub (by omega), pk_sub (by omega), nI_add, aL_n mt41 (by omega) (by decide), show 32 * c + d + k = 32 * c + (d + k) by omega, e1, sL_n mt41 (by omega) (by decide), nI_1]
      refine (ih (k + 1) (wL h (q + 41) (32 * c + d - u - v + k) (w (d + k - u))) (by omega) (by omega) lm e40 (fun p hp => ?_)).mono (fun _ g x => ⟨x.1, x.2.1, (Fm.wb (A := A41 q) (Or.inr rfl) (by omega)).trans x.2.2.1, (mw_o2 (by omega) (by omega)).trans x.2.2.2⟩)
      by_cases z : p = d - v - u + k
      · subst z
        rw [show 32 * c + (d - v - u + k) = 32 * c + d - u - v + k by omega, hL_wL_s, if_pos (by omega)]
        congr 1; omega
      · rw [hL_wL_k (by omega), hw p hp]
        by_cases y : d - v - u ≤ p ∧ p < d - v - u + k
        · rw [if_pos y, if_pos (by omega)]
        · rw [if_neg y, if_neg (show ¬ (d - v - u ≤ p ∧ p < d - v - u + (k + 1)) by omega)]
    · have ek : k = u := by omega
      subst ek
      rw [if_neg ck, gR_ok mt0, mr40, aI_n mt40 hc (by decide), e40, sI_n mt40 hc (by decide), nI_add]
      refine ok_some ⟨hI_wI_s, fun p hp => ?_, Fm.wa (Or.inl rfl) (by omega), mw_o2i⟩
      show hL h (q + 41) (32 * c + p) = _
      rw [hw p (by omega)]
      unfold cpu
      by_cases p1 : p < d - v - k
      · rw [if_neg (by omega), if_neg (by omega), if_pos p1]
      · rw [if_neg p1]
        by_cases p2 : p < d - v
        · rw [if_pos (by omega), if_pos p2]
        · rw [if_neg (by omega), if_pos (by omega), if_neg p2]
theorem mw_118 {w : Nat → Int64} {u v : Nat} (hu : 1 ≤ u) (hu2 : u ≤ 2) (hv : v ≤ 2) (hd : u + v ≤ d) (hd12 : d ≤ 12) (hc : c < 6) : ∀ (f j : Nat) (h : Hp), j ≤ u + v → j < f → LM (hT h) (hR h) q → hI h (q + 40) c = nI d → (∀ p, p < 32 → hL h (q + 41) (32 * c + p) = if d - v - u + j + u ≤ p ∧ p < d + u then w (p - u) else w p) → Ok (BX12_moveWords_118 f (some q) (nI c) (nI (32 * c)) (nI d) (nI u) (nI v) (nI j + (-1)) h) (MvQ q c (d + u) (cpu w d v u) h) := by
  intro f
  induction f with
  | zero => intro j h h1 h2; omega
  | succ f ih =>
    intro j h h1 h2 lm e40 hw
    obtain ⟨mt0, ⟨mr1, mt1⟩, ⟨mr2, mt2⟩, ⟨mr3, mt3⟩, ⟨mr4, mt4⟩, ⟨mr5, mt5⟩, ⟨mr6, mt6⟩, ⟨mr7, mt7⟩, ⟨mr8, mt8⟩, ⟨mr9, mt9⟩, ⟨mr10, mt10⟩, ⟨mr11, mt11⟩, ⟨mr12, mt12⟩, ⟨mr13, mt13⟩, ⟨mr14, mt14⟩, ⟨mr15, mt15⟩, ⟨mr16, mt16⟩, ⟨mr17, mt17⟩, ⟨mr18, mt18⟩, ⟨mr19, mt19⟩, ⟨mr20, mt20⟩, ⟨mr21, mt21⟩, ⟨mr22, mt22⟩, ⟨mr23, mt23⟩, ⟨mr24, mt24⟩, ⟨mr25, mt25⟩, ⟨mr26, mt26⟩, ⟨mr27, mt27⟩, ⟨mr28, mt28⟩, ⟨mr29, mt29⟩, ⟨mr30, mt30⟩, ⟨mr31, mt31⟩, ⟨mr32, mt32⟩, ⟨mr33, mt33⟩, ⟨mr34, mt34⟩, ⟨mr35, mt35⟩, ⟨mr36, mt36⟩, ⟨mr37, mt37⟩, ⟨mr38, mt38⟩, ⟨mr39, mt39⟩, ⟨mr40, mt40⟩, ⟨mr41, mt41⟩, ⟨mr42, mt42⟩, ⟨mr43, mt43⟩⟩ := id lm
    unfold BX12_moveWords_118
    cases j with
    | zero =>
      rw [if_pos (by decide), nI_c0]
      refine mw_171 hu hu2 hv hd hd12 hc 100000 0 h (by omega) (by omega) lm e40 (fun p hp => ?_)
      rw [hw p hp, if_neg (show ¬ (d - v - u ≤ p ∧ p < d - v - u + 0) by omega), show d - v - u + 0 + u = d - v by omega]
    | succ k =>
      have e1 := hw (d - v - u + k) (by omega)
      rw [if_neg (by omega)] at e1
      rw [pk_m1, if_neg (nI_pos (by omega)), gR_ok mt0, mr41, gR_ok mt0, mr41, nI_add, pk_sub (by omega), pk_sub (by omega), nI_add, aL_n mt41 (by omega) (by decide), show 32 * c + d - u - v + k = 32 * c + (d - v - u + k) by omega, e1, nI_add, sL_n mt41 (by omega) (by decide)]
      refine (ih k (wL h (q + 41) (32 * c + (d - v - u + k) + u) (w (d - v - u + k))) (by omega) (by omega) lm e40 (fun p hp => ?_)).mono (fun _ g x => ⟨x.1, x.2.1, (Fm.wb (A := A41 q) (Or.inr rfl) (by omega)).trans x.2.2.1, (mw_o2 (by omega) (by omega)).trans x.2.2.2⟩)
      by_cases z : p = d - v - u + k + u
      · subst z
        rw [show 32 * c + (d - v - u + k + u) = 32 * c + (d - v - u + k) + u by omega, hL_wL_s, if_pos (by omega)]
        congr 1; omega
      · rw [hL_wL_k (by omega), hw p hp]
        by_cases y : d - v - u + (k + 1) + u ≤ p ∧ p < d + u
        · rw [if_pos y, if_pos (by omega)]
        · rw [if_neg y, if_neg (show ¬ (d - v - u + k + u ≤ p ∧ p < d + u) by omega)]
theorem mw_raw {op : Nat} (lm : LM (hT h) (hR h) q) (h1 : 8 ≤ op) (h2 : op ≤ 16) (hu : mvU op + mvV op ≤ d) (hd12 : d ≤ 12) (hc : c < 6) (e40 : hI h (q + 40) c = nI d) : Ok (FX12_moveWords (some q) (nI c) (nI op) h) (MvQ q c (mvD op d) (mvS op d (fun p => hL h (q + 41) (32 * c + p))) h) := by
  obtain ⟨mt0, ⟨mr1, mt1⟩, ⟨mr2, mt2⟩, ⟨mr3, mt3⟩, ⟨mr4, mt4⟩, ⟨mr5, mt5⟩, ⟨mr6, mt6⟩, ⟨mr7, mt7⟩, ⟨mr8, mt8⟩, ⟨mr9, mt9⟩, ⟨mr10, mt10⟩, ⟨mr11, mt11⟩, ⟨mr12, mt12⟩, ⟨mr13, mt13⟩, ⟨mr14, mt14⟩, ⟨mr15, mt15⟩, ⟨mr16, mt16⟩, ⟨mr17, mt17⟩, ⟨mr18, mt18⟩, ⟨mr19, mt19⟩, ⟨mr20, mt20⟩, ⟨mr21, mt21⟩, ⟨mr22, mt22⟩, ⟨mr23, mt23⟩, ⟨mr24, mt24⟩, ⟨mr25, mt25⟩, ⟨mr26, mt26⟩, ⟨mr27, mt27⟩, ⟨mr28, mt28⟩, ⟨mr29, mt29⟩, ⟨mr30, mt30⟩, ⟨mr31, mt31⟩, ⟨mr32, mt32⟩, ⟨mr33, mt33⟩, ⟨mr34, mt34⟩, ⟨mr35, mt35⟩, ⟨mr36, mt36⟩, ⟨mr37, mt37⟩, ⟨mr38, mt38⟩, ⟨mr39, mt39⟩, ⟨mr40, mt40⟩, ⟨mr41, mt41⟩, ⟨mr42, mt42⟩, ⟨mr43, mt43⟩⟩ := id lm
  obtain ⟨b1, b2, b3⟩ := mv_b h1 h2
  unfold FX12_moveWords
  rw [gR_ok mt0, mr40, aI_n mt40 hc (by decide), e40, nl_10, if_lt (by omega) (by decide), nl_16, if_eq (by omega) (by decide)]
  unfold mvD mvS
  by_cases c9 : op ≤ 9
  · have e7 : op - 7 = mvU op := by
      rcases (show op = 8 ∨ op = 9 by omega) with rfl | rfl <;> rfl
    rw [if_pos c9, if_pos c9, if_pos (by omega), gR_ok mt0, mr40, aI_n mt40 hc (by decide), e40, nl_7, pk_sub (by omega), e7, pk_sub (by omega), sI_n mt40 hc (by decide)]
    exact ok_some ⟨hI_wI_s, fun p hp => rfl, Fm.wa (Or.inl rfl) (by omega), mw_o2i⟩
  · rw [if_neg c9, if_neg c9, if_neg (by omega)]
    by_cases c16 : op = 16
    · have e2 : mvU op + mvV op = 2 := by subst c16; rfl
      rw [if_pos c16, if_pos c16, if_pos c16, gR_ok mt0, mr41, nl_32, pk_mul, nI_add, nI_p1 (by omega), aL_n mt41 (by omega) (by decide), gR_ok mt0, mr41, gR_ok mt0, mr41, nl_2, pk_sub (by omega), aL_n mt41 (by omega) (by decide), sL_n mt41 (by omega) (by decide), gR_ok (show hT (wL h (q + 41) (32 * c + d - 1) (hL h (q + 41) (32 * c + d - 2))) q = _ from mt0), show hR (wL h (q + 41) (32 * c + d - 1) (hL h (q + 41) (32 * c + d - 2))) q 51 = _ from mr41, sL_n (show hT (wL h (q + 41) (32 * c + d - 1) (hL h (q + 41) (32 * c + d - 2))) (q + 41) = _ from mt41) (by omega) (by decide)]
      refine ok_some ⟨e40, fun p hp => ?_, (Fm.wb (A := A41 q) (Or.inr rfl) (by omega)).trans (Fm.wb (Or.inr rfl) (by omega)), (mw_o2 (by omega) (by omega)).trans (mw_o2 (by omega) (by omega))⟩
      by_cases p1 : p = d - 1
      · subst p1
        have e : vp_updL (vp_updL (fun p => hL h (q + 41) (32 * c + p)) (d - 2) (hL h (q + 41) (32 * c + (d - 1)))) (d - 1) (hL h (q + 41) (32 * c + (d - 2))) (d - 1) = hL h (q + 41) (32 * c + (d - 2)) := if_pos rfl
        rw [e, hL_wL_k (by omega), show 32 * c + (d - 1) = 32 * c + d - 1 by omega, hL_wL_s, show 32 * c + (d - 2) = 32 * c + d - 2 by omega]
      · have e : vp_updL (vp_updL (fun p => hL h (q + 41) (32 * c + p)) (d - 2) (hL h (q + 41) (32 * c + (d - 1)))) (d - 1) (hL h (q + 41) (32 * c + (d - 2))) p = vp_updL (fun p => hL h (q + 41) (32 * c + p)) (d - 2) (hL h (q + 41) (32 * c + (d - 1))) p := if_neg p1
        rw [e]
        by_cases p2 : p = d - 2
        · subst p2
          have e : vp_updL (fun p => hL h (q + 41) (32 * c + p)) (d - 2) (hL h (q + 41) (32 * c + (d - 1))) (d - 2) = hL h (q + 41) (32 * c + (d - 1)) := if_pos rfl
          rw [e, show 32 * c + (d - 2) = 32 * c + d - 2 by omega, hL_wL_s, show 32 * c + (d - 1) = 32 * c + d - 1 by omega]
        · have e : vp_updL (fun p => hL h (q + 41) (32 * c + p)) (d - 2) (hL h (q + 41) (32 * c + (d - 1))) p = hL h (q + 41) (32 * c + p) := if_neg p2
          rw [e, hL_wL_k (by omega), hL_wL_k (by omega)]
    · rw [if_neg c16, if_neg c16, if_neg c16, nl_13, if_lt (by omega) (by decide)]
      have go : ∀ u, u = mvU op → Ok (BX12_moveWords_99 (some q) (nI c) (nI op) (nI 32 * nI c) (nI d) (nI u) h) (MvQ q c (d + mvU op) (cpu (fun p => hL h (q + 41) (32 * c + p)) d (mvV op) (mvU op)) h) := by
        intro u eu
        have ev : (op - 10) % 3 = mvV op := by
          rcases (show op = 10 ∨ op = 11 ∨ op = 12 ∨ op = 13 ∨ op = 14 ∨ op = 15 by omega) with rfl | rfl | rfl | rfl | rfl | rfl <;> rfl
        unfold BX12_moveWords_99
        rw [nl_10, pk_sub (by omega), nl_3, pk_rem (by omega) (by decide) (by decide), ev, pk_mul, nI_add, Int32.sub_eq_add_neg, eu]
        refine mw_118 b1 b2 b3 hu hd12 hc 100000 (mvU op + mvV op) h (Nat.le_refl _) (by omega) lm e40 (fun p hp => ?_)
        rw [if_neg (by omega)]
      have e13 : mvU op = if op < 13 then 1 else 2 := by
        rcases (show op = 10 ∨ op = 11 ∨ op = 12 ∨ op = 13 ∨ op = 14 ∨ op = 15 by omega) with rfl | rfl | rfl | rfl | rfl | rfl <;> rfl
      rw [nl_32]
      by_cases c13 : op < 13
      · rw [if_pos c13] at e13 ⊢
        exact go 1 e13.symm
      · rw [if_neg c13] at e13 ⊢
        exact go 2 e13.symm
theorem mw_moves {op e : Nat} {A B : Int32} (mx : MX h q c P (m, i, d, s, l, hn) σ lk T) (h1 : 8 ≤ op) (h2 : op ≤ 16) (htk : j_take P op (cN A) (cN B) d σ = some e) (hd : d ≤ 12) : Ok (FX12_moveWords (some q) (nI c) (nI op) h) (fun _ g => MRz q c h lk (m, i, d, s, l, hn) (j_put P op (cN A) (cN B) e σ lk) (x_op P op A B (m, i, d, s, l, hn) T) g) := by
  obtain ⟨lm, pm, mth, msk, mlc, mhd, -, hc⟩ := id mx
  have msk : MSk h q c d σ s := msk
  have hm : mok op d σ = true ∧ e = d := by
    unfold j_take at htk
    rw [if_pos ⟨h1, h2⟩] at htk
    by_cases z : mok op d σ = true
    · rw [if_pos z] at htk
      injection htk with htk
      exact ⟨z, htk.symm⟩
    · rw [if_neg z] at htk; cases htk
  have hu := (of_decide_eq_true hm.1).1
  obtain ⟨b1, b2, b3⟩ := mv_b h1 h2
  refine (mw_raw lm h1 h2 hu hd hc msk.1.1).mono (fun _ g x => ?_)
  obtain ⟨x1, x2, x3, x4⟩ := x
  rw [hm.2]
  unfold x_op j_put
  rw [if_pos ⟨h1, h2⟩, if_pos ⟨h1, h2⟩]
  have hD : mvD op d ≤ 14 := by
    unfold mvD
    split
    · omega
    · split <;> omega
  refine mr_ok mx x3 x4 ⟨⟨x1, hD⟩, fun p hp hs => ?_⟩
  obtain ⟨r, hr, e1, e2⟩ := mv_src h1 h2 hu hp
  rw [e1] at hs
  rw [x2 p hp, e2, e2]
  exact msk.2 r hr hs
/-- a jump: whether it leads, and where -/
def LdQ (q c : Nat) (h : Hp) (lk : Nat → Nat) (x : Cl) (S : Sh) (R : Option (Nat × Option Nat) × Cl × Th) (i : Nat) : Int32 → Hp → Prop := fun r g => MRz q c h lk x S R g ∧ ((r = 1 ∧ hI g q 66 = nI R.2.1.2.1) ∨ (r = 0 ∧ R.2.1.2.1 = i + 1))
theorem ld_187 (pw : PW P) {t : Nat} {x : Int32} (ht : t < p_nt P) : ∀ (f k : Nat) (h : Hp), k ≤ p_ne P t → p_ne P t - k < f → LM (hT h) (hR h) q → PM h q P → hI h q 66 = nI (match (List.range k).find? (fun e => decide (p_ky P t e = x)) with | some e => p_tt P t e | none => p_ot P t) → Ok (BX12_leads_187 f (some q) (nI t) x (nI k) h) (fun r g => r = 1 ∧ hI g q 66 = nI (p_key P t x) ∧ Fm q (fun k => k = 66) F40 h g) := by
  have wt := pw.2.2.2.2 t ht
  have hnt := pw.2.2.1
  have hne := wt.2.1
  intro f
  induction f with
  | zero => intro k h h1 h2; omega
  | succ f ih =>
    intro k h h1 h2 lm pm e66
    obtain ⟨mt0, ⟨mr1, mt1⟩, ⟨mr2, mt2⟩, ⟨mr3, mt3⟩, ⟨mr4, mt4⟩, ⟨mr5, mt5⟩, ⟨mr6, mt6⟩, ⟨mr7, mt7⟩, ⟨mr8, mt8⟩, ⟨mr9, mt9⟩, ⟨mr10, mt10⟩, ⟨mr11, mt11⟩, ⟨mr12, mt12⟩, ⟨mr13, mt13⟩, ⟨mr14, mt14⟩, ⟨mr15, mt15⟩, ⟨mr16, mt16⟩, ⟨mr17, mt17⟩, ⟨mr18, mt18⟩, ⟨mr19, mt19⟩, ⟨mr20, mt20⟩, ⟨mr21, mt21⟩, ⟨mr22, mt22⟩, ⟨mr23, mt23⟩, ⟨mr24, mt24⟩, ⟨mr25, mt25⟩, ⟨mr26, mt26⟩, ⟨mr27, mt27⟩, ⟨mr28, mt28⟩, ⟨mr29, mt29⟩, ⟨mr30, mt30⟩, ⟨mr31, mt31⟩, ⟨mr32, mt32⟩, ⟨mr33, mt33⟩, ⟨mr34, mt34⟩, ⟨mr35, mt35⟩, ⟨mr36, mt36⟩, ⟨mr37, mt37⟩, ⟨mr38, mt38⟩, ⟨mr39, mt39⟩, ⟨mr40, mt40⟩, ⟨mr41, mt41⟩, ⟨mr42, mt42⟩, ⟨mr43, mt43⟩⟩ := id lm
    obtain ⟨⟨v1, v2, v3, v4⟩, v5⟩ := pm.2.2.1 t ht
    unfold BX12_leads_187
    rw [gR_ok mt0, mr19, aI_n mt19 (by omega) (by decide), v4, if_lt (by omega) (by omega)]
    by_cases ck : k < p_ne P t
    · obtain ⟨w1, w2⟩ := v5 k ck
      rw [if_pos ck, gR_ok mt0, mr20, nl_8, pk_mul, nI_add, aI_n mt20 (by omega) (by decide), w1]
      have e66s : ∀ y, hI (wI h q 66 y) q 66 = y := fun y => hI_wI_s
      have fs : ∀ y, Fm q (fun k => k = 66) F40 h (wI h q 66 y) := fun y => Fm.fI rfl
      by_cases ce : p_ky P t k = x
      · have hf : (List.range (k + 1)).find? (fun e => decide (p_ky P t e = x)) = some k := by
          rw [List.find?_range_eq_some]
          refine ⟨decide_eq_true ce, List.mem_range.mpr (by omega), fun j hj => ?_⟩
          rw [decide_eq_false]
          · rfl
          · intro z
            have := wt.2.2.2.2.2 j k hj ck
            rw [z, ce] at this
            omega
        rw [if_pos ce, gR_ok mt0, mr21, aI_n mt21 (by omega) (by decide), w2]
        unfold BX12_leads_235
        rw [pI_ok mt0, nI_1]
        refine (ih (k + 1) (wI h q 66 (nI (p_tt P t k))) (by omega) (by omega) lm (pm.fm (fs _) (fun _ _ _ z => z) ⟨by decide, by decide, by decide⟩) ?_).mono (fun r g y => ⟨y.1, y.2.1, (fs _).trans y.2.2⟩)
        rw [e66s, hf]
      · have hf : (List.range (k + 1)).find? (fun e => decide (p_ky P t e = x)) = (List.range k).find? (fun e => decide (p_ky P t e = x)) := by
          rw [List.range_succ, List.find?_append]
          have : List.find? (fun e => decide (p_ky P t e = x)) [k] = none := by simp [ce]
          rw [this, Option.or_none]
        rw [if_neg ce, gI_ok mt0]
        unfold BX12_leads_235
        rw [pI_ok mt0, nI_1]
        refine (ih (k + 1) (wI h q 66 (hI h q 66)) (by omega) (by omega) lm (pm.fm (fs _) (fun _ _ _ z => z) ⟨by decide, by decide, by decide⟩) ?_).mono (fun r g y => ⟨y.1, y.2.1, (fs _).trans y.2.2⟩)
        rw [e66s, hf]; exact e66
    · have ek : k = p_ne P t := by omega
      subst ek
      rw [if_neg ck]
      exact ok_some ⟨rfl, e66, Fm.refl⟩
theorem m_leads {op e : Nat} {A B : Int32} (mx : MX h q c P (m, i, d, s, l, hn) σ lk T) (pw : PW P) (h1 : 20 ≤ op) (h2 : op ≤ 23) (hod : j_od P op A B = true) (hA : op ≤ 22 → ∃ a, a < 60 ∧ A = nI a) (htk : takeL σ (j_tk P op (cN A) (cN B)) d = some e) (hd : d ≤ 12) (ty : TSt T.1 d σ s) (h60 : T.1 ≤ 60) : Ok (FX12_leads (some q) (nI c) (nI op) A B h) (LdQ q c h lk (m, i, d, s, l, hn) (j_put P op (cN A) (cN B) e σ lk) (x_op P op A B (m, i, d, s, l, hn) T) i) := by
  obtain ⟨lm, pm, mth, msk, mlc, mhd, ⟨e64, e65⟩, hc⟩ := id mx
  have msk : MSk h q c d σ s := msk
  have t0 : hT h q = some (.inl 11) := lm.1
  have ep : j_pt P op (cN A) (cN B) = 5 := by
    rcases (show op = 20 ∨ op = 21 ∨ op = 22 ∨ op = 23 by omega) with rfl | rfl | rfl | rfl <;> rfl
  have ev : x_val P op A B d s l hn i T = x_go P op (cN A) (cN B) d s hn i T := by
    rcases (show op = 20 ∨ op = 21 ∨ op = 22 ∨ op = 23 by omega) with rfl | rfl | rfl | rfl <;> rfl
  obtain ⟨k1, k2⟩ := tkL _ htk
  rw [xop_v (by omega) (by omega) (by omega), jput_v (by omega) (by omega), ep, ev, ← k2]
  have es : Sx e 5 σ lk = (e, σ, lk) := by unfold Sx; rw [if_pos rfl]
  rw [es]
  unfold xw x_go xo
  dsimp only
  rw [if_pos rfl, if_pos rfl]
  unfold FX12_leads
  rw [pI_ok t0]
  have f1 : Fm q (fun k => k = 66) F40 h (wI h q 66 A) := Fm.fI rfl
  have e66 : hI (wI h q 66 A) q 66 = A := hI_wI_s
  generalize wI h q 66 A = g1 at f1 e66 ⊢
  have lm1 := lm.fm f1
  have pm1 := pm.fm f1 (fun _ _ _ z => z) ⟨by decide, by decide, by decide⟩
  have msk1 : MSk g1 q c d σ s := msk.fm f1 (fun z => z) (fun z => z)
  -- the end, whichever way
  have fin : ∀ (g : Hp) (D n : Nat) (r : Int32), Fm q (fun k => k = 66) (A41 q) h g → Fo2 q c h g → MSk g q c D σ s → D = e → ((r = 1 ∧ hI g q 66 = nI n) ∨ (r = 0 ∧ n = i + 1)) → LdQ q c h lk (m, i, d, s, l, hn) (e, σ, lk) (none, (m, n, e, s, l, hn), T) i r g := by
    intro g D n r ff fo w hD hr
    subst hD
    refine ⟨⟨ff.mono (fun k z => Or.inr (Or.inr (Or.inr (Or.inr z)))) a41w, fo, ⟨by rw [(ff.2.2.2.1 (q + 38) (by omega) (n41 (by omega) (by omega))).1], by rw [(ff.2.2.2.1 (q + 39) (by omega) (n41 (by omega) (by omega))).1]⟩, mth.fm ff ⟨by decide, by decide⟩ (fun b h1 h2 => n41 (by omega) (by omega)), ?_, w, mlc.fm ff (n41 (by omega) (by omega)), mhd.fm ff (n41 (by omega) (by omega))⟩, hr⟩
    rw [(ff.2.2.2.2 64 (by decide)).1]; exact e64
  by_cases c20 : op = 20
  · subst c20
    obtain ⟨a, ha, rfl⟩ := hA (by omega)
    have k2 : e = d := k2
    rw [if_pos (show nI 20 = 20 from rfl), if_pos rfl, cN_n (by omega)]
    exact ok_some (fin g1 d a 1 (f1.mono (fun _ z => z) (fun _ z => z.elim)) (o2_fm f1 (fun _ _ _ z => z)) msk1 k2.symm (Or.inl ⟨rfl, e66⟩))
  · rw [nl_20, if_eq (by omega) (by decide), if_neg c20, if_neg c20, nl_22, if_eq (by omega) (by decide)]
    have w0 : wd 0 = 1 := rfl
    have w4 : wd 4 = 1 := rfl
    have lfm : ∀ {g : Hp}, Fm q F40 (A41 q) g1 g → Fm q (fun k => k = 66) (A41 q) h g := fun x => (f1.mono (fun _ z => z) (fun _ z => z.elim)).trans (x.mono (fun _ z => z.elim) (fun _ z => z))
    by_cases c22 : op = 22
    · subst c22
      obtain ⟨a, ha, rfl⟩ := hA (by omega)
      have htk : takeL σ [4] d = some e := htk
      obtain ⟨g4, g5, g6⟩ := tk_hd htk
      rw [w4] at g4 g5
      have k2 : e = d - 1 := k2
      have ho : wi B 2 = true := hod
      obtain ⟨b, hb, rfl, ecb⟩ := wi_ex (by decide) ho
      rw [if_pos rfl, rcv_ok lm1.1, if_neg (by decide), if_pos rfl, ecb, cN_n (show a < 2 ^ 31 by omega)]
      refine ok_cl (m_take (k := 4) lm1 msk1 hc (by decide) g4 g5) (fun r g x => ?_)
      obtain ⟨rfl, x2, x3, x4⟩ := x
      have x2 : MSk g q c (d - 1) σ s := x2
      have ty4 := ty (d - 1) (by omega)
      rw [g5] at ty4
      have e66g : hI g q 66 = nI a := by rw [(x3.2.2.2.2 66 (fun z => z)).1]; exact e66
      have eq1 : (s (d - wd 4) = -1) ↔ (s (d - 1)).toInt32 = -1 := by
        rw [w4]
        rcases ty4.2 rfl with z | ⟨j, hj, z⟩
        · rw [z]; exact ⟨fun _ => rfl, fun _ => rfl⟩
        · rw [z, lN_32 (by omega)]
          exact ⟨fun y => absurd y (lN_nm1 (by omega)), fun y => absurd y (nI_nm1 (by omega))⟩
      have fo := (o2_fm (c := c) f1 (fun _ _ _ z => z)).trans x4
      have jt : ∀ {n : Nat}, n = a → Ok (some ((1 : Int32), g)) (LdQ q c h lk (m, i, d, s, l, hn) (e, σ, lk) (none, (m, n, e, s, l, hn), T) i) := fun hn => ok_some (fin g (d - 1) _ 1 (lfm x3) fo x2 k2.symm (Or.inl ⟨rfl, by rw [hn]; exact e66g⟩))
      have jf : ∀ {n : Nat}, n = i + 1 → Ok (some ((0 : Int32), g)) (LdQ q c h lk (m, i, d, s, l, hn) (e, σ, lk) (none, (m, n, e, s, l, hn), T) i) := fun hn => ok_some (fin g (d - 1) _ 0 (lfm x3) fo x2 k2.symm (Or.inr ⟨rfl, hn⟩))
      unfold BX12_leads_37 BX12_leads_47
      by_cases y1 : s (d - wd 4) = -1
      · rw [if_pos y1, ie_0 (by omega)]
        have y1' := eq1.mp y1
        by_cases y2 : b = 0
        · rw [if_pos y2, if_pos rfl, bz_1]
          exact jt (if_pos ⟨fun _ => y2, fun _ => y1'⟩)
        · rw [if_neg y2, if_neg (by decide), bz_0]
          exact jf (if_neg (fun z => y2 (z.mp y1')))
      · rw [if_neg y1, ie_0 (by omega)]
        have y1' : ¬ (s (d - 1)).toInt32 = -1 := fun z => y1 (eq1.mpr z)
        by_cases y2 : b = 0
        · rw [if_pos y2, if_neg (by decide), bz_0]
          exact jf (if_neg (fun z => y1' (z.mpr y2)))
        · rw [if_neg y2, if_pos rfl, bz_1]
          exact jt (if_pos ⟨fun z => absurd z y1', fun z => absurd z y2⟩)
    · have ht0 : j_tk P op (cN A) (cN B) = [0] := by
        rcases (show op = 21 ∨ op = 23 by omega) with rfl | rfl <;> rfl
      rw [ht0] at htk k2
      obtain ⟨g4, g5, g6⟩ := tk_hd htk
      rw [w0] at g4 g5
      have k2 : e = d - 1 := k2
      rw [if_neg c22, rcv_ok lm1.1]
      unfold FX12_takeInt
      rw [rcv_ok lm1.1, nI_c0]
      have tk : Ok (cl (FX12_take (some q) (nI c) (nI 0) g1) fun v1 h2 => some (Int64.toInt32 v1, h2)) (fun r g => r = (s (d - 1)).toInt32 ∧ MSk g q c (d - 1) σ s ∧ Fm q F40 (A41 q) g1 g ∧ Fo2 q c g1 g) := by
        refine ok_cl (m_take (k := 0) lm1 msk1 hc (by decide) g4 g5) (fun r g x => ok_some ?_)
        obtain ⟨rfl, x2, x3, x4⟩ := x
        exact ⟨rfl, x2, x3, x4⟩
      refine ok_cl tk (fun r g x => ?_)
      obtain ⟨rfl, x2, x3, x4⟩ := x
      have fo := (o2_fm (c := c) f1 (fun _ _ _ z => z)).trans x4
      have e66g : hI g q 66 = A := by rw [(x3.2.2.2.2 66 (fun z => z)).1]; exact e66
      rw [nl_21, if_eq (by omega) (by decide)]
      by_cases c21 : op = 21
      · subst c21
        obtain ⟨a, ha, rfl⟩ := hA (by omega)
        have ho : wi B 6 = true := hod
        obtain ⟨b, hb, rfl, ecb⟩ := wi_ex (by decide) ho
        rw [if_pos rfl, if_pos rfl, ecb, cN_n (show a < 2 ^ 31 by omega)]
        have pasq : Ok (some (b2i (c_pas b (s (d - 1)).toInt32), g)) (LdQ q c h lk (m, i, d, s, l, hn) (e, σ, lk) (none, (m, (if c_pas b (s (d - 1)).toInt32 = true then a else i + 1), e, s, l, hn), T) i) := by
          cases hp : c_pas b (s (d - 1)).toInt32 with
          | true => exact ok_some (fin g (d - 1) a 1 (lfm x3) fo x2 k2.symm (Or.inl ⟨rfl, e66g⟩))
          | false => exact ok_some (fin g (d - 1) (i + 1) 0 (lfm x3) fo x2 k2.symm (Or.inr ⟨rfl, rfl⟩))
        have pf := f_pas hb (s (d - 1)).toInt32 g
        rw [← pf] at pasq
        unfold FX3_passes at pasq
        rcases (show b = 0 ∨ b = 1 ∨ b = 2 ∨ b = 3 ∨ b = 4 ∨ b = 5 by omega) with rfl | rfl | rfl | rfl | rfl | rfl <;> exact pasq
      · have c23 : op = 23 := by omega
        subst c23
        have ho : wi A (p_nt P) = true := hod
        have hnt := pw.2.2.1
        obtain ⟨a, ha, rfl, eca⟩ := wi_ex (by omega) ho
        have lmg := lm1.fm x3
        have pmg := pm1.fm x3 (fun b h1 h2 => n41 (by omega) (by omega)) ⟨fun z => z, fun z => z, fun z => z⟩
        have wt := pw.2.2.2.2 a ha
        obtain ⟨⟨v1, v2, v3, v4⟩, v5⟩ := pmg.2.2.1 a ha
        have r20 : hR g q 20 = some (q + 18) := by have lm := lmg; obtain ⟨mt0, ⟨mr1, mt1⟩, ⟨mr2, mt2⟩, ⟨mr3, mt3⟩, ⟨mr4, mt4⟩, ⟨mr5, mt5⟩, ⟨mr6, mt6⟩, ⟨mr7, mt7⟩, ⟨mr8, mt8⟩, ⟨mr9, mt9⟩, ⟨mr10, mt10⟩, ⟨mr11, mt11⟩, ⟨mr12, mt12⟩, ⟨mr13, mt13⟩, ⟨mr14, mt14⟩, ⟨mr15, mt15⟩, ⟨mr16, mt16⟩, ⟨mr17, mt17⟩, ⟨mr18, mt18⟩, ⟨mr19, mt19⟩, ⟨mr20, mt20⟩, ⟨mr21, mt21⟩, ⟨mr22, mt22⟩, ⟨mr23, mt23⟩, ⟨mr24, mt24⟩, ⟨mr25, mt25⟩, ⟨mr26, mt26⟩, ⟨mr27, mt27⟩, ⟨mr28, mt28⟩, ⟨mr29, mt29⟩, ⟨mr30, mt30⟩, ⟨mr31, mt31⟩, ⟨mr32, mt32⟩, ⟨mr33, mt33⟩, ⟨mr34, mt34⟩, ⟨mr35, mt35⟩, ⟨mr36, mt36⟩, ⟨mr37, mt37⟩, ⟨mr38, mt38⟩, ⟨mr39, mt39⟩, ⟨mr40, mt40⟩, ⟨mr41, mt41⟩, ⟨mr42, mt42⟩, ⟨mr43, mt43⟩⟩ := id lm; exact mr18
        have t18 : hT g (q + 18) = some (.inr (.int, 8)) := by have lm := lmg; obtain ⟨mt0, ⟨mr1, mt1⟩, ⟨mr2, mt2⟩, ⟨mr3, mt3⟩, ⟨mr4, mt4⟩, ⟨mr5, mt5⟩, ⟨mr6, mt6⟩, ⟨mr7, mt7⟩, ⟨mr8, mt8⟩, ⟨mr9, mt9⟩, ⟨mr10, mt10⟩, ⟨mr11, mt11⟩, ⟨mr12, mt12⟩, ⟨mr13, mt13⟩, ⟨mr14, mt14⟩, ⟨mr15, mt15⟩, ⟨mr16, mt16⟩, ⟨mr17, mt17⟩, ⟨mr18, mt18⟩, ⟨mr19, mt19⟩, ⟨mr20, mt20⟩, ⟨mr21, mt21⟩, ⟨mr22, mt22⟩, ⟨mr23, mt23⟩, ⟨mr24, mt24⟩, ⟨mr25, mt25⟩, ⟨mr26, mt26⟩, ⟨mr27, mt27⟩, ⟨mr28, mt28⟩, ⟨mr29, mt29⟩, ⟨mr30, mt30⟩, ⟨mr31, mt31⟩, ⟨mr32, mt32⟩, ⟨mr33, mt33⟩, ⟨mr34, mt34⟩, ⟨mr35, mt35⟩, ⟨mr36, mt36⟩, ⟨mr37, mt37⟩, ⟨mr38, mt38⟩, ⟨mr39, mt39⟩, ⟨mr40, mt40⟩, ⟨mr41, mt41⟩, ⟨mr42, mt42⟩, ⟨mr43, mt43⟩⟩ := id lm; exact mt18
        rw [if_neg (by decide), if_neg (by decide), if_neg (by decide), eca, gR_ok lmg.1, r20, aI_n t18 (by omega) (by decide), v3, pI_ok lmg.1]
        have f2 : Fm q (fun k => k = 66) F40 g (wI g q 66 (nI (p_ot P a))) := Fm.fI rfl
        have := ld_187 (P := P) (x := (s (d - 1)).toInt32) pw ha 100000 0 (wI g q 66 (nI (p_ot P a))) (by omega) (by have := wt.2.1; omega) (lmg.fm f2) (pmg.fm f2 (fun _ _ _ z => z) ⟨by decide, by decide, by decide⟩) hI_wI_s
        rw [← nI_c0] at this
        rw [← nI_c0]
        refine this.mono (fun r g' y => ?_)
        obtain ⟨rfl, y2, y3⟩ := y
        have f3 := f2.trans y3
        exact fin g' (d - 1) _ 1 ((lfm x3).trans (f3.mono (fun _ z => z) (fun _ z => z.elim))) (fo.trans (o2_fm f3 (fun _ _ _ z => z))) (x2.fm f3 (fun z => z) (fun z => z)) k2.symm (Or.inl ⟨rfl, y2⟩)
end MM
