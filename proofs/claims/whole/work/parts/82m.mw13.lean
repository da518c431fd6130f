/-! the model: one operation -/
def NXo (i : Nat) (X : Xr) : Prop := X.1 = none → X.2.2.2.1 = i + 1
section MB
variable {q : Nat} {P : Pg} {tt : Nat → Tab}
theorem nx_o {i : Nat} {v : Int64} {hn : Nat → Nat} {T : Th} : NXo i (xo v hn (i + 1) T) := fun _ => rfl
theorem nx_f {i j f : Nat} {hn : Nat → Nat} {T : Th} : NXo i (xf f hn j T) := fun z => by cases z
theorem nx_t {i j f t : Nat} {hn : Nat → Nat} {T : Th} : NXo i (xft f t hn j T) := fun z => by cases z
theorem nx_v {op : Nat} {A B : Int32} {d : Nat} {s l : Nat → Int64} {hn : Nat → Nat} {i : Nat} {T : Th} (hop : ¬ (20 ≤ op ∧ op < 24)) : NXo i (x_val P op A B d s l hn i T) := by
  unfold x_val
  split
  · exact nx_o
  · split
    · exact nx_o
    · split
      · exact nx_o
      · split
        · exact nx_o
        · split
          · unfold x_num
            split
            · split
              · exact nx_f
              · split
                · exact nx_o
                · split
                  · exact nx_o
                  · exact nx_o
            · split
              · exact nx_o
              · exact nx_o
          · split
            · omega
            · split
              · unfold x_arr x_put
                split
                · split
                  · exact nx_f
                  · split
                    · exact nx_o
                    · exact nx_f
                · split
                  · split
                    · exact nx_f
                    · exact nx_o
                  · split
                    · split
                      · exact nx_f
                      · split
                        · exact nx_f
                        · exact nx_o
                    · split
                      · split
                        · exact nx_f
                        · split
                          · exact nx_f
                          · exact nx_o
                      · split
                        · exact nx_o
                        · split
                          · exact nx_o
                          · exact nx_f
              · unfold x_fm
                split
                · split
                  · exact nx_f
                  · exact nx_o
                · split
                  · exact nx_f
                  · split
                    · split
                      · exact nx_t
                      · exact nx_f
                    · split
                      · exact nx_o
                      · split
                        · exact nx_f
                        · exact nx_o
theorem xop_nx {op : Nat} {A B : Int32} {c : Cl} {T : Th} (hop : ¬ (20 ≤ op ∧ op < 24)) (h : (x_op P op A B c T).1 = none) : (x_op P op A B c T).2.1.2.1 = c.2.1 + 1 := by
  unfold x_op at h ⊢
  by_cases c1 : 8 ≤ op ∧ op ≤ 16
  · rw [if_pos c1]
  · rw [if_neg c1] at h ⊢
    by_cases c6 : op = 6
    · rw [if_pos c6]
    · rw [if_neg c6] at h ⊢
      by_cases c7 : op = 7
      · rw [if_pos c7]
      · rw [if_neg c7] at h ⊢
        exact nx_v hop h
theorem xop_no {op : Nat} {A B : Int32} {c : Cl} {T : Th} (hop : op < 8 ∨ (8 ≤ op ∧ op ≤ 16) ∨ (20 ≤ op ∧ op < 24)) : (x_op P op A B c T).1 = none := by
  unfold x_op
  by_cases c1 : 8 ≤ op ∧ op ≤ 16
  · rw [if_pos c1]
  · rw [if_neg c1]
    by_cases c6 : op = 6
    · rw [if_pos c6]
    · rw [if_neg c6]
      by_cases c7 : op = 7
      · rw [if_pos c7]
      · rw [if_neg c7]
        show (x_val P op A B _ _ _ _ _ T).1 = none
        unfold x_val
        split
        · rfl
        · split
          · rfl
          · split
            · rfl
            · split
              · rfl
              · rw [if_neg (by omega), if_pos (by omega)]; rfl
theorem fwk : ∀ k, FW k → FWk k := fun k z => by unfold FW at z; unfold FWk; omega
theorem nfw {k : Nat} (h : k ≠ 40 ∧ k ≠ 46 ∧ k ≠ 64 ∧ k ≠ 65 ∧ k ≠ 66) : ¬ FW k := fun z => by unfold FW at z; omega
theorem mb_ok {h g : Hp} {n : Nat} {C : Nat → Cl} {T : Th} {R : (Int32 × Int32 × Int32) × (Nat × Nat × Nat) × Int64} {lk : Nat → Nat} {S : Sh} {X : Option (Nat × Option Nat) × Cl × Th} (mw : MW h q P tt ((n + 1, C), T, R)) (mr : MRz q n h lk (C n) S X g) (hX : X.1 = none) (hm : X.2.1.1 = (C n).1) (hS : X.2.1.2.2.1 = S.1) (cm : Cmp (tt (C n).1) X.2.1.2.1 S) : Fm q FWk (AW q) h (wI g (q + 39) n (nI X.2.1.2.1)) ∧ hI (wI g (q + 39) n (nI X.2.1.2.1)) q 64 = -1 ∧ MW (wI g (q + 39) n (nI X.2.1.2.1)) q P tt ((n + 1, va_up C n X.2.1), X.2.2, R) := by
  obtain ⟨X1, ⟨m', nx, d', s', l', hn'⟩, T'⟩ := X
  have hX : X1 = none := hX
  subst hX
  have hm : m' = (C n).1 := hm
  subst hm
  have hS : d' = S.1 := hS
  subst hS
  have cm : Cmp (tt (C n).1) nx S := cm
  obtain ⟨lm, pm, mt, ⟨e47, n6⟩, mc, mk, mf⟩ := mw
  obtain ⟨f1, o1, ⟨e38, e39⟩, mtX, e64, sk, lc, hd⟩ := mr
  have mtX : MTh g q T' := mtX
  have sk : MSk g q n S.1 S.2.1 s' := sk
  have lc : MLc g q n S.2.2 l' := lc
  have hd : MHd g q n hn' := hd
  have f2 : Fm q F40 (fun b => b = q + 39) g (wI g (q + 39) n (nI nx)) := Fm.wa rfl (by omega)
  have o2 : Fo2 q n g (wI g (q + 39) n (nI nx)) := fo_39
  have g39 : hI (wI g (q + 39) n (nI nx)) (q + 39) n = nI nx := hI_wI_s
  show Fm q FWk (AW q) h (wI g (q + 39) n (nI nx)) ∧ hI (wI g (q + 39) n (nI nx)) q 64 = -1 ∧ MW (wI g (q + 39) n (nI nx)) q P tt ((n + 1, va_up C n ((C n).1, nx, S.1, s', l', hn')), T', R)
  generalize wI g (q + 39) n (nI nx) = g2 at f2 o2 g39 ⊢
  have ff : Fm q FW (AW q) h g2 := f1.trans (f2.mono (fun _ z => z.elim) (fun b z => by unfold AW; omega))
  refine ⟨ff.mono fwk (fun _ z => z), by rw [(f2.2.2.2.2 64 (fun z => z)).1]; exact e64, lm.fm ff, pm.fm ff (fun b h1 h2 => nwa b h1 h2) ⟨nfw (by decide), nfw (by decide), nfw (by decide)⟩, mtX.fm f2 ⟨fun z => z, fun z => z⟩ (fun b _ _ => by omega), ⟨by rw [(ff.2.2.2.2 47 (nfw (by decide))).1]; exact e47, n6⟩, fun c hc => ?_, mk.fm ff ⟨nfw (by decide), nfw (by decide), nfw (by decide), nfw (by decide)⟩, mf.fm ff ⟨nfw (by decide), nfw (by decide), nfw (by decide)⟩⟩
  have hc : c < n + 1 := hc
  show MCa g2 q tt c (va_up C n _ c)
  by_cases z : c = n
  · subst z
    rw [va_s]
    obtain ⟨⟨b1, b2⟩, -⟩ := mc c hc
    refine ⟨⟨by rw [(f2.2.2.2.1 (q + 38) (by omega) (by omega)).1, e38]; exact b1, g39⟩, msk_cmp cm (sk.fm f2 (by omega) (by omega)), mlc_cmp cm (lc.fm f2 (by omega)), hd.fm f2 (by omega)⟩
  · rw [va_n _ _ z]
    exact (mc c hc).fo (o1.trans o2) z
theorem mb_no {h g : Hp} {n : Nat} {C : Nat → Cl} {T : Th} {R : (Int32 × Int32 × Int32) × (Nat × Nat × Nat) × Int64} {S : Sh} {X : Option (Nat × Option Nat) × Cl × Th} {fl : Nat × Option Nat} (mw : MW h q P tt ((n + 1, C), T, R)) (mr : MRz q n h ((tt (C n).1).2.2.1 (C n).2.1) (C n) S X g) (hX : X.1 = some fl) (hT : X.2.2 = T) : Fm q FWk (AW q) h (wI g (q + 39) n (nI (C n).2.1)) ∧ hI (wI g (q + 39) n (nI (C n).2.1)) q 64 = nI fl.1 ∧ hI (wI g (q + 39) n (nI (C n).2.1)) q 65 = o2m fl.2 ∧ MY (wI g (q + 39) n (nI (C n).2.1)) q P tt ((n + 1, C), T, R) := by
  obtain ⟨X1, X2, T'⟩ := X
  have hX : X1 = some fl := hX
  subst hX
  have hT : T' = T := hT
  subst hT
  obtain ⟨lm, pm, mt, ⟨e47, n6⟩, mc, mk, mf⟩ := mw
  obtain ⟨f1, o1, ⟨e38, e39⟩, mtX, e64, e65, lc, hd⟩ := mr
  have mtX : MTh g q T' := mtX
  have f2 : Fm q F40 (fun b => b = q + 39) g (wI g (q + 39) n (nI (C n).2.1)) := Fm.wa rfl (by omega)
  have o2 : Fo2 q n g (wI g (q + 39) n (nI (C n).2.1)) := fo_39
  have g39 : hI (wI g (q + 39) n (nI (C n).2.1)) (q + 39) n = nI (C n).2.1 := hI_wI_s
  generalize wI g (q + 39) n (nI (C n).2.1) = g2 at f2 o2 g39 ⊢
  have ff : Fm q FW (AW q) h g2 := f1.trans (f2.mono (fun _ z => z.elim) (fun b z => by unfold AW; omega))
  refine ⟨ff.mono fwk (fun _ z => z), by rw [(f2.2.2.2.2 64 (fun z => z)).1]; exact e64, by rw [(f2.2.2.2.2 65 (fun z => z)).1]; exact e65, lm.fm ff, pm.fm ff (fun b h1 h2 => nwa b h1 h2) ⟨nfw (by decide), nfw (by decide), nfw (by decide)⟩, mtX.fm f2 ⟨fun z => z, fun z => z⟩ (fun b _ _ => by omega), ⟨by rw [(ff.2.2.2.2 47 (nfw (by decide))).1]; exact e47, n6⟩, fun c hc => ?_, mk.fm ff ⟨nfw (by decide), nfw (by decide), nfw (by decide), nfw (by decide)⟩⟩
  have hc : c < n + 1 := hc
  by_cases z : c = n
  · subst z
    refine ⟨fun z => absurd z (by show ¬ c + 1 < c + 1; omega), ?_⟩
    obtain ⟨⟨b1, b2⟩, -⟩ := mc c hc
    exact ⟨⟨by rw [(f2.2.2.2.1 (q + 38) (by omega) (by omega)).1, e38]; exact b1, g39⟩, lc.fm f2 (by omega), hd.fm f2 (by omega)⟩
  · have := (mc c hc).fo (o1.trans o2) z
    exact ⟨fun _ => this, this.b⟩
end MB
