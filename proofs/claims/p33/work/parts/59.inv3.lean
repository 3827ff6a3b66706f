/-! seats, tickets: what always holds of g holds after each call -/
section KJ
variable {g : Gm}
theorem sells_o {s p age : Int32} {c i : Nat} (h : c ≠ 126 ∧ c ≠ 137 ∧ c ≠ 138 ∧ c ≠ 139 ∧ c ≠ 140 ∧ c ≠ 336) : gSells g s p age c i = g c i := by
  unfold gSells
  rw [gu_ne (Or.inl h.2.2.2.2.2), gu_ne (Or.inl h.1), gu_ne (Or.inl h.2.2.2.2.1), gu_ne (Or.inl h.2.2.2.1), gu_ne (Or.inl h.2.2.1), gu_ne (Or.inl h.2.1)]
theorem It_sells {s p age : Int32} (hI : It g) : It (gSells g s p age) :=
  It_of hI (fun c i h => sells_o (by omega)) (fun k k0 k1 h => by rw [sells_o (by omega)] at h; exact h) (fun x x0 x1 => rfl)
theorem Iv_sell {s r p age : Int32} (hI : Iv g) : Iv (rSell g s r p age).2.2 := by
  by_cases r1 : isP g s r p
  · by_cases r2 : inr age 0 120
    · by_cases r3 : g 125 (nt s) = 0 ∧ fre g s (pla g s r p) ∧ see g s age ∧ g 336 0 < 400
      · rw [show rSell g s r p age = (0, g 336 0, gSells g s (pla g s r p) age) by unfold rSell; rw [if_pos r1, if_pos r2, if_pos r3]]
        obtain ⟨p0, p1⟩ := pla_rng hI.1 r1
        exact ⟨Ia_sells hI.1 r1.1.1 r1.1.2 p0 p1 r3.2.1 r3.2.2.2, It_sells hI.2⟩
      · rw [show rSell g s r p age = (2, 0, g) by unfold rSell; rw [if_pos r1, if_pos r2, if_neg r3]]; exact hI
    · rw [show rSell g s r p age = (1, 0, g) by unfold rSell; rw [if_pos r1, if_neg r2]]; exact hI
  · rw [show rSell g s r p age = (3, 0, g) from if_neg r1]; exact hI
theorem Iv_buy {k age : Int32} (hI : Iv g) : Iv (rBuy g k age).2.2 := by
  by_cases r1 : isX g 331 k
  · by_cases r2 : inr age 0 120
    · by_cases r3 : g 135 (nt k) = 0 ∧ see g (g 132 (nt k)) age ∧ g 336 0 < 400
      · rw [show rBuy g k age = (0, g 336 0, gBuy g k age) by unfold rBuy; rw [if_pos r1, if_pos r2, if_pos r3]]
        obtain ⟨s0, s1, p0, p1, e6, e7, -⟩ := hold_pl hI.1 r1.1 r1.2 r3.1
        refine ⟨Ia_sells (Ia_end hI.1 r1.1 r1.2 r3.1) s0 s1 p0 p1 ⟨e6, gu_at⟩ r3.2.2, ?_⟩
        show It (gBuy g k age)
        unfold gBuy
        refine It_sells (It_of hI.2 (fun c i h => ?_) (fun j j0 j1 h => ?_) (fun x x0 x1 => rfl))
        · rw [gu_ne (Or.inl (by omega)), gu_ne (Or.inl (by omega))]
        · rw [gu_ne (by simp)] at h
          by_cases z : nt j = nt k
          · rw [z, gu_at] at h; exact absurd h (by decide)
          · rw [gu_ne (Or.inr z)] at h; exact h
      · rw [show rBuy g k age = (2, 0, g) by unfold rBuy; rw [if_pos r1, if_pos r2, if_neg r3]]; exact hI
    · rw [show rBuy g k age = (1, 0, g) by unfold rBuy; rw [if_pos r1, if_neg r2]]; exact hI
  · rw [show rBuy g k age = (3, 0, g) from if_neg r1]; exact hI
theorem Iv_letGo {k : Int32} (hI : Iv g) : Iv (rLetGo g k).2.2 := by
  by_cases r1 : isX g 331 k
  · by_cases r2 : g 135 (nt k) = 0
    · rw [show rLetGo g k = (0, gEnds g k) by unfold rLetGo; rw [if_pos r1, if_pos r2]]
      refine ⟨Ia_ends hI.1 r1.1 r1.2 r2, It_of hI.2 (fun c i h => ends_o (by omega)) (fun j j0 j1 h => ?_) (fun x x0 x1 => en_ends)⟩
      have h : (gEnds g k).2 135 (nt j) = 0 := h
      rw [ends_135] at h
      split at h
      · exact absurd h (by decide)
      · exact h
    · rw [show rLetGo g k = (2, 0, g) by unfold rLetGo; rw [if_pos r1, if_neg r2]]; exact hI
  · rw [show rLetGo g k = (3, 0, g) from if_neg r1]; exact hI
theorem Iv_back {t : Int32} (hI : Iv g) : Iv (rBack g t).2.2 := by
  by_cases r1 : isX g 336 t
  · by_cases r2 : g 125 (nt (g 137 (nt t))) = 0 ∧ g 141 (nt t) = 0
    · rw [show rBack g t = (0, g 140 (nt t), gBack g t) by unfold rBack; rw [if_pos r1, if_pos r2]]
      obtain ⟨s0, s1, p0, p1, -, -, -, -, e8⟩ := i_t hI t r1.1 r1.2
      have e8 := e8 r2.2
      have hw := wd_le (i_h hI) (i_s hI) s0 s1
      obtain ⟨-, -, -, -, -, -, -, -, -, -, -, b12, -⟩ := i_n hI
      have pl := (i_pl hI _ _ s0 (by lia) p0 (by lia)).1
      have e7 : g 127 (nt (48 * g 137 (nt t) + g 138 (nt t))) = -1 := (pl.resolve_left (fun z => by rw [z] at e8; have := r1.1; rw [← e8] at this; exact absurd this (by decide))).2.2.1
      refine ⟨Ia_frees (Ia_back hI.1 r1.1 r1.2 r2.2) s0 s1 p0 p1 ⟨gu_at, e7⟩, It_of hI.2 (fun c i h => ?_) (fun j j0 j1 h => ?_) (fun x x0 x1 => ?_)⟩
      · show gBack g t c i = g c i
        unfold gBack
        rw [frees_o (by omega), gu_ne (Or.inl (by omega)), gu_ne (Or.inl (by omega)), gu_ne (Or.inl (by omega))]
      · have h : gBack g t 135 (nt j) = 0 := h
        unfold gBack at h
        rw [frees_o (by omega)] at h
        exact h
      · show en (gBack g t) x = en g x
        unfold en gBack
        rw [frees_o (by omega), frees_o (by omega), frees_o (by omega)]
        rfl
    · rw [show rBack g t = (2, 0, g) by unfold rBack; rw [if_pos r1, if_neg r2]]; exact hI
  · rw [show rBack g t = (3, 0, g) from if_neg r1]; exact hI
theorem Iv_gGroup {s age : Int32} (h1 : 0 ≤ s) : ∀ (d : Nat) (p : Int32) (g : Gm), d ≤ 100 → Iv g → s < g 321 0 → 0 ≤ p → p ≤ 48 → p + nI d ≤ wd g s → g 336 0 + nI d ≤ 400 → (∀ k : Int32, p ≤ k → k < p + nI d → fre g s k) → Iv (gGroup s age d p g)
  | 0, _, _, _, hI, _, _, _, _, _, _ => hI
  | d + 1, p, g, hd, hI, s1, p0, p9, p1, n1, hf => by
    have e5 : (nI d).toInt = d := nI_toInt (by omega)
    have e6 : 0 ≤ nI d := by rw [z_le, e5]; exact Int.natCast_nonneg d
    have e7 : nI d ≤ 1000 := by rw [z_le, e5]; show (d : Int) ≤ 1000; omega
    have w := wd_le (i_h hI) (i_s hI) h1 s1
    have n3 := n336 (i_n hI)
    rw [nI1] at p1 n1 hf
    show Iv (gGroup s age d (p + 1) (gSells g s p age))
    have f := hf p (by lia) (by lia)
    refine Iv_gGroup h1 d (p + 1) (gSells g s p age) (by omega) ⟨Ia_sells hI.1 h1 s1 p0 (by lia) f (by lia), It_sells hI.2⟩ s1 (by lia) (by lia) ?_ ?_ (fun k k0 k1 => ?_)
    · show p + 1 + nI d ≤ wd g s
      lia
    · show g 336 0 + 1 + nI d ≤ 400
      lia
    · exact fre_sells hI.1 h1 s1 p0 (by lia) (by lia) (by lia) (by lia) (hf k (by lia) (by lia))
theorem Iv_group {s many age : Int32} (hI : Iv g) : Iv (rGroup g s many age).2.2 := by
  by_cases r1 : isX g 321 s
  · by_cases r2 : inr many 2 8 ∧ inr age 0 120
    · by_cases r3 : g 125 (nt s) = 0 ∧ sid g s many ≠ -1 ∧ see g s age ∧ g 336 0 + many ≤ 400
      · rw [show rGroup g s many age = (0, g 336 0, gGroup s age (nt many) (sid g s many) g) by unfold rGroup; rw [if_pos r1, if_pos r2, if_pos r3]]
        obtain ⟨⟨m0, m1⟩, -⟩ := r2
        obtain ⟨p0, p1, p2, p3⟩ := sid_ok hI.1 r1.1 r1.2 m0 m1 r3.2.1
        have em : nI (nt many) = many := nI_nt0 (by lia)
        exact Iv_gGroup r1.1 (nt many) (sid g s many) g (Nat.le_trans (nt_le (n := 8) (by decide) m1) (by decide)) hI r1.2 p0 p2 (by rw [em]; exact p1) (by rw [em]; exact r3.2.2.2) (by rw [em]; exact p3)
      · rw [show rGroup g s many age = (2, 0, g) by unfold rGroup; rw [if_pos r1, if_pos r2, if_neg r3]]; exact hI
    · rw [show rGroup g s many age = (1, 0, g) by unfold rGroup; rw [if_pos r1, if_neg r2]]; exact hI
  · rw [show rGroup g s many age = (3, 0, g) from if_neg r1]; exact hI
theorem Iv_hold {s r p m : Int32} (hI : Iv g) : Iv (rHold g s r p m).2.2 := by
  by_cases r1 : isP g s r p
  · by_cases r2 : inr m 1 5000
    · by_cases r3 : g 125 (nt s) = 0 ∧ fre g s (pla g s r p) ∧ g 331 0 < 100
      · rw [show rHold g s r p m = (0, g 331 0, gHold g s (pla g s r p) m) by unfold rHold; rw [if_pos r1, if_pos r2, if_pos r3]]
        dsimp only
        obtain ⟨p0, p1⟩ := pla_rng hI.1 r1
        revert p0 p1
        obtain ⟨r4, r5, r6⟩ := r3
        revert r5
        generalize pla g s r p = P
        intro r5 p0 p1
        obtain ⟨⟨s0, s1⟩, -⟩ := r1
        obtain ⟨m0, m1⟩ := r2
        have n4 := n331 (i_n hI)
        have hw := wd_le (i_h hI) (i_s hI) s0 s1
        obtain ⟨b1, b2, b3, b4, b5, b6, b7, b8, b9, b10, b11, b12, b13, b14, b15, b16⟩ := i_n hI
        have w : ∀ x, wd (gHold g s P m) x = wd g x := fun _ => rfl
        have q : ∀ c i, c ≠ 331 → c ≠ 127 → i ≠ nt (g 331 0) → gHold g s P m c i = g c i := fun c i h1 h2 h3 => by
          unfold gHold
          rw [gu_ne (Or.inl h1), gu_ne (Or.inl h2), gu_ne (Or.inr h3), gu_ne (Or.inr h3), gu_ne (Or.inr h3)]
        have q0 : ∀ c i, (c < 127 ∨ c = 128 ∨ (129 ≤ c ∧ c < 132) ∨ (134 < c ∧ c < 331) ∨ 331 < c) → gHold g s P m c i = g c i := fun c i h => by
          unfold gHold
          rw [gu_ne (Or.inl (by omega)), gu_ne (Or.inl (by omega)), gu_ne (Or.inl (by omega)), gu_ne (Or.inl (by omega)), gu_ne (Or.inl (by omega))]
        have q1 : gHold g s P m 331 0 = g 331 0 + 1 := by unfold gHold; rw [gu_at]
        have q7 : ∀ i, gHold g s P m 127 i = if i = nt (48 * s + P) then g 331 0 else g 127 i := fun i => by
          unfold gHold
          rw [gu_ne (by simp)]
          by_cases z : i = nt (48 * s + P)
          · rw [if_pos z, z, gu_at]
          · rw [if_neg z, gu_ne (Or.inr z)]; rfl
        have y2 : gHold g s P m 132 (nt (g 331 0)) = s := by unfold gHold; rw [gu_ne (by simp), gu_ne (by simp), gu_ne (by simp), gu_ne (by simp), gu_at]
        have y3 : gHold g s P m 133 (nt (g 331 0)) = P := by unfold gHold; rw [gu_ne (by simp), gu_ne (by simp), gu_ne (by simp), gu_at]
        have y4 : gHold g s P m 134 (nt (g 331 0)) = if g 124 (nt s) ≤ g 300 0 + m then g 124 (nt s) else g 300 0 + m := by unfold gHold; rw [gu_ne (by simp), gu_ne (by simp), gu_at]
        have st := (hI.2.2 s s0 s1).1 r4
        have y5 : gHold g s P m 134 (nt (g 331 0)) ≤ g 124 (nt s) ∧ g 300 0 < gHold g s P m 134 (nt (g 331 0)) := by
          rw [y4]; split
          · exact ⟨by lia, st⟩
          · exact ⟨by lia, by lia⟩
        have old : ∀ k : Int32, 0 ≤ k → k < g 331 0 → nt k ≠ nt (g 331 0) := fun k k0 k1 z => by rw [nt_inj k0 n4.1] at z; lia
        obtain ⟨a1, a2, a3, a4, a5, a6, a7, a8, a9, a10, a11, a12, a13, a14⟩ := id hI.1
        refine ⟨⟨⟨b1, b2, b3, b4, b5, b6, b7, b8, b9, b10, b11, b12, by rw [q1]; lia, by rw [q1]; lia, b15, b16⟩, a2, a3, a4, a5, a6, a7, a8, ?_, ?_, ?_, a12, a13, a14⟩, ?_, ?_⟩
        · intro x k x0 x1 k0 k1
          have h9 := ix_inj x0 x1 k0 k1 s0 (show s < 30 by lia) p0 (show P < 48 by lia)
          obtain ⟨z1, z2⟩ := a9 x k x0 x1 k0 k1
          rw [w, q0 126 _ (by omega), q0 336 _ (by omega), q0 321 _ (by omega), q1, q7]
          by_cases e : nt (48 * x + k) = nt (48 * s + P)
          · obtain ⟨rfl, rfl⟩ := h9.mp e
            rw [if_pos rfl]
            exact ⟨Or.inl r5.1, Or.inr ⟨n4.1, by lia, s1, p1⟩⟩
          · rw [if_neg e]
            exact ⟨z1, z2.imp_right (fun z => ⟨z.1, by have := z.2.1; lia, z.2.2⟩)⟩
        · intro k k0 k1
          rw [q1] at k1
          rcases i32_lt1 k1 n4.1 (by lia) with z | z
          · have ne := old k k0 z
            have u := a10 k k0 z
            rw [q 132 _ (by decide) (by decide) ne, q 133 _ (by decide) (by decide) ne, q 134 _ (by decide) (by decide) ne, q 135 _ (by decide) (by decide) ne, w, q0 321 _ (by omega), q0 125 _ (by omega), q0 124 _ (by omega), q7]
            refine ⟨u.1, u.2.1, u.2.2.1, u.2.2.2.1, u.2.2.2.2.1, fun y => ?_⟩
            obtain ⟨d1, d2, d3⟩ := u.2.2.2.2.2 y
            refine ⟨d1, d2, ?_⟩
            rw [if_neg, d3]
            intro v
            rw [v, r5.2] at d3
            lia
          · rw [z, y2, y3, w, q0 321 _ (by omega), q0 125 _ (by omega), q0 124 _ (by omega), q7, if_pos rfl, q0 135 _ (by omega)]
            exact ⟨s0, s1, p0, p1, Or.inl (a11 _ (by exact Int32.le_refl _) r6), fun _ => ⟨r4, y5.1, rfl⟩⟩
        · intro k k0 k1
          rw [q1] at k0
          exact a11 k (by lia) k1
        · intro k k0 k1 ko
          rw [q1] at k1
          rw [q0 300 _ (by omega)]
          rcases i32_lt1 k1 n4.1 (by lia) with z | z
          · rw [q 134 _ (by decide) (by decide) (old k k0 z)]
            exact hI.2.1 k k0 z ko
          · rw [z]; exact y5.2
        · exact hI.2.2
      · rw [show rHold g s r p m = (2, 0, g) by unfold rHold; rw [if_pos r1, if_pos r2, if_neg r3]]; exact hI
    · rw [show rHold g s r p m = (1, 0, g) by unfold rHold; rw [if_pos r1, if_neg r2]]; exact hI
  · rw [show rHold g s r p m = (3, 0, g) from if_neg r1]; exact hI
end KJ
