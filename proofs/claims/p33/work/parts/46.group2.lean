/-! group: the seats for it, the reference's search, the call on both sides -/
section G2
variable {n : Nat} {g : Gm} {S S0 : Sg} {Q : Nat → Int32 → Sg → Prop}
theorem bst_all {s many row : Int32} : ∀ n : Nat, (bst g s many row n).1 = -1 ∨ allF g s (g 104 (nt (g 123 (nt s))) * row + (bst g s many row n).1) many
  | 0 => Or.inl rfl
  | n + 1 => by
    unfold bst
    split
    · rename_i h; exact Or.inr h.1
    · exact bst_all n
theorem sde_ok {s many : Int32} (hI : Ia g) (h0 : 0 ≤ s) (h1 : s < g 321 0) (m0 : 2 ≤ many) (m1 : many ≤ 8) : ∀ (d : Nat) (row : Int32), d ≤ 100 → 0 ≤ row → row + nI d = g 103 (nt (g 123 (nt s))) → (sde g s many d row = -1 ∨ (0 ≤ sde g s many d row ∧ sde g s many d row + many ≤ wd g s ∧ sde g s many d row ≤ 48 ∧ allF g s (sde g s many d row) many))
  | 0, _, _, _, _ => Or.inl rfl
  | d + 1, row, hd, r0, r1 => by
    obtain ⟨-, g1, g2⟩ := i_s1 hI h0 h1
    obtain ⟨a1, a2, a3, a4⟩ := ia_h hI _ g1 g2
    have e5 : (nI d).toInt = d := nI_toInt (by omega)
    have e6 : 0 ≤ nI d := by rw [z_le, e5]; exact Int.natCast_nonneg d
    have e7 : nI d ≤ 1000 := by rw [z_le, e5]; show (d : Int) ≤ 1000; omega
    rw [nI1] at r1
    unfold sde
    split
    · exact sde_ok hI h0 h1 m0 m1 d (row + 1) (by omega) (by lia) (by lia)
    · rename_i c
      have hw := nt_le (n := 8) (by decide) (show g 104 (nt (g 123 (nt s))) + 1 - many ≤ nI 8 by show _ ≤ (8 : Int32); lia)
      have hb := bst_rng (g := g) (s := s) (many := many) (row := row) (nps g s many) (by unfold nps; omega)
      have ha := bst_all (g := g) (s := s) (many := many) (row := row) (nps g s many)
      rcases hb with hb | hb
      · exact absurd hb c
      · rcases ha with ha | ha
        · exact absurd ha c
        · have hp : 0 ≤ g 104 (nt (g 123 (nt s))) + 1 - many := by
            by_cases z : 0 ≤ g 104 (nt (g 123 (nt s))) + 1 - many
            · exact z
            · have : nps g s many = 0 := Nat.le_antisymm (nt_le (n := 0) (by decide) (show g 104 (nt (g 123 (nt s))) + 1 - many ≤ nI 0 by show _ ≤ (0 : Int32); lia)) (Nat.zero_le _)
              rw [this] at hb
              have h2 := hb.2
              have h3 := hb.1
              have z9 : nI 0 = 0 := rfl
              rw [z9] at h2
              lia
          have h2 := hb.2
          have e8 : nI (nps g s many) = g 104 (nt (g 123 (nt s))) + 1 - many := nI_nt0 hp
          rw [e8] at h2
          have hr := row_rng hI h0 h1 r0 (show row < g 103 (nt (g 123 (nt s))) by lia) hb.1 (by lia) (show 1 ≤ many by lia) m1 (show (bst g s many row (nps g s many)).1 + many ≤ g 104 (nt (g 123 (nt s))) by lia)
          exact Or.inr ⟨hr.1, hr.2.1, hr.2.2, ha⟩
theorem sid_ok {s many : Int32} (hI : Ia g) (h0 : 0 ≤ s) (h1 : s < g 321 0) (m0 : 2 ≤ many) (m1 : many ≤ 8) (hs : sid g s many ≠ -1) : 0 ≤ sid g s many ∧ sid g s many + many ≤ wd g s ∧ sid g s many ≤ 48 ∧ allF g s (sid g s many) many := by
  obtain ⟨-, g1, g2⟩ := i_s1 hI h0 h1
  obtain ⟨a1, a2, a3, a4⟩ := ia_h hI _ g1 g2
  have hR : 0 ≤ g 103 (nt (g 123 (nt s))) := by lia
  have := sde_ok hI h0 h1 m0 m1 (nt (g 103 (nt (g 123 (nt s))))) 0 (Nat.le_trans (nt_le (n := 6) (by decide) a2) (by decide)) (by decide) (by rw [nI_nt0 hR]; lia)
  exact this.resolve_left hs
theorem fre_sells {s p k age : Int32} (hI : Ia g) (h0 : 0 ≤ s) (h1 : s < g 321 0) (p0 : 0 ≤ p) (p1 : p < 48) (k0 : 0 ≤ k) (k1 : k < 48) (hk : k ≠ p) (hf : fre g s k) : fre (gSells g s p age) s k := by
  obtain ⟨-, -, -, -, -, -, -, -, -, -, -, b12, -⟩ := ia_n hI
  have ne : nt (48 * s + k) ≠ nt (48 * s + p) := fun z => hk ((ix_inj h0 (by lia) k0 k1 h0 (by lia) p0 p1).mp z).2
  refine ⟨?_, hf.2⟩
  unfold gSells
  rw [gu_ne (by simp), gu_ne (Or.inr ne), gu_ne (by simp), gu_ne (by simp), gu_ne (by simp), gu_ne (by simp)]
  exact hf.1
theorem cls_group {s many age : Int32} (hC : cC S g) (hI : Iv g) (hB : Bd n S) (hn : n < 20000) (hQ : cPost n (rGroup g s many age) S Q) : w_X7_group s many age S Q := by
  have n3 := n336 (i_n hI)
  unfold w_X7_group
  refine showAt_ok hC (fun r1 => kz ?_) (fun r1 => cThr1 (by decide) hC hI hB hn (cP_of hQ (if_neg r1)))
  refine needWithin_ok (fun r2 => kz ?_) (fun r2 => cThr1 (by decide) hC hI hB hn (cP_of hQ (by unfold rGroup; rw [if_pos r1, if_neg (fun z => r2 z.1)])))
  refine needWithin_ok (fun r3 => kz ?_) (fun r3 => cThr1 (by decide) hC hI hB hn (cP_of hQ (by unfold rGroup; rw [if_pos r1, if_neg (fun z => r3 z.2)])))
  have bad : ¬ (g 125 (nt s) = 0 ∧ sid g s many ≠ -1 ∧ see g s age ∧ g 336 0 + many ≤ 400) → cPost n (2, 0, g) S Q := fun z => cP_of hQ (by unfold rGroup; rw [if_pos r1, if_pos ⟨r2, r3⟩, if_neg z])
  refine needPlanned_ok hC r1.1 r1.2 (fun r4 => kz ?_) (fun r4 => cThr1 (by decide) hC hI hB hn (bad (fun z => r4 z.1)))
  refine needOld_ok hC hI.1 r1.1 r1.2 (fun r5 => kz ?_) (fun r5 => cThr1 (by decide) hC hI hB hn (bad (fun z => r5 z.2.2.1)))
  refine needTickets_ok hC (fun r6 => kz ?_) (fun r6 => cThr1 (by decide) hC hI hB hn (bad (fun z => r6 z.2.2.2)))
  refine pfg_ok hC hI.1 r1.1 r1.2 r2.1 r2.2 (kz ⟨fun r7 => cThr hC hI hB hn (bad (fun z => z.2.1 r7)), fun r7 => ?_⟩)
  have hQ := cP_of hQ (show rGroup g s many age = (0, g 336 0, gGroup s age (nt many) (sid g s many) g) by unfold rGroup; rw [if_pos r1, if_pos ⟨r2, r3⟩, if_pos ⟨r4, r7, r5, r6⟩])
  obtain ⟨p0, p1, p2, p3⟩ := sid_ok hI.1 r1.1 r1.2 r2.1 r2.2 r7
  have w := wd_le (i_h hI) (i_s hI) r1.1 r1.2
  obtain ⟨m0, m1⟩ := r2
  have L : ∀ (d : Nat) (x : Int32) (T : Sg) (g' : Gm), d ≤ 100 → 0 ≤ x → x + nI d = many → x ≤ many → cC T g' → Ia g' → Bd n T → fr S T → g' 321 0 = g 321 0 → wd g' s = wd g s → g' 336 0 = g 336 0 + x → (∀ k : Int32, sid g s many + x ≤ k → k < sid g s many + many → fre g' s k) → gGroup s age d (sid g s many + x) g' = gGroup s age (nt many) (sid g s many) g → w_X7_group_73 Q (d + 1) many age s (sid g s many) (g 336 0) x T := by
    intro d
    induction d with
    | zero =>
      intro x T g' hd x0 x1 x2 t1 t2 t3 t4 t5 t6 t7 t8 t9
      have e : x = many := by rw [← x1]; show x = x + 0; lia
      rw [w_X7_group_73]
      refine ⟨fun _ => hQ T ?_ t4 (bd_up t3), fun z => by lia⟩
      rw [← t9]
      exact t1
    | succ d ih =>
      intro x T g' hd x0 x1 x2 t1 t2 t3 t4 t5 t6 t7 t8 t9
      rw [w_X7_group_73]
      refine ⟨fun z => ?_, fun z => ?_⟩
      · exfalso
        have e5 : (nI d).toInt = d := nI_toInt (by omega)
        have e6 : 0 ≤ nI d := by rw [z_le, e5]; exact Int.natCast_nonneg d
        have e7 : nI d ≤ 1000 := by rw [z_le, e5]; show (d : Int) ≤ 1000; omega
        rw [nI1] at x1
        lia
      · have f := t8 (sid g s many + x) (by lia) (by lia)
        refine addTicket_ok t1 t2 t3 (by omega) r1.1 (by rw [t5]; exact r1.2) (by lia) (by rw [t6]; lia) (by rw [t7]; lia) (fun U u1 u2 u3 => kz ?_)
        refine ih (x + 1) U (gSells g' s (sid g s many + x) age) (by omega) (by lia) (by rw [nI1] at x1; lia) (by lia) u1 (Ia_sells t2 r1.1 (by rw [t5]; exact r1.2) (by lia) (by rw [t6]; lia) f (by rw [t7]; lia)) u3 (fr_tr t4 u2) t5 t6 ?_ (fun k k0 k1 => ?_) ?_
        · show g' 336 0 + 1 = _
          rw [t7]; lia
        · exact fre_sells t2 r1.1 (by rw [t5]; exact r1.2) (by lia) (by lia) (by lia) (by lia) (by lia) (t8 k (by lia) k1)
        · rw [show sid g s many + (x + 1) = sid g s many + x + 1 by lia]
          exact t9
  unfold w_size
  rw [c_12_5 hC]
  have hm : 0 ≤ many := by lia
  exact kz ⟨nt many + 1, L _ 0 S g (Nat.le_trans (nt_le (n := 8) (by decide) m1) (by decide)) (by decide) (by rw [nI_nt0 hm]; lia) hm hC hI.1 hB fr_rf rfl rfl (by lia) (fun k k0 k1 => p3 k (by lia) k1) (by rw [show sid g s many + 0 = sid g s many by lia])⟩
end G2
