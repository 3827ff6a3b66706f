/-! isSeat: group -/
section S4
variable {n C : Nat} {g : Gm} {S T : Sg} {s many : Int32} {Q : Nat → Int32 → Sg → Prop}
theorem G_find {rows wide age se : Int32} (h : RA n C g S) (s0 : 0 ≤ s) (s1 : s < g 321 0) (m0 : 2 ≤ many) (m1 : many ≤ 8) (hr : rows = g 103 (nt (g 123 (nt s)))) (hw : wide = g 104 (nt (g 123 (nt s)))) (hfin : ∀ at9 : Int32, (g 125 (nt s) = 0 → at9 = sid g s many) → (¬ g 125 (nt s) = 0 → at9 = -1) → w_L_isSeat_1253 Q s 1 age se many 1 at9 S) : ∃ n9, w_L_isSeat_1049 Q n9 s 1 rows wide age se many 1 (-1) 0 S := by
  have hI := h.2.1
  have hB := h.2.2.2.1
  have b1 := lb_1 hB
  obtain ⟨c302, c307, c316, b4, c331⟩ := lb_1 h.2.2.2.1
  have hx := h.2.2.1.1
  obtain ⟨-, -, hh0, hh1, -⟩ := ia_s hI.1 s s0 s1
  obtain ⟨r1, r2⟩ := lb_2 hB _ hh0 hh1
  obtain ⟨r3, r4, r5, r6⟩ := ia_h hI.1 _ hh0 hh1
  have w12 := (wd12 hI.1 hB s0 s1).2
  -- the loop over a row's places
  have LK : ∀ (row : Int32), 0 ≤ row → row < rows → ∀ (kc : Int32 → Int32 → Int32 → Int32 → Int32 → Int32 → Int32 → Int32 → Int32 → Int32 → Sg → Prop), (∀ at9 best, RI g s many row (wide - many) (g 125 (nt s) = 0) (-1) at9 best → kc s 1 rows wide age se many 1 at9 (row + 1) S) → ∀ (d : Nat) (x at9 best : Int32), d ≤ 100 → x + 1 = nI d → x ≤ wide - many ∨ x = -1 → RI g s many row (wide - many) (g 125 (nt s) = 0) x at9 best → w_L_isSeat_1083 kc Q (d + 1) s 1 rows wide age se many 1 at9 row best x S := by
    intro row w0 w1 kc hk d
    induction d with
    | zero =>
      intro x at9 best hd e hxK hR
      have e0 : x = -1 := by have : x + 1 = 0 := e; lia
      rw [w_L_isSeat_1083]
      exact ⟨fun _ => hk at9 best (by rw [e0] at hR; exact hR), fun z => absurd (by lia) z⟩
    | succ d ih =>
      intro x at9 best hd e hxK hR
      have e5 : (nI d).toInt = d := nI_toInt (by omega)
      have e6 : 0 ≤ nI d := by rw [z_le, e5]; exact Int.natCast_nonneg d
      have e7 : nI d ≤ 100 := by rw [z_le, e5]; show (d : Int) ≤ 100; omega
      rw [nI1] at e
      have ex : x = nI d := by lia
      have x0 : 0 ≤ x := by lia
      have xK : x ≤ wide - many := hxK.resolve_right (by lia)
      obtain ⟨q0, q1⟩ := pla_rng (g := g) (s := s) (r := row) (p := 0) hI.1 ⟨⟨s0, s1⟩, w0, by rw [← hr]; exact w1, by decide, by lia⟩
      obtain ⟨q2, q3⟩ := pla_rng (g := g) (s := s) (r := row) (p := wide - 1) hI.1 ⟨⟨s0, s1⟩, w0, by rw [← hr]; exact w1, by lia, by rw [← hw]; lia⟩
      unfold pla at q0 q1 q2 q3
      have hF : (∀ i : Int32, x ≤ i → i < x + many → fre g s (wide * row + i)) ↔ allF g s (g 104 (nt (g 123 (nt s))) * row + x) many := by
        rw [← hw] at q0 q1 q2 q3 ⊢
        unfold allF
        constructor
        · intro z k k0 k1
          have := z (k - wide * row) (by lia) (by lia)
          rw [show wide * row + (k - wide * row) = k by lia] at this
          exact this
        · intro z i i0 i1
          exact z (wide * row + i) (by lia) (by lia)
      have next : ∀ at' best', RI g s many row (wide - many) (g 125 (nt s) = 0) (x - 1) at' best' → w_L_isSeat_1083 kc Q (d + 1) s 1 rows wide age se many 1 at' row best' (x + (-1)) S := fun at' best' hR' => by
        have e9 : x + (-1) = x - 1 := by lia
        rw [e9]
        exact ih (x - 1) at' best' (by omega) (by lia) (by by_cases z : x = 0; exact Or.inr (by lia); exact Or.inl (by lia)) hR'
      have offE : offS g s many x = (if 2 * x + many ≤ wide then wide - many - 2 * x else 2 * x + many - wide) := by
        unfold offS
        rw [← hw]
        by_cases z : 0 ≤ 2 * x + many - wide
        · rw [if_pos z]
          by_cases y : 2 * x + many ≤ wide
          · rw [if_pos y]; lia
          · rw [if_neg y]
        · rw [if_neg z, if_pos (by lia)]; lia
      have off1000 : offS g s many x ≤ 1000 := by rw [offE]; split <;> lia
      have f191 : ∀ c off : Int32, off = offS g s many x → (c = 1 ∧ (g 125 (nt s) = 0 ∧ allF g s (g 104 (nt (g 123 (nt s))) * row + x) many) ∨ c = 0 ∧ ¬ (g 125 (nt s) = 0 ∧ allF g s (g 104 (nt (g 123 (nt s))) * row + x) many)) → w_L_isSeat_1191 kc (fun x13 x14 x15 x16 x19 x22 x25 x26 x27 x28 x29 x30 S => w_L_isSeat_1083 kc Q (d + 1) x13 x14 x15 x16 x19 x22 x25 x26 x27 x28 x29 x30 S) Q s 1 rows wide age se many 1 at9 row best x c off S := fun c off ho hc => by
        subst ho
        obtain ⟨st1, st2⟩ := RI_step hR x0 xK (by lia) off1000 hc
        unfold w_L_isSeat_1191 w_L_isSeat_1216 w_L_isSeat_1218 w_L_isSeat_1237 w_L_isSeat_1239
        have hc1 : ¬ c = 0 → c = 1 := fun z => (hc.resolve_right (fun o => z o.1)).1
        refine ⟨fun z => ⟨fun _ => next _ _ (st2 (fun o => by rw [z] at o; exact absurd o.1 (by decide))), fun y => absurd z y⟩, fun z => ⟨fun y => ⟨fun w => absurd w z, fun _ => ⟨fun _ => next _ _ (st2 (fun o => by have := o.2; lia)), fun w => absurd y w⟩⟩, fun y => ⟨fun w => absurd w z, fun _ => ⟨fun w => absurd w y, fun _ => ?_⟩⟩⟩⟩
        rw [hw]
        have st3 := st1 ⟨hc1 z, by lia⟩
        rw [← hw] at st3 ⊢
        exact next _ _ st3
      -- the places side by side
      have LJ : ∀ (m : Nat) (j c : Int32), x ≤ j → j + nI m = x + many → j ≤ x + many → (c = 0 ∨ c = 1) → (c = 1 ↔ g 125 (nt s) = 0 ∧ ∀ i : Int32, x ≤ i → i < j → fre g s (wide * row + i)) → w_L_isSeat_1108 kc (fun x13 x14 x15 x16 x19 x22 x25 x26 x27 x28 x29 x30 S => w_L_isSeat_1083 kc Q (d + 1) x13 x14 x15 x16 x19 x22 x25 x26 x27 x28 x29 x30 S) Q (m + 1) s 1 rows wide age se many 1 at9 row best x c j S := by
        have endJ : ∀ (j c : Int32), j = x + many → (c = 0 ∨ c = 1) → (c = 1 ↔ g 125 (nt s) = 0 ∧ ∀ i : Int32, x ≤ i → i < j → fre g s (wide * row + i)) → ((((2 * x) + many) ≤ wide → w_L_isSeat_1191 kc (fun x13 x14 x15 x16 x19 x22 x25 x26 x27 x28 x29 x30 S => w_L_isSeat_1083 kc Q (d + 1) x13 x14 x15 x16 x19 x22 x25 x26 x27 x28 x29 x30 S) Q s 1 rows wide age se many 1 at9 row best x c ((wide - many) - (2 * x)) S) ∧ (¬ ((2 * x) + many) ≤ wide → w_L_isSeat_1191 kc (fun x13 x14 x15 x16 x19 x22 x25 x26 x27 x28 x29 x30 S => w_L_isSeat_1083 kc Q (d + 1) x13 x14 x15 x16 x19 x22 x25 x26 x27 x28 x29 x30 S) Q s 1 rows wide age se many 1 at9 row best x c (((2 * x) + many) - wide) S)) := fun j c ej hc01 hc => by
          subst ej
          rw [hF] at hc
          have hc2 : (c = 1 ∧ (g 125 (nt s) = 0 ∧ allF g s (g 104 (nt (g 123 (nt s))) * row + x) many) ∨ c = 0 ∧ ¬ (g 125 (nt s) = 0 ∧ allF g s (g 104 (nt (g 123 (nt s))) * row + x) many)) := by
            by_cases z : c = 1
            · exact Or.inl ⟨z, hc.mp z⟩
            · exact Or.inr ⟨hc01.resolve_right z, fun o => z (hc.mpr o)⟩
          exact ⟨fun y => f191 c _ (by rw [offE, if_pos y]) hc2, fun y => f191 c _ (by rw [offE, if_neg y]) hc2⟩
        intro m
        induction m with
        | zero =>
          intro j c j0 j1 j2 hc01 hc
          have ej : j = x + many := by rw [← j1]; show j = j + 0; lia
          rw [w_L_isSeat_1108]
          exact ⟨fun _ => endJ j c ej hc01 hc, fun z => absurd (by lia) z⟩
        | succ m ihm =>
          intro j c j0 j1 j2 hc01 hc
          rw [nI1] at j1
          rw [w_L_isSeat_1108]
          refine ⟨fun z => endJ j c (by lia) hc01 hc, fun z => ?_⟩
          have eidx : 12 * s + wide * row + j = 12 * s + (wide * row + j) := by lia
          rw [← hw] at q0 q1 q2 q3
          have af := a_free (S := S) (p := wide * row + j) h.2.2.1.2 hI.1 b1 s0 (by lia) (by lia) (by lia)
          have sp : ∀ i : Int32, i < j + 1 → i < j ∨ i = j := fun i hi => by
            by_cases e : i = j
            · exact Or.inr e
            · exact Or.inl (by lia)
          unfold w_L_isSeat_1147 w_L_isSeat_1148
          rw [eidx, af]
          refine ⟨fun y => ihm (j + 1) 0 (by lia) (by lia) (by lia) (Or.inl rfl) ⟨fun w => absurd w (by decide), fun o => ?_⟩, fun y => ⟨va (by lia) (by show _ < 60; lia), fun w => ihm (j + 1) 1 (by lia) (by lia) (by lia) (Or.inr rfl) ⟨fun _ => ?_, fun _ => rfl⟩, fun w => ihm (j + 1) 0 (by lia) (by lia) (by lia) (Or.inl rfl) ⟨fun u => absurd u (by decide), fun o => absurd (o.2 j (by lia) (by lia)) w⟩⟩⟩
          · have := hc.mpr ⟨o.1, fun i i0 i1 => o.2 i i0 (by lia)⟩
            rw [y] at this; exact absurd this (by decide)
          · have hc2 := hc.mp (hc01.resolve_left y)
            refine ⟨hc2.1, fun i i0 i1 => ?_⟩
            rcases sp i i1 with u | u
            · exact hc2.2 i i0 u
            · rw [u]; exact w
      rw [w_L_isSeat_1083]
      unfold w_L_isSeat_1102
      have em : nI (nt many) = many := nI_nt0 (by lia)
      refine ⟨fun z => absurd z (by lia), fun _ => Lstate hx hI.1 b1 s0 s1 (kz ⟨fun z => ⟨nt many + 1, LJ (nt many) x 1 (by lia) (by rw [em]) (by lia) (Or.inr rfl) ⟨fun _ => ⟨z, fun i i0 i1 => by exfalso; lia⟩, fun _ => rfl⟩⟩, fun z => ⟨nt many + 1, LJ (nt many) x 0 (by lia) (by rw [em]) (by lia) (Or.inl rfl) ⟨fun w => absurd w (by decide), fun o => absurd o.1 z⟩⟩⟩)⟩
  -- the loop over the rows
  have found : ∀ (m : Nat) (at9 row : Int32), 0 ≤ at9 → (g 125 (nt s) = 0 → at9 = sid g s many) → (¬ g 125 (nt s) = 0 → at9 = -1) → w_L_isSeat_1049 Q (m + 1) s 1 rows wide age se many 1 at9 row S := fun m at9 row a0 a1 a2 => by
    rw [w_L_isSeat_1049]
    exact ⟨fun _ => hfin at9 a1 a2, fun _ => ⟨fun _ => hfin at9 a1 a2, fun _ => ⟨fun _ => hfin at9 a1 a2, fun _ => ⟨fun _ => hfin at9 a1 a2, fun z => absurd a0 z⟩⟩⟩⟩
  have LN : ∀ (d : Nat) (row : Int32), d ≤ 100 → 0 ≤ row → row + nI d = rows → row ≤ rows → (g 125 (nt s) = 0 → sde g s many d row = sid g s many) → w_L_isSeat_1049 Q (d + 2) s 1 rows wide age se many 1 (-1) row S := by
    intro d
    induction d with
    | zero =>
      intro row hd w0 w1 w2 hs
      have e : row = rows := by rw [← w1]; show row = row + 0; lia
      rw [w_L_isSeat_1049]
      exact ⟨fun _ => hfin (-1) (fun z => hs z) (fun _ => rfl), fun z => absurd (by lia) z⟩
    | succ d ih =>
      intro row hd w0 w1 w2 hs
      have e5 : (nI d).toInt = d := nI_toInt (by omega)
      have e6 : 0 ≤ nI d := by rw [z_le, e5]; exact Int.natCast_nonneg d
      have e7 : nI d ≤ 100 := by rw [z_le, e5]; show (d : Int) ≤ 100; omega
      rw [nI1] at w1
      rw [w_L_isSeat_1049]
      refine ⟨fun z => absurd z (by lia), fun _ => ⟨fun z => absurd z (by decide), fun _ => ⟨fun z => absurd z (by decide), fun _ => ⟨fun z => absurd z (by decide), fun _ => ?_⟩⟩⟩⟩
      rintro v34 rfl
      have hsd : sde g s many (d + 1) row = if (bst g s many row (nps g s many)).1 = -1 then sde g s many d (row + 1) else g 104 (nt (g 123 (nt s))) * row + (bst g s many row (nps g s many)).1 := rfl
      rw [hsd] at hs
      obtain ⟨q0, q1⟩ := pla_rng (g := g) (s := s) (r := row) (p := 0) hI.1 ⟨⟨s0, s1⟩, w0, by rw [← hr]; lia, by decide, by lia⟩
      unfold pla at q0 q1
      have hk : ∀ at9 best, RI g s many row (wide - many) (g 125 (nt s) = 0) (-1) at9 best → w_L_isSeat_1049 Q (d + 2) s 1 rows wide age se many 1 at9 (row + 1) S := fun at9 best hR => by
        by_cases st : g 125 (nt s) = 0
        · rcases RI_end st hR (by lia) (by rw [hw]) (by lia) w0 with ⟨a1, a2⟩ | ⟨k, k0, k1, a1, a2⟩
          · rw [a1]
            exact ih (row + 1) (by omega) (by lia) (by lia) (by lia) (fun z => by have := hs z; rw [if_pos a2] at this; exact this)
          · have ek : at9 = sid g s many := by
              have := hs st
              rw [a2, if_neg (by lia)] at this
              rw [a1]; exact this
            exact found (d + 1) at9 (row + 1) (by rw [a1]; lia) (fun _ => ek) (fun z => absurd st z)
        · rcases hR with ⟨a1, -⟩ | ⟨k, -, -, -, -, a4, -⟩
          · rw [a1]
            exact ih (row + 1) (by omega) (by lia) (by lia) (by lia) (fun z => absurd z st)
          · exact absurd a4.1 st
      have hR0 : ∀ x : Int32, x = wide - many → RI g s many row (wide - many) (g 125 (nt s) = 0) x (-1) 1000 := fun x ex => Or.inl ⟨rfl, rfl, fun j j0 j1 => by exfalso; lia⟩
      by_cases z : 0 ≤ wide - many
      · have en : nI (nt (wide - many + 1)) = wide - many + 1 := nI_nt0 (by lia)
        have hle := nt_le (x := wide - many + 1) (n := 100) (by decide) (show wide - many + 1 ≤ 100 by lia)
        exact ⟨nt (wide - many + 1) + 1, LK row w0 (by lia) _ hk (nt (wide - many + 1)) (wide - many) (-1) 1000 hle en.symm (Or.inl (by lia)) (hR0 _ rfl)⟩
      · refine ⟨1, ?_⟩
        rw [w_L_isSeat_1083]
        exact ⟨fun _ => hk (-1) 1000 (Or.inl ⟨rfl, rfl, fun j j0 j1 => by exfalso; lia⟩), fun y => absurd (by lia) y⟩
  have er : nI (nt rows) = rows := nI_nt0 (by lia)
  have hle := nt_le (x := rows) (n := 100) (by decide) (show rows ≤ 100 by lia)
  exact ⟨nt rows + 2, LN (nt rows) 0 hle (by decide) (by rw [er]; lia) (by lia) (fun _ => by unfold sid; rw [← hr])⟩
end S4
