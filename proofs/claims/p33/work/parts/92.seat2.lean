/-! isSeat: letGo, buy, sell -/
section S2
variable {n C : Nat} {g : Gm} {S T : Sg} {Q : Nat → Int32 → Sg → Prop}
theorem n336_le (hB : LB C g) (hC : C ≤ 511) (n0 : 0 ≤ g 336 0) : g 336 0 ≤ 63 := by
  have h5 := lb_5 hB
  unfold PB at h5
  have h6 := nt_cast n0
  have h7 : (63 : Int32).toInt = 63 := rfl
  rw [z_le]; omega
theorem fr_336 {s p : Int32} (n0 : 0 ≤ g 336 0) (n1 : g 336 0 ≤ 400) : nt (g 336 0) ≤ nt ((gFrees g s p).2 336 0) := by
  by_cases e : g 128 (nt s) = 0 ∨ g 336 0 = 400
  · rw [show gFrees g s p = (-1, g) from if_pos e]; exact Nat.le_refl _
  · rw [show gFrees g s p = (g 336 0, gSells (gShift g s) s p (g 129 (nt (40 * s)))) from if_neg e]
    show nt (g 336 0) ≤ nt (g 336 0 + 1)
    rw [ntS n0 (by lia)]; omega
theorem S_letGo {k y0 : Int32} (h : RA n C g S) (hn : n < 20000) (hC : C ≤ 511) (k0 : 0 ≤ k) (k1 : k ≤ g 331 0) (hy : y0 = 1 ∧ (k < g 331 0 ∧ g 135 (nt k) = 0) ∨ y0 = 0 ∧ ¬ (k < g 331 0 ∧ g 135 (nt k) = 0)) (q : SK n C g Q) : ((y0 = 0 → w_L_isSeat_644 Q k y0 (-1) S) ∧ (¬ y0 = 0 → (vp_in k 48 ∧ (vp_in k 48 ∧ (∀ S52, S52 = su S 110 (nt k) ((S.1 110 (nt k)) + 128) → (vp_in k 48 ∧ (vp_in k 48 ∧ (w_L_frees ((S52.1 110 (nt k)) - (S52.1 110 (nt k)) / 8 * 8) (((S52.1 110 (nt k)) / 8) - ((S52.1 110 (nt k)) / 8) / 16 * 16) S52 (fun k55 v54 S53 => (k55 = 0 → w_L_isSeat_644 Q k y0 v54 S53) ∧ (¬ k55 = 0 → Q k55 0 S53)))))))))) := by
  have hI := h.2.1
  have hB := h.2.2.2.1
  obtain ⟨c302, c307, c316, b4, c331⟩ := lb_1 h.2.2.2.1
  have n3 := n336 (i_n hI)
  have hx := h.2.2.1.1
  refine ⟨fun z => ?_, fun z => ?_⟩
  · have hno := (hy.resolve_left (fun o => by rw [z] at o; exact absurd o.1 (by decide))).2
    unfold w_L_isSeat_644 w_L_isSeat_683
    by_cases e : k < g 331 0
    · have er : rLetGo g k = (2, 0, g) := by
        unfold rLetGo
        rw [if_pos ⟨k0, e⟩, if_neg (fun w => hno ⟨e, w⟩)]
      refine dz_10 h.1 hI h.2.2.2.2 hn (RA_go (lS_rf h) (by rw [er]) hI hB (v := -1000000) (by rw [er, dva_2]) (fun S2 r2 => kz ⟨vd, ?_⟩))
      rw [lg_6 r2.2.2.1.1]
      exact ⟨fun w => absurd w (by lia), fun _ => ⟨fun _ => ⟨fun _ => SKs q r2, fun w => absurd rfl w⟩, fun w => absurd z w⟩⟩
    · have er : rLetGo g k = (3, 0, g) := by
        unfold rLetGo
        rw [if_neg (fun w => e w.2)]
      refine dz_10 h.1 hI h.2.2.2.2 hn (RA_go (lS_rf h) (by rw [er]) hI hB (v := -3000000) (by rw [er, dva_3]) (fun S2 r2 => kz ⟨vd, ?_⟩))
      rw [lg_6 r2.2.2.1.1]
      exact ⟨fun _ => ⟨fun _ => SKs q r2, fun w => absurd rfl w⟩, fun w => absurd (by lia) w⟩
  · obtain ⟨hx9, ho⟩ := (hy.resolve_right (fun o => z o.1)).2
    have hy1 := (hy.resolve_right (fun o => z o.1)).1
    obtain ⟨d1, d2, d3, d4, d5, d6⟩ := d_all hx hI.1 hB k0 hx9
    obtain ⟨s0, s1, p0, p1, e6, e7, -⟩ := hold_pl hI.1 k0 hx9 ho
    obtain ⟨cB, hB1⟩ := LB_end (i := nt (48 * g 132 (nt k) + g 133 (nt k))) hB k0 hx9 ho
    have vk : vp_in k 48 := va k0 (by show _ < 48; lia)
    refine ⟨vk, vk, ?_⟩
    intro S14 e14
    have h14 : LX S14 (gu (gu g 135 (nt k) 1) 127 (nt (48 * g 132 (nt k) + g 133 (nt k))) (-1)) := by
      rw [e14]
      exact LX_end hx k0 hx9 (by lia) (by rw [((lx_d hx) k k0 hx9).1, ho]; lia) c331
    have c14 : clf S S14 := by rw [e14]; exact clf_l clf_rf
    have a14 : La0 S14 (gu (gu g 135 (nt k) 1) 127 (nt (48 * g 132 (nt k) + g 133 (nt k))) (-1)) (g 132 (nt k)) (g 133 (nt k)) := by
      rw [e14]
      exact La_end h.2.2.1.2 s0 (by lia) d5 d6
    clear e14
    have hI1 := Ia_end hI.1 k0 hx9 ho
    obtain ⟨k1', k2, -⟩ := d_all h14 hI1 hB1 k0 hx9
    have k1' : S14.1 110 (nt k) - S14.1 110 (nt k) / 8 * 8 = g 132 (nt k) := k1'
    have k2 : S14.1 110 (nt k) / 8 - S14.1 110 (nt k) / 8 / 16 * 16 = g 133 (nt k) := k2
    rw [k1', k2]
    refine ⟨vk, vk, Lfrees h14 c14 a14 hI1 hB1 (by omega) s0 s1 d5 d6 ⟨e6, gu_at⟩ (fun U hU => kz ?_)⟩
    have er : rLetGo g k = (0, gEnds g k) := by
      unfold rLetGo
      rw [if_pos ⟨k0, hx9⟩, if_pos ho]
    have hI2 : Iv (gEnds g k).2 := by have := Iv_letGo (k := k) hI; rw [er] at this; exact this
    unfold w_L_isSeat_644 w_L_isSeat_683
    have hU : lS S U (gEnds g k).2 := hU
    refine dz_10 (RA_c h hU) hI (RA_b h hU) hn (RA_go hU (by rw [er]) hI2 (LB_ends hI.1 hB k0 hx9 ho) (v := (gEnds g k).1) (by rw [er]; rfl) (fun S2 r2 => kz ⟨vd, ?_⟩))
    rw [lg_6 r2.2.2.1.1, ends_o (by omega)]
    refine ⟨fun w => absurd w (by lia), fun _ => ⟨fun w => absurd w z, fun _ => ⟨fun _ => q 0 _ S2 (by omega) (Or.inl rfl) (RA_C (by omega) r2) ?_ (ends_o (by omega)), fun w => absurd rfl w⟩⟩⟩
    have := fr_336 (g := gu (gu g 135 (nt k) 1) 127 (nt (48 * g 132 (nt k) + g 133 (nt k))) (-1)) (s := g 132 (nt k)) (p := g 133 (nt k)) n3.1 n3.2
    exact this
theorem S_buy {k age y0 : Int32} (h : RA n C g S) (hn : n < 20000) (hC : C ≤ 511) (h40 : g 336 0 ≤ 40) (k0 : 0 ≤ k) (k1 : k ≤ g 331 0) (ha : age = 121 ∨ 0 ≤ age ∧ age ≤ 120) (hy : y0 = 1 ∧ (k < g 331 0 ∧ g 135 (nt k) = 0) ∨ y0 = 0 ∧ ¬ (k < g 331 0 ∧ g 135 (nt k) = 0)) (q : SK n C g Q) : ((y0 = 0 → w_L_isSeat_738 Q age k S) ∧ (¬ y0 = 0 → ((121 ≤ age → w_L_isSeat_738 Q age k S) ∧ (¬ 121 ≤ age → (vp_in k 48 ∧ (vp_in ((S.1 110 (nt k)) - (S.1 110 (nt k)) / 8 * 8) 11 ∧ (vp_in ((8 * ((S.1 106 (nt ((S.1 110 (nt k)) - (S.1 110 (nt k)) / 8 * 8))) - (S.1 106 (nt ((S.1 110 (nt k)) - (S.1 110 (nt k)) / 8 * 8))) / 4 * 4)) + 1) 24 ∧ ((age < (S.1 104 (nt ((8 * ((S.1 106 (nt ((S.1 110 (nt k)) - (S.1 110 (nt k)) / 8 * 8))) - (S.1 106 (nt ((S.1 110 (nt k)) - (S.1 110 (nt k)) / 8 * 8))) / 4 * 4)) + 1))) → w_L_isSeat_738 Q age k S) ∧ (¬ age < (S.1 104 (nt ((8 * ((S.1 106 (nt ((S.1 110 (nt k)) - (S.1 110 (nt k)) / 8 * 8))) - (S.1 106 (nt ((S.1 110 (nt k)) - (S.1 110 (nt k)) / 8 * 8))) / 4 * 4)) + 1))) → w_L_isSeat_739 Q age k 1 S))))))))) := by
  have hI := h.2.1
  have hB := h.2.2.2.1
  have b1 := lb_1 hB
  obtain ⟨c302, c307, c316, b4, c331⟩ := lb_1 h.2.2.2.1
  have n3 := n336 (i_n hI)
  have hx := h.2.2.1.1
  have no : ¬ (k < g 331 0 ∧ g 135 (nt k) = 0 ∧ see g (g 132 (nt k)) age ∧ age ≠ 121) → w_L_isSeat_738 Q age k S := fun hno => by
    unfold w_L_isSeat_738 w_L_isSeat_739 w_L_isSeat_796 w_L_isSeat_848
    refine ⟨fun _ => ?_, fun z => absurd rfl z⟩
    by_cases e : k < g 331 0
    · by_cases a121 : age = 121
      · have er : rBuy g k age = (1, 0, g) := by
          unfold rBuy
          rw [if_pos ⟨k0, e⟩, if_neg (fun w => by have := w.2; lia)]
        refine dz_11 h.1 hI h.2.2.2.2 hn (RA_go (lS_rf h) (by rw [er]) hI hB (v := -2000000) (by rw [er, dva_1]) (fun S2 r2 => kz ⟨vd, ?_⟩))
        rw [lg_6 r2.2.2.1.1]
        exact ⟨fun w => absurd w (by lia), fun _ => ⟨fun _ => ⟨fun _ => SKs q r2, fun w => absurd rfl w⟩, fun w => absurd a121 w⟩⟩
      · have a2 := ha.resolve_left a121
        have er : rBuy g k age = (2, 0, g) := by
          unfold rBuy
          rw [if_pos ⟨k0, e⟩, if_pos a2, if_neg (fun w => hno ⟨e, w.1, w.2.1, a121⟩)]
        refine dz_11 h.1 hI h.2.2.2.2 hn (RA_go (lS_rf h) (by rw [er]) hI hB (v := -1000000) (by rw [er, dva_2]) (fun S2 r2 => kz ⟨vd, ?_⟩))
        rw [lg_6 r2.2.2.1.1]
        exact ⟨fun w => absurd w (by lia), fun _ => ⟨fun w => absurd w a121, fun _ => ⟨fun _ => ⟨fun _ => SKs q r2, fun w => absurd rfl w⟩, fun w => absurd rfl w⟩⟩⟩
    · have er : rBuy g k age = (3, 0, g) := by
        unfold rBuy
        rw [if_neg (fun w => e w.2)]
      refine dz_11 h.1 hI h.2.2.2.2 hn (RA_go (lS_rf h) (by rw [er]) hI hB (v := -3000000) (by rw [er, dva_3]) (fun S2 r2 => kz ⟨vd, ?_⟩))
      rw [lg_6 r2.2.2.1.1]
      exact ⟨fun _ => ⟨fun _ => SKs q r2, fun w => absurd rfl w⟩, fun w => absurd (by lia) w⟩
  refine ⟨fun z => no (fun o => by have w := (hy.resolve_left (fun o => by rw [z] at o; exact absurd o.1 (by decide))).2; exact w ⟨o.1, o.2.1⟩), fun z => ⟨fun y => no (fun o => o.2.2.2 (by rcases ha with w | w; exact w; exfalso; lia)), fun y => ?_⟩⟩
  obtain ⟨hx9, ho⟩ := (hy.resolve_right (fun o => z o.1)).2
  have a2 : 0 ≤ age ∧ age ≤ 120 := ha.resolve_left (fun w => y (by lia))
  obtain ⟨d1, d2, d3, d4, d5, d6⟩ := d_all hx hI.1 hB k0 hx9
  obtain ⟨s0, s1, p0, p1, e6, e7, -⟩ := hold_pl hI.1 k0 hx9 ho
  obtain ⟨cB, hB1⟩ := LB_end (i := nt (48 * g 132 (nt k) + g 133 (nt k))) hB k0 hx9 ho
  obtain ⟨f0, f1, -⟩ := ia_s hI.1 _ s0 s1
  have vk : vp_in k 48 := va k0 (by show _ < 48; lia)
  rw [d1, w_f hx hI.1 b1 s0 s1, f_age hx f0 f1]
  refine ⟨vk, va s0 (by show _ < 11; lia), va (by lia) (by show _ < 24; lia), fun w => no (fun o => by have := o.2.2.1; unfold see at this; lia), fun w => ?_⟩
  unfold w_L_isSeat_739
  refine ⟨fun z => absurd z (by decide), fun _ => ⟨vk, vk, ?_⟩⟩
  intro S14 e14
  have h14 : LX S14 (gu (gu g 135 (nt k) 1) 127 (nt (48 * g 132 (nt k) + g 133 (nt k))) (-1)) := by
    rw [e14]
    exact LX_end hx k0 hx9 (by lia) (by rw [((lx_d hx) k k0 hx9).1, ho]; lia) c331
  have c14 : clf S S14 := by rw [e14]; exact clf_l clf_rf
  have a14 : La0 S14 (gu (gu g 135 (nt k) 1) 127 (nt (48 * g 132 (nt k) + g 133 (nt k))) (-1)) (g 132 (nt k)) (g 133 (nt k)) := by
    rw [e14]
    exact La_end h.2.2.1.2 s0 (by lia) d5 d6
  clear e14
  have hI1 := Ia_end hI.1 k0 hx9 ho
  obtain ⟨k1', k2, -⟩ := d_all h14 hI1 hB1 k0 hx9
  have k1' : S14.1 110 (nt k) - S14.1 110 (nt k) / 8 * 8 = g 132 (nt k) := k1'
  have k2 : S14.1 110 (nt k) / 8 - S14.1 110 (nt k) / 8 / 16 * 16 = g 133 (nt k) := k2
  rw [k1', k2]
  have c1 := lb_1 hB1
  refine ⟨vk, vk, Lsells h14 c14 a14 hI1 c1 (by show g 336 0 ≤ 63; lia) s0 (by exact s1) d5 d6 (fun U hU => kz ?_)⟩
  have hU : lS S U (gBuy g k age) := hU
  have er : rBuy g k age = (0, g 336 0, gBuy g k age) := by
    unfold rBuy
    rw [if_pos ⟨k0, hx9⟩, if_pos a2, if_pos ⟨ho, by unfold see; lia, by lia⟩]
  have hI2 : Iv (gBuy g k age) := by have := Iv_buy (k := k) (age := age) hI; rw [er] at this; exact this
  have hB2 : LB (C + 4) (gBuy g k age) := by
    have := LB_sells (s := g 132 (nt k)) (p := g 133 (nt k)) hI1 hB1 a2.1 a2.2
    rw [show C - 4 + 8 = C + 4 by omega] at this
    exact this
  unfold w_L_isSeat_796 w_L_isSeat_848
  refine dz_11 (RA_c h hU) hI (RA_b h hU) hn (RA_go hU (by rw [er]) hI2 hB2 (v := g 336 0) (by rw [er, dva_0]) (fun S2 r2 => kz ⟨vd, ?_⟩))
  have e331 : gBuy g k age 331 0 = g 331 0 := rfl
  rw [lg_6 r2.2.2.1.1, e331]
  refine ⟨fun w => absurd w (by lia), fun _ => ⟨fun w => absurd w (by lia), fun _ => ⟨fun w => absurd w (by decide), fun _ => ⟨fun _ => q 1 _ S2 (by omega) (Or.inr h40) (RA_C (by omega) r2) ?_ rfl, fun w => absurd rfl w⟩⟩⟩⟩
  show nt (g 336 0) + 1 ≤ nt (g 336 0 + 1)
  rw [ntS n3.1 (by lia)]; omega
theorem S_sell {s wide r p age th fr9 se : Int32} (h : RA n C g S) (hn : n < 20000) (hC : C ≤ 511) (h40 : g 336 0 ≤ 40) (ha : age = 121 ∨ 0 ≤ age ∧ age ≤ 120) (hth : th = 1 ∧ isP g s r p ∨ th = 0 ∧ ¬ isP g s r p) (hw : isP g s r p → wide = g 104 (nt (g 123 (nt s)))) (hfr : fr9 = 1 ∧ (isP g s r p ∧ g 125 (nt s) = 0 ∧ fre g s (pla g s r p)) ∨ fr9 = 0 ∧ ¬ (isP g s r p ∧ g 125 (nt s) = 0 ∧ fre g s (pla g s r p))) (hse : se = 1 ∧ (isX g 321 s ∧ see g s age) ∨ se = 0 ∧ ¬ (isX g 321 s ∧ see g s age)) (q : SK n C g Q) : ((fr9 = 0 → w_L_isSeat_884 Q s wide r p age th S) ∧ (¬ fr9 = 0 → ((121 ≤ age → w_L_isSeat_884 Q s wide r p age th S) ∧ (¬ 121 ≤ age → ((se = 0 → w_L_isSeat_884 Q s wide r p age th S) ∧ (¬ se = 0 → w_L_isSeat_885 Q s wide r p age th 1 S)))))) := by
  have hI := h.2.1
  have hB := h.2.2.2.1
  have b1 := lb_1 hB
  obtain ⟨c302, c307, c316, b4, c331⟩ := lb_1 h.2.2.2.1
  have n3 := n336 (i_n hI)
  have hx := h.2.2.1.1
  have no : ¬ (fr9 = 1 ∧ age ≠ 121 ∧ se = 1) → w_L_isSeat_884 Q s wide r p age th S := fun hno => by
    unfold w_L_isSeat_884 w_L_isSeat_885 w_L_isSeat_921 w_L_isSeat_972
    refine ⟨fun _ => ?_, fun z => absurd rfl z⟩
    rcases hth with ⟨e, e2⟩ | ⟨e, e2⟩
    · by_cases a121 : age = 121
      · have er : rSell g s r p age = (1, 0, g) := by
          unfold rSell
          rw [if_pos e2, if_neg (fun w => by have := w.2; lia)]
        subst e
        exact dz_12 h.1 hI h.2.2.2.2 hn (RA_go (lS_rf h) (by rw [er]) hI hB (v := -2000000) (by rw [er, dva_1]) (fun S2 r2 => kz ⟨fun w => absurd w (by decide), fun _ => ⟨fun _ => ⟨fun _ => SKs q r2, fun w => absurd rfl w⟩, fun w => absurd a121 w⟩⟩))
      · have a2 := ha.resolve_left a121
        have er : rSell g s r p age = (2, 0, g) := by
          unfold rSell
          rw [if_pos e2, if_pos a2, if_neg]
          rintro ⟨u1, u2, u3, u4⟩
          exact hno ⟨(hfr.resolve_right (fun w => w.2 ⟨e2, u1, u2⟩)).1, a121, (hse.resolve_right (fun w => w.2 ⟨e2.1, u3⟩)).1⟩
        subst e
        exact dz_12 h.1 hI h.2.2.2.2 hn (RA_go (lS_rf h) (by rw [er]) hI hB (v := -1000000) (by rw [er, dva_2]) (fun S2 r2 => kz ⟨fun w => absurd w (by decide), fun _ => ⟨fun w => absurd w a121, fun _ => ⟨fun _ => ⟨fun _ => SKs q r2, fun w => absurd rfl w⟩, fun w => absurd rfl w⟩⟩⟩))
    · have er : rSell g s r p age = (3, 0, g) := by
        unfold rSell
        rw [if_neg e2]
      subst e
      exact dz_12 h.1 hI h.2.2.2.2 hn (RA_go (lS_rf h) (by rw [er]) hI hB (v := -3000000) (by rw [er, dva_3]) (fun S2 r2 => kz ⟨fun _ => ⟨fun _ => SKs q r2, fun w => absurd rfl w⟩, fun w => absurd rfl w⟩))
  refine ⟨fun z => no (fun o => by rw [z] at o; exact absurd o.1 (by decide)), fun z => ⟨fun y => no (fun o => o.2.1 (by rcases ha with w | w; exact w; exfalso; lia)), fun y => ⟨fun w => no (fun o => by rw [w] at o; exact absurd o.2.2 (by decide)), fun w => ?_⟩⟩⟩
  obtain ⟨eP, e125, efr⟩ := (hfr.resolve_right (fun o => z o.1)).2
  have esee := (hse.resolve_right (fun o => w o.1)).2.2
  have e3 := (hth.resolve_right (fun o => o.2 eP)).1
  have a2 : 0 ≤ age ∧ age ≤ 120 := ha.resolve_left (fun w => y (by lia))
  have ew := hw eP
  obtain ⟨p0, p1⟩ := pla_rng hI.1 eP
  have s0 := eP.1.1
  have s1 := eP.1.2
  have p2 := (wd12 hI.1 hB s0 s1).2
  have epl : wide * r + p = pla g s r p := by rw [ew]
  unfold w_L_isSeat_885
  rw [epl]
  refine ⟨fun z => absurd z (by decide), fun _ => Lsells hx clf_rf (fun x k x0 x1 k0 k1 _ => h.2.2.1.2 x k x0 x1 k0 k1) hI.1 b1 (by lia) s0 s1 p0 (by lia) (fun U hU => kz ?_)⟩
  have er : rSell g s r p age = (0, g 336 0, gSells g s (pla g s r p) age) := by
    unfold rSell
    rw [if_pos eP, if_pos a2, if_pos ⟨e125, efr, esee, by lia⟩]
  have hI2 : Iv (gSells g s (pla g s r p) age) := by have := Iv_sell (s := s) (r := r) (p := p) (age := age) hI; rw [er] at this; exact this
  unfold w_L_isSeat_921 w_L_isSeat_972
  subst e3
  refine dz_12 (RA_c h hU) hI (RA_b h hU) hn (RA_go hU (by rw [er]) hI2 (LB_sells hI.1 hB a2.1 a2.2) (v := g 336 0) (by rw [er, dva_0]) (fun S2 r2 => kz ⟨fun w => absurd w (by decide), fun _ => ⟨fun w => absurd w (by lia), fun _ => ⟨fun w => absurd w (by decide), fun _ => ⟨fun _ => q 1 _ S2 (by omega) (Or.inr h40) (RA_C (by omega) r2) ?_ rfl, fun w => absurd rfl w⟩⟩⟩⟩))
  show nt (g 336 0) + 1 ≤ nt (g 336 0 + 1)
  rw [ntS n3.1 (by lia)]; omega
end S2
