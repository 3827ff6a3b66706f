/-! isSeat: group whole, giveBack -/
section S5
variable {n C : Nat} {g : Gm} {S T : Sg} {s many : Int32} {Q : Nat → Int32 → Sg → Prop}
theorem G_sells {age at9 is ok : Int32} {G : Gm} {C9 : Nat} (s0 : 0 ≤ s) (s5 : s < 5) (a0 : 0 ≤ age) (a1 : age ≤ 120) (p0 : 0 ≤ at9) (p9 : at9 ≤ 48) (p1 : at9 + many ≤ 12) (m0 : 0 ≤ many) (m1 : many ≤ 8) {tk : Int32} (hfin : ∀ T, lS S T G → Ia G → LB C9 G → w_L_isSeat_1321 Q s is age many ok 1 tk T) : ∀ (d : Nat) (k : Int32) (g' : Gm) (T : Sg) (C' : Nat), d ≤ 10 → 0 ≤ k → k ≤ many → k + nI d = many → lS S T g' → Ia g' → LB C' g' → C' + 8 * d = C9 → s < g' 321 0 → at9 + many ≤ wd g' s → g' 336 0 + nI d ≤ 63 → (∀ i : Int32, at9 + k ≤ i → i < at9 + many → fre g' s i) → gGroup s age d (at9 + k) g' = G → w_L_isSeat_1280 Q (d + 1) s is age many ok at9 1 tk k T := by
  intro d
  induction d with
  | zero =>
    intro k g' T C' hd k0 k9 k1 hS hI hB hC hs hw h63 hf hG
    have ek : k = many := by rw [← k1]; show k = k + 0; lia
    have hG : g' = G := hG
    subst hG
    have hC : C' = C9 := hC
    subst hC
    rw [w_L_isSeat_1280]
    exact ⟨fun _ => hfin T hS hI hB, fun z => absurd (by lia) z⟩
  | succ d ih =>
    intro k g' T C' hd k0 k9 k1 hS hI hB hC hs hw h63 hf hG
    have e5 : (nI d).toInt = d := nI_toInt (by omega)
    have e6 : 0 ≤ nI d := by rw [z_le, e5]; exact Int.natCast_nonneg d
    have e7 : nI d ≤ 10 := by rw [z_le, e5]; show (d : Int) ≤ 10; omega
    have n3 := n336 (ia_n hI)
    rw [nI1] at k1 h63
    have kf := hf (at9 + k) (by lia) (by lia)
    rw [w_L_isSeat_1280]
    refine ⟨fun z => absurd z (by lia), fun _ => ⟨fun z => absurd z (by decide), fun _ => Lsells hS.1.1 hS.2 (fun x j x0 x1 j0 j1 _ => hS.1.2 x j x0 x1 j0 j1) hI (lb_1 hB) (by lia) s0 hs (by lia) (by lia) (fun U hU => kz ?_)⟩⟩
    refine ih (k + 1) (gSells g' s (at9 + k) age) U (C' + 8) (by omega) (by lia) (by lia) (by lia) hU (Ia_sells hI s0 hs (by lia) (by lia) kf (by lia)) (LB_sells hI hB a0 a1) (by omega) hs hw ?_ (fun i i0 i1 => ?_) ?_
    · show g' 336 0 + 1 + nI d ≤ 63
      lia
    · have fi := hf i (by lia) (by lia)
      have ne : ¬ nt (48 * s + i) = nt (48 * s + (at9 + k)) := fun z => by
        have := (ix_inj s0 (by lia) (show 0 ≤ i by lia) (by lia) s0 (by lia) (by lia) (by lia)).mp z
        lia
      have e6 : gSells g' s (at9 + k) age 126 (nt (48 * s + i)) = g' 126 (nt (48 * s + i)) := by
        unfold gSells
        rw [gu_ne (by simp), gu_ne (Or.inr ne), gu_ne (by simp), gu_ne (by simp), gu_ne (by simp), gu_ne (by simp)]
      have e7 : gSells g' s (at9 + k) age 127 (nt (48 * s + i)) = g' 127 (nt (48 * s + i)) := by
        unfold gSells
        rw [gu_ne (by simp), gu_ne (by simp), gu_ne (by simp), gu_ne (by simp), gu_ne (by simp), gu_ne (by simp)]
      exact ⟨e6.trans fi.1, e7.trans fi.2⟩
    · rw [show at9 + (k + 1) = at9 + k + 1 by lia]
      exact hG
theorem gGroup_o {age : Int32} {c i : Nat} (hc : c = 300) : ∀ (d : Nat) (p : Int32) (g : Gm), gGroup s age d p g c i = g c i
  | 0, p, g => rfl
  | d + 1, p, g => by
    show gGroup s age d (p + 1) (gSells g s p age) c i = g c i
    rw [gGroup_o hc d (p + 1) _]
    unfold gSells
    rw [gu_ne (Or.inl (by omega)), gu_ne (Or.inl (by omega)), gu_ne (Or.inl (by omega)), gu_ne (Or.inl (by omega)), gu_ne (Or.inl (by omega)), gu_ne (Or.inl (by omega))]
theorem gGroup_6 {age : Int32} : ∀ (d : Nat) (p : Int32) (g : Gm), gGroup s age d p g 336 0 = g 336 0 + nI d
  | 0, p, g => by show g 336 0 = g 336 0 + 0; lia
  | d + 1, p, g => by
    show gGroup s age d (p + 1) (gSells g s p age) 336 0 = _
    rw [gGroup_6 d (p + 1) _, nI1]
    show g 336 0 + 1 + nI d = _
    lia
theorem S_group {is rows wide age se : Int32} (h : RA n C g S) (hn : n < 20000) (hC : C ≤ 511) (h40 : g 336 0 ≤ 40) (s0 : 0 ≤ s) (his : is = 1 ∧ s < g 321 0 ∧ rows = g 103 (nt (g 123 (nt s))) ∧ wide = g 104 (nt (g 123 (nt s))) ∨ is = 0 ∧ s = g 321 0) (ha : age = 121 ∨ 0 ≤ age ∧ age ≤ 120) (hm : many = 9 ∨ 1 ≤ many ∧ many ≤ 4) (hse : se = 1 ∧ (isX g 321 s ∧ see g s age) ∨ se = 0 ∧ ¬ (isX g 321 s ∧ see g s age)) (q : SK n C g Q) : w_L_isSeat_1014 Q s is rows wide age se many S := by
  have hI := h.2.1
  have hB := h.2.2.2.1
  have b1 := lb_1 hB
  obtain ⟨c302, c307, c316, b4, c331⟩ := lb_1 h.2.2.2.1
  have n3 := n336 (i_n hI)
  have hx := h.2.2.1.1
  -- no sale
  have no : ∀ ok tk : Int32, (ok = 1 ∧ (inr many 2 8 ∧ inr age 0 120) ∨ ok = 0 ∧ ¬ (inr many 2 8 ∧ inr age 0 120)) → (is = 1 → ok = 1 → ¬ (g 125 (nt s) = 0 ∧ sid g s many ≠ -1 ∧ see g s age)) → w_L_isSeat_1321 Q s is age many ok 0 tk S := fun ok tk hok hno => by
    unfold w_L_isSeat_1321 w_L_isSeat_1367
    rcases his with ⟨e, e2, -⟩ | ⟨e, e2⟩
    · rcases hok with ⟨o, o2⟩ | ⟨o, o2⟩
      · have er : rGroup g s many age = (2, 0, g) := by
          unfold rGroup
          rw [if_pos ⟨s0, e2⟩, if_pos o2, if_neg (fun w => hno e o ⟨w.1, w.2.1, w.2.2.1⟩)]
        subst e; subst o
        exact dz_13 h.1 hI h.2.2.2.2 hn (RA_go (lS_rf h) (by rw [er]) hI hB (v := -1000000) (by rw [er, dva_2]) (fun S2 r2 => kz ⟨fun w => absurd w (by decide), fun _ => ⟨fun w => absurd w (by decide), fun _ => ⟨fun _ => ⟨fun _ => SKs q r2, fun w => absurd rfl w⟩, fun w => absurd rfl w⟩⟩⟩))
      · have er : rGroup g s many age = (1, 0, g) := by
          unfold rGroup
          rw [if_pos ⟨s0, e2⟩, if_neg o2]
        subst e; subst o
        exact dz_13 h.1 hI h.2.2.2.2 hn (RA_go (lS_rf h) (by rw [er]) hI hB (v := -2000000) (by rw [er, dva_1]) (fun S2 r2 => kz ⟨fun w => absurd w (by decide), fun _ => ⟨fun _ => ⟨fun _ => SKs q r2, fun w => absurd rfl w⟩, fun w => absurd rfl w⟩⟩))
    · have er : rGroup g s many age = (3, 0, g) := by
        unfold rGroup
        rw [if_neg (fun w => by have := w.2; lia)]
      subst e
      exact dz_13 h.1 hI h.2.2.2.2 hn (RA_go (lS_rf h) (by rw [er]) hI hB (v := -3000000) (by rw [er, dva_3]) (fun S2 r2 => kz ⟨fun _ => ⟨fun _ => SKs q r2, fun w => absurd rfl w⟩, fun w => absurd rfl w⟩))
  have no2 : ∀ ok at9 : Int32, (ok = 1 ∧ (inr many 2 8 ∧ inr age 0 120) ∨ ok = 0 ∧ ¬ (inr many 2 8 ∧ inr age 0 120)) → (is = 1 → ok = 1 → ¬ (g 125 (nt s) = 0 ∧ sid g s many ≠ -1 ∧ see g s age)) → w_L_isSeat_1267 Q s is age many ok at9 S := fun ok at9 hok hno => by
    unfold w_L_isSeat_1267 w_L_isSeat_1268
    refine ⟨vd, fun v30 _ => ⟨1, ?_⟩⟩
    rw [w_L_isSeat_1280]
    exact ⟨fun _ => no ok v30 hok hno, fun _ => ⟨fun _ => no ok v30 hok hno, fun z => absurd rfl z⟩⟩
  have out : ∀ ok : Int32, ¬ (is = 1 ∧ ok = 1) → (ok = 1 ∧ (inr many 2 8 ∧ inr age 0 120) ∨ ok = 0 ∧ ¬ (inr many 2 8 ∧ inr age 0 120)) → w_L_isSeat_1041 Q s is rows wide age se many ok S := fun ok hb hok => by
    unfold w_L_isSeat_1041
    refine ⟨1, ?_⟩
    have f1 : w_L_isSeat_1253 Q s is age se many ok (-1) S := by
      unfold w_L_isSeat_1253
      exact ⟨fun _ => no2 ok (-1) hok (fun z1 z2 => absurd ⟨z1, z2⟩ hb), fun z => absurd (by decide) z⟩
    rw [w_L_isSeat_1049]
    refine ⟨fun _ => f1, fun _ => ⟨fun _ => f1, fun z => ⟨fun _ => f1, fun y => ?_⟩⟩⟩
    exact absurd ⟨by rcases his with w | w; exact w.1; exact absurd w.1 z, (hok.resolve_right (fun o => y o.1)).1⟩ hb
  have go : inr many 2 8 ∧ inr age 0 120 → w_L_isSeat_1041 Q s is rows wide age se many 1 S := fun hma => by
    by_cases e1 : is = 1
    · obtain ⟨s1, er, ew⟩ := (his.resolve_right (fun o => by rw [e1] at o; exact absurd o.1 (by decide))).2
      subst e1
      unfold w_L_isSeat_1041
      refine G_find h s0 s1 hma.1.1 hma.1.2 er ew (fun at9 a1 a2 => ?_)
      unfold w_L_isSeat_1253
      refine ⟨fun z => no2 1 at9 (Or.inl ⟨rfl, hma⟩) (fun _ _ o => ?_), fun z => ⟨fun y => no2 1 at9 (Or.inl ⟨rfl, hma⟩) (fun _ _ o => ?_), fun y => ?_⟩⟩
      · have ea := a1 o.1
        obtain ⟨p0, -⟩ := sid_ok hI.1 s0 s1 hma.1.1 hma.1.2 o.2.1
        lia
      · exact (hse.resolve_left (fun w => by rw [y] at w; exact absurd w.1 (by decide))).2 ⟨⟨s0, s1⟩, o.2.2⟩
      · have st : g 125 (nt s) = 0 := by
          by_cases w : g 125 (nt s) = 0
          · exact w
          · have := a2 w; rw [this] at z; exact absurd (by decide) z
        have ea := a1 st
        have hs9 : sid g s many ≠ -1 := fun w => by rw [← ea] at w; lia
        have esee := (hse.resolve_right (fun o => y o.1)).2.2
        obtain ⟨p0, p1, p2, p3⟩ := sid_ok hI.1 s0 s1 hma.1.1 hma.1.2 hs9
        have w12 := (wd12 hI.1 hB s0 s1).2
        have m4 : many ≤ 4 := by
          rcases hm with w | w
          · have := hma.1.2; exfalso; lia
          · exact w.2
        have em : nI (nt many) = many := nI_nt0 (by have := hma.1.1; lia)
        have m8 := nt_le (x := many) (n := 4) (by decide) (show many ≤ 4 from m4)
        unfold w_L_isSeat_1268
        rw [lg_7 hx]
        refine ⟨vd, ?_⟩
        rintro v30 rfl
        rw [← ea] at p0 p1 p2 p3
        refine ⟨nt many + 1, G_sells (G := gGroup s age (nt many) at9 g) (C9 := C + 8 * nt many) s0 (by lia) hma.2.1 hma.2.2 p0 p2 (by lia) (by have := hma.1.1; lia) hma.1.2 (fun U hU hIU hBU => ?_) (nt many) 0 g S C (by omega) (by decide) (by have := hma.1.1; lia) (by rw [em]; lia) (lS_rf h) hI.1 hB rfl s1 p1 (by rw [em]; lia) (fun i i0 i1 => p3 i (by lia) i1) (by rw [show at9 + 0 = at9 by lia])⟩
        have er2 : rGroup g s many age = (0, g 336 0, gGroup s age (nt many) at9 g) := by
          unfold rGroup
          rw [if_pos ⟨s0, s1⟩, if_pos hma, if_pos ⟨st, hs9, esee, by lia⟩, ← ea]
        have hI2 : Iv (gGroup s age (nt many) at9 g) := by have := Iv_group (s := s) (many := many) (age := age) hI; rw [er2] at this; exact this
        unfold w_L_isSeat_1321 w_L_isSeat_1367
        have e336 := gGroup_6 (s := s) (age := age) (nt many) at9 g
        rw [em] at e336
        refine dz_13 (RA_c h hU) hI (RA_b h hU) hn (RA_go hU (by rw [er2]) hI2 hBU (v := g 336 0) (by rw [er2, dva_0]) (fun S2 r2 => kz ⟨fun w => absurd w (by decide), fun _ => ⟨fun w => absurd w (by decide), fun _ => ⟨fun w => absurd w (by decide), fun _ => ⟨fun _ => q (nt many) _ S2 m8 (Or.inr h40) (RA_C (by omega) r2) ?_ (gGroup_o rfl _ _ _), fun w => absurd rfl w⟩⟩⟩⟩))
        rw [e336, nt_add n3.1 (by have := hma.1.1; lia) (by lia) (by lia)]
        omega
    · exact out 1 (fun o => e1 o.1) (Or.inl ⟨rfl, hma⟩)
  unfold w_L_isSeat_1014 w_L_isSeat_1040
  refine ⟨fun z => out 0 (fun o => absurd o.2 (by decide)) (Or.inr ⟨rfl, fun o => by have := o.1.1; lia⟩), fun z => ⟨fun y => out 0 (fun o => absurd o.2 (by decide)) (Or.inr ⟨rfl, fun o => by have := o.1.2; lia⟩), fun y => ⟨fun w => out 0 (fun o => absurd o.2 (by decide)) (Or.inr ⟨rfl, fun o => by have := o.2.2; lia⟩), fun w => go ⟨⟨by lia, by lia⟩, ha.elim (fun o => absurd o (by lia)) id⟩⟩⟩⟩
/-! giveBack -/
theorem LX_back {t v : Int32} {i : Nat} (h : LX S g) (t0 : 0 ≤ t) (t1 : t < g 336 0) (hv : v = g 137 (nt t) + 8 * (g 138 (nt t) + 16 * (g 139 (nt t) + 128 * 1))) : LX (su (su S 109 (nt t) 0) 108 (nt t) v) (gu (gu (gu g 140 (nt t) 0) 141 (nt t) 1) 126 i (-1)) := by
  obtain ⟨x0, x1, x2, x3, x4, x5, x6, x7⟩ := h
  refine ⟨x0, x1, x2, x3, x4, ?_, x6, x7⟩
  intro j j0 j1
  have j1 : j < g 336 0 := j1
  have e0 : (gu (gu (gu g 140 (nt t) 0) 141 (nt t) 1) 126 i (-1)) 140 (nt j) = if nt j = nt t then 0 else g 140 (nt j) := by
    rw [gu_ne (Or.inl (by decide)), gu_ne (Or.inl (by decide))]
    by_cases z : nt j = nt t
    · rw [if_pos z, z, gu_at]
    · rw [if_neg z, gu_ne (Or.inr z)]
  have e1 : (gu (gu (gu g 140 (nt t) 0) 141 (nt t) 1) 126 i (-1)) 141 (nt j) = if nt j = nt t then 1 else g 141 (nt j) := by
    rw [gu_ne (Or.inl (by decide))]
    by_cases z : nt j = nt t
    · rw [if_pos z, z, gu_at]
    · rw [if_neg z, gu_ne (Or.inr z), gu_ne (Or.inl (by decide))]
  have d0 : (su (su S 109 (nt t) 0) 108 (nt t) v).1 109 (nt j) = if nt j = nt t then 0 else S.1 109 (nt j) := by
    rw [su_ne (Or.inl (by decide))]
    by_cases z : nt j = nt t
    · rw [if_pos z, z, su_at]
    · rw [if_neg z, su_ne (Or.inr z)]
  have d1 : (su (su S 109 (nt t) 0) 108 (nt t) v).1 108 (nt j) = if nt j = nt t then v else S.1 108 (nt j) := by
    by_cases z : nt j = nt t
    · rw [if_pos z, z, su_at]
    · rw [if_neg z, su_ne (Or.inr z), su_ne (Or.inl (by decide))]
  rw [e0, e1, d0, d1]
  show (if nt j = nt t then v else S.1 108 (nt j)) = g 137 (nt j) + 8 * (g 138 (nt j) + 16 * (g 139 (nt j) + 128 * (if nt j = nt t then 1 else g 141 (nt j)))) ∧ _
  by_cases z : nt j = nt t
  · rw [if_pos z, if_pos z, if_pos z, if_pos z, z]
    exact ⟨hv, rfl⟩
  · rw [if_neg z, if_neg z, if_neg z, if_neg z]
    exact x5 j j0 j1
theorem S_back {t y0 : Int32} (h : RA n C g S) (hn : n < 20000) (hC : C ≤ 511) (t0 : 0 ≤ t) (t1 : t ≤ g 336 0) (hy : y0 = 1 ∧ t < g 336 0 ∨ y0 = 0 ∧ t = g 336 0) (q : SK n C g Q) : w_L_isSeat_1409 Q t y0 S := by
  have hI := h.2.1
  have hB := h.2.2.2.1
  have b1 := lb_1 hB
  obtain ⟨c302, c307, c316, b4, c331⟩ := lb_1 h.2.2.2.1
  have n3 := n336 (i_n hI)
  have n63 := n336_le hB hC n3.1
  have hx := h.2.2.1.1
  have no : (y0 = 1 → ¬ (g 125 (nt (g 137 (nt t))) = 0 ∧ g 141 (nt t) = 0)) → w_L_isSeat_1446 Q t y0 S := fun hno => by
    unfold w_L_isSeat_1446 w_L_isSeat_1447 w_L_isSeat_1516 w_L_isSeat_1550
    refine ⟨fun _ => ?_, fun z => absurd rfl z⟩
    rcases hy with ⟨e, e2⟩ | ⟨e, e2⟩
    · have er : rBack g t = (2, 0, g) := by
        unfold rBack
        rw [if_pos ⟨t0, e2⟩, if_neg (hno e)]
      subst e
      exact dz_14 h.1 hI h.2.2.2.2 hn (RA_go (lS_rf h) (by rw [er]) hI hB (v := -1000000) (by rw [er, dva_2]) (fun S2 r2 => kz ⟨fun w => absurd w (by decide), fun _ => ⟨fun _ => ⟨fun _ => SKs q r2, fun w => absurd rfl w⟩, fun w => absurd rfl w⟩⟩))
    · have er : rBack g t = (3, 0, g) := by
        unfold rBack
        rw [if_neg (fun w => by have := w.2; lia)]
      subst e
      exact dz_14 h.1 hI h.2.2.2.2 hn (RA_go (lS_rf h) (by rw [er]) hI hB (v := -3000000) (by rw [er, dva_3]) (fun S2 r2 => kz ⟨fun _ => ⟨fun _ => SKs q r2, fun w => absurd rfl w⟩, fun w => absurd rfl w⟩))
  unfold w_L_isSeat_1409
  refine ⟨fun z => no (fun w => by rw [z] at w; exact absurd w (by decide)), fun z => ?_⟩
  have hlt := (hy.resolve_right (fun o => z o.1)).2
  have ey := (hy.resolve_right (fun o => z o.1)).1
  obtain ⟨d1, d2, d3, d4, d5, d6, d7, d8⟩ := t_all hx hI.1 hB t0 hlt
  obtain ⟨s0, s1, p0, p1, o141, -, -, -, o126⟩ := ia_t hI.1 t t0 hlt
  have vt : vp_in t 64 := va t0 (by show _ < 64; lia)
  rw [d5, d1]
  refine ⟨vt, fun y => no (fun _ w => by rw [y] at w; exact absurd w.2 (by decide)), fun y => ⟨vt, Lstate hx hI.1 b1 s0 s1 (kz ⟨fun w => ?_, fun w => no (fun _ u => w u.1)⟩)⟩⟩
  have ho : g 141 (nt t) = 0 := o141.resolve_right y
  unfold w_L_isSeat_1447
  refine ⟨fun z => absurd z (by decide), fun _ => ⟨vt, ?_⟩⟩
  intro v15 e15
  rw [d6] at e15
  refine ⟨vt, ?_⟩
  intro S16 e16
  refine ⟨vt, vt, ?_⟩
  have m16 : S16.1 108 (nt t) = S.1 108 (nt t) := by rw [e16, su_ne (Or.inl (by decide))]
  rw [m16]
  intro S17 e17
  have hI1 := Ia_back hI.1 t0 hlt ho
  have hB1 : LB C (gu (gu (gu g 140 (nt t) 0) 141 (nt t) 1) 126 (nt (48 * g 137 (nt t) + g 138 (nt t))) (-1)) := LB_same hB (fun c i hc => by rw [gu_ne (Or.inl (by omega)), gu_ne (Or.inl (by omega)), gu_ne (Or.inl (by omega))])
  have h17 : LX S17 (gu (gu (gu g 140 (nt t) 0) 141 (nt t) 1) 126 (nt (48 * g 137 (nt t) + g 138 (nt t))) (-1)) := by
    rw [e17, e16]
    exact LX_back hx t0 hlt (by rw [((lx_t hx) t t0 hlt).1, ho]; lia)
  have c17 : clf S S17 := by rw [e17, e16]; exact clf_l (clf_l clf_rf)
  have a17 : La0 S17 (gu (gu (gu g 140 (nt t) 0) 141 (nt t) 1) 126 (nt (48 * g 137 (nt t) + g 138 (nt t))) (-1)) (g 137 (nt t)) (g 138 (nt t)) := by
    intro x k x0 x1 k0 k1 ne
    rw [e17, e16, su_ne (Or.inl (by decide)), su_ne (Or.inl (by decide)), gu_ne (Or.inr (fun e => ne ((ix_inj x0 (by lia) k0 (by lia) s0 (by lia) d7 (by lia)).mp e))), gu_ne (Or.inl (by decide)), gu_ne (Or.inl (by decide)), gu_ne (Or.inl (by decide)), gu_ne (Or.inl (by decide)), gu_ne (Or.inl (by decide))]
    exact h.2.2.1.2 x k x0 x1 k0 k1
  have hf9 : fre (gu (gu (gu g 140 (nt t) 0) 141 (nt t) 1) 126 (nt (48 * g 137 (nt t) + g 138 (nt t))) (-1)) (g 137 (nt t)) (g 138 (nt t)) := by
    refine ⟨gu_at, ?_⟩
    rw [gu_ne (Or.inl (by decide)), gu_ne (Or.inl (by decide)), gu_ne (Or.inl (by decide))]
    rcases (ia_pl hI.1 _ _ s0 (by lia) d7 (by lia)).1 with w9 | w9
    · have := o126 ho; exfalso; rw [w9] at this; lia
    · exact w9.2.2.1
  clear e17 e16 m16
  obtain ⟨k1, k2, -⟩ := t_all h17 hI1 hB1 t0 hlt
  have k1 : S17.1 108 (nt t) - S17.1 108 (nt t) / 8 * 8 = g 137 (nt t) := k1
  have k2 : S17.1 108 (nt t) / 8 - S17.1 108 (nt t) / 8 / 16 * 16 = g 138 (nt t) := k2
  rw [k1, k2]
  refine ⟨vt, vt, Lfrees h17 c17 a17 hI1 hB1 hC s0 s1 d7 d8 hf9 (fun U hU => kz ?_)⟩
  have hU : lS S U (gBack g t) := hU
  have er : rBack g t = (0, g 140 (nt t), gBack g t) := by
    unfold rBack
    rw [if_pos ⟨t0, hlt⟩, if_pos ⟨w, ho⟩]
  have hI2 : Iv (gBack g t) := by have := Iv_back (t := t) hI; rw [er] at this; exact this
  have hB2 : LB (C + 4) (gBack g t) := LB_frees hI1 hB1 s0 s1
  unfold w_L_isSeat_1516 w_L_isSeat_1550
  subst ey
  refine dz_14 (RA_c h hU) hI (RA_b h hU) hn (RA_go hU (by rw [er]) hI2 hB2 (v := g 140 (nt t)) (by rw [er, dva_0]) (fun S2 r2 => kz ⟨fun w => absurd w (by decide), fun _ => ⟨fun w => absurd w (by decide), fun _ => ⟨fun _ => q 0 _ S2 (by omega) (Or.inl rfl) r2 ?_ ?_, fun w => absurd e15.symm w⟩⟩⟩))
  · exact fr_336 (g := gu (gu (gu g 140 (nt t) 0) 141 (nt t) 1) 126 (nt (48 * g 137 (nt t) + g 138 (nt t))) (-1)) (s := g 137 (nt t)) (p := g 138 (nt t)) n3.1 n3.2
  · unfold gBack
    rw [frees_o (by omega), gu_ne (Or.inl (by decide)), gu_ne (Or.inl (by decide)), gu_ne (Or.inl (by decide))]
end S5
