/-! isSeat: the bounds of a sale; holds -/
section S1
variable {n C : Nat} {g : Gm} {S T : Sg} {Q : Nat → Int32 → Sg → Prop}
theorem LB_le {C' : Nat} (hC : C ≤ C') (hB : LB C g) : LB C' g := ⟨hB.1, hB.2.1, hB.2.2.1, hB.2.2.2.1, Nat.le_trans hB.2.2.2.2.1 hC, hB.2.2.2.2.2⟩
theorem RA_C {C' : Nat} (hC : C ≤ C') (h : RA n C g S) : RA n C' g S := ⟨h.1, h.2.1, h.2.2.1, LB_le hC h.2.2.2.1, h.2.2.2.2⟩
theorem LB_sells {s p a : Int32} (hI : Ia g) (hB : LB C g) (a0 : 0 ≤ a) (a1 : a ≤ 120) : LB (C + 8) (gSells g s p a) := by
  obtain ⟨b1, b2, b3, b4, b5, b6⟩ := hB
  have n3 := n336 (ia_n hI)
  refine ⟨b1, b2, fun t t0 t1 => ?_, b4, ?_, b6⟩
  · have t1 : t < g 336 0 + 1 := t1
    have e : gSells g s p a 139 (nt t) = if nt t = nt (g 336 0) then a else g 139 (nt t) := by
      unfold gSells
      rw [gu_ne (by simp), gu_ne (by simp), gu_ne (by simp)]
      by_cases z : nt t = nt (g 336 0)
      · rw [if_pos z, z, gu_at]
      · rw [if_neg z, gu_ne (Or.inr z), gu_ne (by simp), gu_ne (by simp)]
    rw [e]
    split
    · exact ⟨a0, a1⟩
    · rename_i ne
      exact b3 t t0 ((i32_lt1 t1 n3.1 (by lia)).resolve_right (fun z => ne (by rw [z])))
  · unfold PB at b5
    show 8 * nt (g 336 0 + 1) + 4 * hN (gSells g s p a) (nt (g 331 0)) + 4 * lnN (gSells g s p a) (nt (g 321 0)) ≤ C + 8
    rw [hN_congr (g := g) (g1 := gSells g s p a) _ (fun i _ => rfl), lnN_congr (g := g) (g1 := gSells g s p a) _ (fun i _ => rfl), ntS n3.1 (by lia)]
    omega
theorem a_free {s p : Int32} (h : La S g) (hI : Ia g) (hB : B1 g) (s0 : 0 ≤ s) (s1 : s < 5) (p0 : 0 ≤ p) (p1 : p < 12) : S.1 107 (nt (12 * s + p)) = 0 ↔ fre g s p := by
  obtain ⟨-, -, -, b21, b31⟩ := hB
  have n3 := n336 (ia_n hI)
  obtain ⟨q1, q2⟩ := ia_pl hI s p s0 (by lia) p0 (by lia)
  rw [h s p s0 s1 p0 p1]
  exact (eA_0 (q1.elim Or.inl (fun z => Or.inr ⟨z.1, by have := z.2.1; lia⟩)) (q2.elim Or.inl (fun z => Or.inr ⟨z.1, by have := z.2.1; lia⟩))).1
theorem LR_hold {s p m : Int32} (h : LR S g) (hI : Ia g) (n0 : 0 ≤ g 331 0) (n1 : g 331 0 < 24) (s0 : 0 ≤ s) (s1 : s < 5) (p0 : 0 ≤ p) (p1 : p < 12) (hf : g 126 (nt (48 * s + p)) = -1) (e : T = su (su (su (su S 110 (nt (g 331 0)) (s + 8 * p)) 110 (nt (24 + g 331 0)) (if g 124 (nt s) ≤ g 300 0 + m then g 124 (nt s) else g 300 0 + m)) 107 (nt (12 * s + p)) (-1 - g 331 0)) 112 (nt 6) (g 331 0 + 1)) : LR T (gHold g s p m) := by
  obtain ⟨⟨⟨l0, l1, l2, l3, l4, l5, l6, l7⟩, x1, x2, x3, x4, x5, x6, x7⟩, ha⟩ := h
  generalize hu : (if g 124 (nt s) ≤ g 300 0 + m then g 124 (nt s) else g 300 0 + m) = u at e
  have k : ∀ c i, c ≠ 110 → c ≠ 112 → c ≠ 107 → T.1 c i = S.1 c i := fun c i z1 z2 z3 => by
    rw [e, su_ne (Or.inl z2), su_ne (Or.inl z3), su_ne (Or.inl z1), su_ne (Or.inl z1)]
  have dn : ∀ j : Nat, j ≠ nt 6 → T.1 112 j = S.1 112 j := fun j hj => by rw [e, su_ne (Or.inr hj), su_ne (Or.inl (by decide)), su_ne (Or.inl (by decide)), su_ne (Or.inl (by decide))]
  have d6 : T.1 112 (nt 6) = g 331 0 + 1 := by rw [e, su_at]
  have A : ∀ j : Nat, T.1 110 j = if j = nt (24 + g 331 0) then u else if j = nt (g 331 0) then s + 8 * p else S.1 110 j := fun j => by
    rw [e, su_ne (Or.inl (by decide)), su_ne (Or.inl (by decide))]
    simp only [su, true_and]
  have A7 : ∀ j : Nat, T.1 107 j = if j = nt (12 * s + p) then -1 - g 331 0 else S.1 107 j := fun j => by
    rw [e, su_ne (Or.inl (by decide))]
    by_cases z : j = nt (12 * s + p)
    · rw [if_pos z, z, su_at]
    · rw [if_neg z, su_ne (Or.inr z), su_ne (Or.inl (by decide)), su_ne (Or.inl (by decide))]
  clear e
  have e331 : gHold g s p m 331 0 = g 331 0 + 1 := by unfold gHold; rw [gu_at]
  have s135 := ia_ou hI (g 331 0) (by lia) (by lia)
  have G : ∀ (i : Int32), 0 ≤ i → gHold g s p m 132 (nt i) = (if i = g 331 0 then s else g 132 (nt i)) ∧ gHold g s p m 133 (nt i) = (if i = g 331 0 then p else g 133 (nt i)) ∧ gHold g s p m 134 (nt i) = (if i = g 331 0 then u else g 134 (nt i)) ∧ gHold g s p m 135 (nt i) = g 135 (nt i) := fun i i0 => by
    have q := nt_inj i0 n0
    unfold gHold
    rw [hu]
    simp [gu, q]
  have G7 : ∀ j : Nat, gHold g s p m 127 j = if j = nt (48 * s + p) then g 331 0 else g 127 j := fun j => by
    unfold gHold
    rw [gu_ne (by simp)]
    by_cases z : j = nt (48 * s + p)
    · rw [if_pos z, z, gu_at]
    · rw [if_neg z, gu_ne (Or.inr z), gu_ne (by simp), gu_ne (by simp), gu_ne (by simp)]
  have G6 : ∀ j : Nat, gHold g s p m 126 j = g 126 j := fun j => by
    unfold gHold
    rw [gu_ne (by simp), gu_ne (by simp), gu_ne (by simp), gu_ne (by simp), gu_ne (by simp)]
  refine ⟨⟨⟨(dn _ (by decide)).trans l0, (dn _ (by decide)).trans l1, (dn _ (by decide)).trans l2, (dn _ (by decide)).trans l3, (dn _ (by decide)).trans l4, (dn _ (by decide)).trans l5, d6.trans e331.symm, (dn _ (by decide)).trans l7⟩, ⟨fun i x y => ?_, fun i x y => ?_⟩, ⟨fun i i0 i1 => ?_, fun i i0 i1 => ?_⟩, fun i x y => ?_, fun i x y => ?_, fun i x y => ?_, fun i x y => ?_, fun s n x y z w => ?_⟩, fun x q x0 x1 q0 q1 => ?_⟩
  · rw [k _ _ (by decide) (by decide) (by decide), k _ _ (by decide) (by decide) (by decide)]; exact x1.1 i x y
  · rw [k _ _ (by decide) (by decide) (by decide)]; exact x1.2 i x y
  · rw [k _ _ (by decide) (by decide) (by decide), k _ _ (by decide) (by decide) (by decide), k _ _ (by decide) (by decide) (by decide), k _ _ (by decide) (by decide) (by decide), k _ _ (by decide) (by decide) (by decide)]; exact x2.1 i i0 i1
  · rw [k _ _ (by decide) (by decide) (by decide), k _ _ (by decide) (by decide) (by decide), k _ _ (by decide) (by decide) (by decide)]; exact x2.2 i i0 i1
  · rw [k _ _ (by decide) (by decide) (by decide), k _ _ (by decide) (by decide) (by decide), k _ _ (by decide) (by decide) (by decide)]; exact x3 i x y
  · rw [k _ _ (by decide) (by decide) (by decide), k _ _ (by decide) (by decide) (by decide)]; exact x4 i x y
  · rw [k _ _ (by decide) (by decide) (by decide), k _ _ (by decide) (by decide) (by decide)]; exact x5 i x y
  · rw [e331] at y
    obtain ⟨q1, q2, q3, q4⟩ := G i x
    rw [q1, q2, q3, q4, A, A, if_neg (show ¬ nt i = nt (24 + g 331 0) from fun z => by rw [nt_inj x (by lia)] at z; lia)]
    rcases i32_lt1 y n0 (by lia) with z | z
    · have ne : ¬ i = g 331 0 := fun q => by rw [q] at z; lia
      rw [if_neg (show ¬ nt i = nt (g 331 0) from fun z => ne ((nt_inj x n0).mp z)), if_neg (show ¬ nt (24 + i) = nt (24 + g 331 0) from fun z => by rw [nt_inj (by lia) (by lia)] at z; lia), if_neg (show ¬ nt (24 + i) = nt (g 331 0) from fun z => by rw [nt_inj (by lia) (by lia)] at z; lia), if_neg ne, if_neg ne, if_neg ne]
      exact x6 i x z
    · rw [z, if_pos rfl, if_pos rfl, if_pos rfl, if_pos rfl, if_pos rfl, s135]
      exact ⟨by lia, rfl⟩
  · rw [k _ _ (by decide) (by decide) (by decide)]; exact x7 s n x y z w
  · rw [A7, G7, G6]
    by_cases z : x = s ∧ q = p
    · obtain ⟨rfl, rfl⟩ := z
      rw [if_pos rfl, if_pos rfl, hf]
      unfold eA
      rw [if_pos rfl, if_neg (by lia)]
    · rw [if_neg (fun e => z ((a_inj x0 x1 q0 q1 s0 s1 p0 p1).mp e)), if_neg (fun e => z ((ix_inj x0 (by lia) q0 (by lia) s0 (by lia) p0 (by lia)).mp e))]
      exact ha x q x0 x1 q0 q1
theorem LB_hold {s p m : Int32} (hB : LB C g) (hI : Ia g) (h0 : 0 ≤ g 331 0) (h1 : g 331 0 < 24) : LB (C + 4) (gHold g s p m) := by
  obtain ⟨⟨b0, b1, b1', b1'', b1'''⟩, b2, b3, b4, b5, b6⟩ := hB
  refine ⟨⟨b0, b1, b1', b1'', by show g 331 0 + 1 ≤ 24; lia⟩, b2, b3, b4, ?_, b6⟩
  show 8 * nt (g 336 0) + 4 * hN (gHold g s p m) (nt (g 331 0 + 1)) + 4 * lnN (gHold g s p m) (nt (g 321 0)) ≤ C + 4
  have e : hN g (nt (g 331 0 + 1)) ≤ hN g (nt (g 331 0)) + 1 := by
    rw [ntS h0 (by lia)]
    show hN g (nt (g 331 0)) + (if g 135 (nt (g 331 0)) = 0 then 1 else 0) ≤ _
    split <;> omega
  unfold PB at b5
  rw [hN_congr (g := g) (g1 := gHold g s p m) _ (fun i _ => rfl), lnN_congr (g := g) (g1 := gHold g s p m) _ (fun i _ => rfl)]
  omega
/-- how a case of isSeat goes on: j tickets sold by hand -/
def SK (n C : Nat) (g : Gm) (Q : Nat → Int32 → Sg → Prop) : Prop := ∀ (j : Nat) g1 T, j ≤ 4 → (j = 0 ∨ g 336 0 ≤ 40) → RA (n + 1) (C + 4 + 7 * j) g1 T → nt (g 336 0) + j ≤ nt (g1 336 0) → g1 300 0 = g 300 0 → Q 0 1 T
theorem SK0 (h : RA n C g S) (q : SK n C g Q) : Q 0 1 S := q 0 g S (by omega) (Or.inl rfl) (RA_C (by omega) (RA_up h)) (by omega) rfl
theorem SKs {T : Sg} (q : SK n C g Q) (h : RA (n + 1) C g T) : Q 0 1 T := q 0 g T (by omega) (Or.inl rfl) (RA_C (by omega) h) (by omega) rfl
theorem S_hold {s rows wide r p m th fr9 : Int32} (h : RA n C g S) (hn : n < 20000) (h2 : g 331 0 < 24) (hth : th = 1 ∧ isP g s r p ∨ th = 0 ∧ ¬ isP g s r p) (hw : isP g s r p → wide = g 104 (nt (g 123 (nt s)))) (hfr : fr9 = 1 ∧ (isP g s r p ∧ g 125 (nt s) = 0 ∧ fre g s (pla g s r p)) ∨ fr9 = 0 ∧ ¬ (isP g s r p ∧ g 125 (nt s) = 0 ∧ fre g s (pla g s r p))) (q : SK n C g Q) : w_L_isSeat_340 Q s wide r p th fr9 m S := by
  have hI := h.2.1
  obtain ⟨c302, c307, c316, b4, c331⟩ := lb_1 h.2.2.2.1
  obtain ⟨m0, m1, -, -, -, -, -, -, -, -, n21, -, n0, -⟩ := i_n hI
  have hx := h.2.2.1.1
  have no : ∀ ok : Int32, (ok = 1 ∧ inr m 1 5000 ∨ ok = 0 ∧ ¬ inr m 1 5000) → ¬ (fr9 = 1 ∧ ok = 1) → w_L_isSeat_376 Q s wide r p th m ok S := fun ok hok hno => by
    unfold w_L_isSeat_376 w_L_isSeat_377 w_L_isSeat_482 w_L_isSeat_534
    refine ⟨fun _ => ?_, fun z => absurd rfl z⟩
    rcases hth with ⟨e, e2⟩ | ⟨e, e2⟩
    · rcases hok with ⟨o, o2⟩ | ⟨o, o2⟩
      · have er : rHold g s r p m = (2, 0, g) := by
          unfold rHold
          rw [if_pos e2, if_pos o2, if_neg]
          rintro ⟨u1, u2, u3⟩
          exact hno ⟨(hfr.resolve_right (fun w => w.2 ⟨e2, u1, u2⟩)).1, o⟩
        subst e; subst o
        exact dz_9 h.1 hI h.2.2.2.2 hn (RA_go (lS_rf h) (by rw [er]) hI h.2.2.2.1 (v := -1000000) (by rw [er, dva_2]) (fun S2 r2 => kz ⟨fun z => absurd z (by decide), fun _ => ⟨fun z => absurd z (by decide), fun _ => ⟨fun _ => ⟨fun _ => SKs q r2, fun z => absurd rfl z⟩, fun z => absurd rfl z⟩⟩⟩))
      · have er : rHold g s r p m = (1, 0, g) := by
          unfold rHold
          rw [if_pos e2, if_neg o2]
        subst e; subst o
        exact dz_9 h.1 hI h.2.2.2.2 hn (RA_go (lS_rf h) (by rw [er]) hI h.2.2.2.1 (v := -2000000) (by rw [er, dva_1]) (fun S2 r2 => kz ⟨fun z => absurd z (by decide), fun _ => ⟨fun _ => ⟨fun _ => SKs q r2, fun z => absurd rfl z⟩, fun z => absurd rfl z⟩⟩))
    · have er : rHold g s r p m = (3, 0, g) := by
        unfold rHold
        rw [if_neg e2]
      subst e
      exact dz_9 h.1 hI h.2.2.2.2 hn (RA_go (lS_rf h) (by rw [er]) hI h.2.2.2.1 (v := -3000000) (by rw [er, dva_3]) (fun S2 r2 => kz ⟨fun _ => ⟨fun _ => SKs q r2, fun z => absurd rfl z⟩, fun z => absurd rfl z⟩))
  have go : ∀ ok : Int32, (ok = 1 ∧ inr m 1 5000 ∨ ok = 0 ∧ ¬ inr m 1 5000) → w_L_isSeat_360 Q s wide r p th fr9 m ok S := fun ok hok => by
    unfold w_L_isSeat_360
    refine ⟨fun z => no ok hok (fun o => by rw [z] at o; exact absurd o.1 (by decide)), fun z => ⟨fun y => no ok hok (fun o => by rw [y] at o; exact absurd o.2 (by decide)), fun y => ?_⟩⟩
    obtain ⟨eP, e125, efr⟩ := (hfr.resolve_right (fun o => z o.1)).2
    have o1 := (hok.resolve_right (fun o => y o.1)).2
    have e2 := (hok.resolve_right (fun o => y o.1)).1
    have e3 := (hth.resolve_right (fun o => o.2 eP)).1
    have ew := hw eP
    obtain ⟨p0, p1⟩ := pla_rng hI.1 eP
    have s0 := eP.1.1
    have s1 := eP.1.2
    have p2 := (wd12 hI.1 h.2.2.2.1 s0 s1).2
    have ti := (ia_s hI.1 s s0 s1).2.2.2.2
    have epl : wide * r + p = pla g s r p := by rw [ew]
    have epl2 : 12 * s + wide * r + p = 12 * s + pla g s r p := by rw [← epl]; lia
    unfold w_L_isSeat_377
    refine ⟨fun z => absurd z (by decide), fun _ => ?_⟩
    rw [lg_6 hx, epl]
    refine ⟨vd, va n0 (by show _ < 48; lia), ?_⟩
    intro S62 s62
    have k62 : ∀ c i, c ≠ 110 → S62.1 c i = S.1 c i := fun c i z => by rw [s62, su_ne (Or.inl z)]
    rw [k62 106 _ (by decide), k62 112 (nt 0) (by decide), k62 112 (nt 6) (by decide), lg_0 hx, lg_6 hx, w_t hx s0 s1]
    have fin : ∀ u : Int32, u = (if g 124 (nt s) ≤ g 300 0 + m then g 124 (nt s) else g 300 0 + m) → w_L_isSeat_448 Q s wide r p th m ok 1 u (24 + g 331 0) S62 := fun u hu => by
      unfold w_L_isSeat_448
      rw [epl2]
      refine ⟨va (by lia) (by show _ < 48; lia), ?_⟩
      intro S59 s59
      have k59 : ∀ c i, c ≠ 110 → S59.1 c i = S.1 c i := fun c i z => by rw [s59, su_ne (Or.inl z), k62 c i z]
      rw [k59 112 (nt 6) (by decide), lg_6 hx]
      refine ⟨vd, va (by lia) (by show _ < 60; lia), ?_⟩
      intro S60 s60
      have m60 : S60.1 112 (nt 6) = g 331 0 := by rw [s60, su_ne (Or.inl (by decide)), k59 112 _ (by decide), lg_6 hx]
      rw [m60]
      refine ⟨vd, vd, ?_⟩
      intro S61 s61
      have hL : LR S61 (gHold g s (pla g s r p) m) := LR_hold h.2.2.1 hI.1 n0 h2 s0 (by lia) p0 (by lia) efr.1 (by rw [s61, s60, s59, s62, hu])
      have hc : clf S S61 := by rw [s61, s60, s59, s62]; exact clf_l (clf_l (clf_l (clf_l clf_rf)))
      have er : rHold g s r p m = (0, g 331 0, gHold g s (pla g s r p) m) := by
        unfold rHold
        rw [if_pos eP, if_pos o1, if_pos ⟨e125, efr, by lia⟩]
      have hI1 : Iv (gHold g s (pla g s r p) m) := by have := Iv_hold (s := s) (r := r) (p := p) (m := m) hI; rw [er] at this; exact this
      unfold w_L_isSeat_482 w_L_isSeat_534
      subst e2; subst e3
      refine dz_9 (RA_c h ⟨hL, hc⟩) hI (RA_b h ⟨hL, hc⟩) hn (RA_go ⟨hL, hc⟩ (by rw [er]) hI1 (LB_hold h.2.2.2.1 hI.1 n0 h2) (v := g 331 0) (by rw [er, dva_0]) (fun S2 r2 => kz ⟨fun z => absurd z (by decide), fun _ => ⟨fun z => absurd z (by decide), fun _ => ⟨fun z => absurd z (by decide), fun _ => ⟨vd, ?_⟩⟩⟩⟩))
      have e331 : gHold g s (pla g s r p) m 331 0 = g 331 0 + 1 := by unfold gHold; rw [gu_at]
      rw [lg_6 r2.2.2.1.1, e331, show g 331 0 + 1 - 1 = g 331 0 by lia]
      exact ⟨fun _ => q 0 _ S2 (by omega) (Or.inl rfl) r2 (by show nt (g 336 0) + 0 ≤ nt (g 336 0); omega) rfl, fun z => absurd rfl z⟩
    refine ⟨vd, vd, va (by lia) (by show _ < 11; lia), fun u => ⟨va (by lia) (by show _ < 11; lia), fin _ (by rw [if_pos u])⟩, fun u => ⟨vd, fin _ (by rw [if_neg u])⟩⟩
  unfold w_L_isSeat_340 w_L_isSeat_359
  refine ⟨fun z => go 0 (Or.inr ⟨rfl, fun o => by have := o.1; lia⟩), fun z => ⟨fun y => go 0 (Or.inr ⟨rfl, fun o => by have := o.2; lia⟩), fun y => go 1 (Or.inl ⟨rfl, by lia, by lia⟩)⟩⟩
end S1
