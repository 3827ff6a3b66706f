/-! buy, sell, hold: both sides -/
section SL
variable {n : Nat} {g : Gm} {S S0 : Sg} {Q : Nat → Int32 → Sg → Prop}
theorem needPlanned_ok {s : Int32} (hC : cC S g) (h0 : 0 ≤ s) (h1 : s < g 321 0) (q1 : g 125 (nt s) = 0 → Q 0 0 S) (q0 : ¬ g 125 (nt s) = 0 → S.2.1 + 1 ≤ nB1 ∧ S.2.2 + 6 ≤ nB2 ∧ Q 2 0 (tS S)) : w_X7_needPlanned s S Q := by
  unfold w_X7_needPlanned
  rw [c_56 hC h0 h1]
  exact ⟨q1, q0⟩
theorem needFree_ok {s p : Int32} (hC : cC S g) (hI : Ia g) (h0 : 0 ≤ s) (h1 : s < g 321 0) (p0 : 0 ≤ p) (p1 : p < wd g s) (q1 : g 125 (nt s) = 0 → fre g s p → Q 0 0 S) (q0 : ¬ (g 125 (nt s) = 0 ∧ fre g s p) → S.2.1 + 1 ≤ nB1 ∧ S.2.2 + 6 ≤ nB2 ∧ Q 2 0 (tS S)) : w_X7_needFree s p S Q := by
  have w := wd_le (ia_h hI) (ia_s hI) h0 h1
  obtain ⟨e1, -, -⟩ := plv_cases hI h0 h1 p0 (show p < 48 by lia)
  unfold w_X7_needFree
  refine needPlanned_ok hC h0 h1 (fun r1 => kz ?_) (fun r1 => ?_)
  · rw [c_54 hC h0 h1, c_58 hC h0 h1, c_pl hC h0 h1 p0 p1]
    exact ⟨by lia, vp_of2 p0 p1, fun z => q1 r1 (e1.mp z), fun z => q0 (fun u => z (e1.mpr u.2))⟩
  · obtain ⟨b1, b2, b3⟩ := q0 (fun u => r1 u.1)
    exact ⟨b1, b2, kn (by decide) b3⟩
theorem needOld_ok {s age : Int32} (hC : cC S g) (hI : Ia g) (h0 : 0 ≤ s) (h1 : s < g 321 0) (q1 : see g s age → Q 0 0 S) (q0 : ¬ see g s age → S.2.1 + 1 ≤ nB1 ∧ S.2.2 + 6 ≤ nB2 ∧ Q 2 0 (tS S)) : w_X7_needOldEnough s age S Q := by
  obtain ⟨⟨f1, f2⟩, -⟩ := i_s1 hI h0 h1
  unfold w_X7_needOldEnough
  rw [c_51 hC h0 h1, c_32 hC f1 f2]
  exact ⟨by lia, q1, q0⟩
theorem needTickets_ok {m : Int32} (hC : cC S g) (q1 : g 336 0 + m ≤ 400 → Q 0 0 S) (q0 : ¬ g 336 0 + m ≤ 400 → S.2.1 + 1 ≤ nB1 ∧ S.2.2 + 6 ≤ nB2 ∧ Q 2 0 (tS S)) : w_X7_needTickets m S Q := by
  unfold w_X7_needTickets w_size
  rw [c_12_5 hC]
  exact kz ⟨q1, q0⟩
theorem cls_sell {s r p age : Int32} (hC : cC S g) (hI : Iv g) (hB : Bd n S) (hn : n < 20000) (hQ : cPost n (rSell g s r p age) S Q) : w_X7_sell s r p age S Q := by
  have n3 := n336 (i_n hI)
  unfold w_X7_sell
  refine showAt_ok hC (fun r1 => kz ?_) (fun r1 => cThr1 (by decide) hC hI hB hn (cP_of hQ (if_neg (fun q => r1 q.1))))
  refine placeAt_ok hC hI.1 r1 (fun r2 => kz ?_) (fun r2 => cThr1 (by decide) hC hI hB hn (cP_of hQ (if_neg r2)))
  refine needWithin_ok (fun r3 => kz ?_) (fun r3 => cThr1 (by decide) hC hI hB hn (cP_of hQ (by unfold rSell; rw [if_pos r2, if_neg r3])))
  have bad : ¬ (g 125 (nt s) = 0 ∧ fre g s (pla g s r p) ∧ see g s age ∧ g 336 0 < 400) → cPost n (2, 0, g) S Q := fun z => cP_of hQ (by unfold rSell; rw [if_pos r2, if_pos r3, if_neg z])
  obtain ⟨p0, p1⟩ := pla_rng hI.1 r2
  refine needFree_ok hC hI.1 r1.1 r1.2 p0 p1 (fun r4 r5 => kz ?_) (fun r4 => cThr1 (by decide) hC hI hB hn (bad (fun z => r4 ⟨z.1, z.2.1⟩)))
  refine needOld_ok hC hI.1 r1.1 r1.2 (fun r6 => kz ?_) (fun r6 => cThr1 (by decide) hC hI hB hn (bad (fun z => r6 z.2.2.1)))
  refine needTickets_ok hC (fun r7 => kz ?_) (fun r7 => cThr1 (by decide) hC hI hB hn (bad (fun z => r7 (by have := z.2.2.2; lia))))
  have hQ := cP_of hQ (show rSell g s r p age = (0, g 336 0, gSells g s (pla g s r p) age) by unfold rSell; rw [if_pos r2, if_pos r3, if_pos ⟨r4, r5, r6, by lia⟩])
  exact addTicket_ok hC hI.1 hB (by omega) r1.1 r1.2 p0 p1 (by lia) (fun T t1 t2 t3 => kz (hQ T t1 t2 (bd_up t3)))
/-! buy -/
theorem Ia_135 {k : Int32} (hI : Ia g) (k0 : 0 ≤ k) (k1 : k < g 331 0) : Ia (gu g 135 (nt k) 1) := by
  obtain ⟨a1, a2, a3, a4, a5, a6, a7, a8, a9, a10, a11, a12, a13, a14⟩ := id hI
  refine ⟨a1, a2, a3, a4, a5, a6, a7, a8, a9, ?_, ?_, a12, a13, a14⟩
  · intro j j0 j1
    have h1 := a10 j j0 j1
    have h3 := nt_inj j0 k0
    have hw : ∀ s, wd (gu g 135 (nt k) 1) s = wd g s := fun _ => rfl
    rw [hw]
    grind [gu]
  · intro j j0 j1
    have h1 := a11 j j0 j1
    have j0 : g 331 0 ≤ j := j0
    have h3 := nt_inj (x := j) (y := k) (by lia) k0
    grind [gu]
theorem cC_127 {v : Int32} {J : Nat} (hC : cC S g) (h : g 126 J ≠ -1) : cC S (gu g 127 J v) := by
  obtain ⟨c1, c2, c3, c4, c5, c6, c7, c8⟩ := hC
  have z1 : ∀ q ∈ colT, q.2.1 ≠ 127 ∧ 300 ≤ q.2.2 := by decide
  have z2 : ∀ q ∈ idT, 300 ≤ q.2 := by decide
  have z3 : ∀ q ∈ scT, 300 ≤ q.2.2 := by decide
  have gz : ∀ c i, c ≠ 127 → gu g 127 J v c i = g c i := fun c i hc => gu_ne (Or.inl hc)
  refine ⟨fun q hq i a b => ?_, fun q hq i a b => ?_, fun q hq => ?_, c4, c5, c6, c7, fun x y a b c d => ?_⟩
  · have := z1 q hq
    rw [gz _ _ (by omega)] at b
    rw [gz _ _ this.1]; exact c1 q hq i a b
  · have := z2 q hq
    rw [gz _ _ (by omega)] at b
    exact c2 q hq i a b
  · have := z3 q hq
    rw [gz _ _ (by omega)]; exact c3 q hq
  · rw [c8 x y a b c d]
    unfold plv
    rw [gz 126 _ (by decide)]
    by_cases e : nt (48 * x + y) = J
    · rw [e, if_neg h, if_neg h]
    · rw [gu_ne (Or.inr e)]
theorem sells_127 {s p a v : Int32} {J : Nat} : gSells (gu g 127 J v) s p a = gu (gSells g s p a) 127 J v := by
  unfold gSells
  have e : prc (gu g 127 J v) s a = prc g s a := rfl
  have e2 : gu g 127 J v 336 0 = g 336 0 := rfl
  rw [e, e2, gu_comm (c := 127) (c' := 137) (by simp), gu_comm (c := 127) (c' := 138) (by simp), gu_comm (c := 127) (c' := 139) (by simp), gu_comm (c := 127) (c' := 140) (by simp), gu_comm (c := 127) (c' := 126) (by simp), gu_comm (c := 127) (c' := 336) (by simp)]
theorem cls_buy {k age : Int32} (hC : cC S g) (hI : Iv g) (hB : Bd n S) (hn : n < 20000) (hQ : cPost n (rBuy g k age) S Q) : w_X7_buy k age S Q := by
  have n3 := n336 (i_n hI)
  unfold w_X7_buy
  refine needHold_ok hC (fun r1 => kz ?_) (fun r1 => cThr1 (by decide) hC hI hB hn (cP_of hQ (if_neg r1)))
  refine needWithin_ok (fun r2 => kz ?_) (fun r2 => cThr1 (by decide) hC hI hB hn (cP_of hQ (by unfold rBuy; rw [if_pos r1, if_neg r2])))
  have bad : ¬ (g 135 (nt k) = 0 ∧ see g (g 132 (nt k)) age ∧ g 336 0 < 400) → cPost n (2, 0, g) S Q := fun z => cP_of hQ (by unfold rBuy; rw [if_pos r1, if_pos r2, if_neg z])
  refine openHoldAt_ok hC (fun _ r3 => kz ?_) (fun _ r3 => cThr1 (by decide) hC hI hB hn (bad (fun z => r3 z.1))) (fun r => absurd r1 r)
  obtain ⟨s0, s1, p0, p1, e6, e7, -⟩ := hold_pl hI.1 r1.1 r1.2 r3
  rw [c_60 hC r1.1 r1.2]
  refine ⟨by lia, needOld_ok hC hI.1 s0 s1 (fun r4 => kz ?_) (fun r4 => cThr1 (by decide) hC hI hB hn (bad (fun z => r4 z.2.1)))⟩
  refine needTickets_ok hC (fun r5 => kz ?_) (fun r5 => cThr1 (by decide) hC hI hB hn (bad (fun z => r5 (by have := z.2.2; lia))))
  have hQ := cP_of hQ (show rBuy g k age = (0, g 336 0, gBuy g k age) by unfold rBuy; rw [if_pos r1, if_pos r2, if_pos ⟨r3, r4, by lia⟩])
  rintro S16 rfl
  have h1 : (su S 63 (nt k) 1).1 60 (nt k) = g 132 (nt k) := by rw [su_ne (Or.inl (by decide))]; exact c_60 hC r1.1 r1.2
  have h2 : (su S 63 (nt k) 1).1 61 (nt k) = g 133 (nt k) := by rw [su_ne (Or.inl (by decide))]; exact c_61 hC r1.1 r1.2
  rw [h1, h2]
  have c1 := cC_su (i := k) (v := 1) (show (63, 135, 331) ∈ colT by decide) (by omega) n3 hC
  refine ⟨by lia, addTicket_ok c1 (Ia_135 hI.1 r1.1 r1.2) (bd_same hB rfl (fun i => su_ne (Or.inl (by decide)))) (by omega) s0 s1 p0 p1 (by show g 336 0 < 400; lia) (fun T t1 t2 t3 => kz ?_)⟩
  refine hQ T ?_ (fr_tr (fr_su fr_rf (by unfold mc; omega)) t2) (bd_up t3)
  show cC T (gBuy g k age)
  unfold gBuy
  rw [sells_127]
  refine cC_127 t1 ?_
  unfold gSells
  rw [gu_ne (by simp), gu_at]
  show g 336 0 ≠ -1
  lia
/-! hold -/
theorem hold_eq {s p m : Int32} : gHold g s p m = gu (gHold0 g s p (if g 124 (nt s) ≤ g 300 0 + m then g 124 (nt s) else g 300 0 + m)) 127 (nt (48 * s + p)) (g 331 0) := by
  unfold gHold gHold0
  rw [gu_comm (c := 127) (c' := 331) (by simp)]
theorem cls_hold {s r p m : Int32} (hC : cC S g) (hI : Iv g) (hB : Bd n S) (hn : n < 20000) (hQ : cPost n (rHold g s r p m) S Q) : w_X7_hold s r p m S Q := by
  have n3 := n331 (i_n hI)
  obtain ⟨b1, b2⟩ := bd_room hB (by omega) hC (i_n hI)
  unfold w_X7_hold
  refine showAt_ok hC (fun r1 => kz ?_) (fun r1 => cThr1 (by decide) hC hI hB hn (cP_of hQ (if_neg (fun q => r1 q.1))))
  refine placeAt_ok hC hI.1 r1 (fun r2 => kz ?_) (fun r2 => cThr1 (by decide) hC hI hB hn (cP_of hQ (if_neg r2)))
  refine needWithin_ok (fun r3 => kz ?_) (fun r3 => cThr1 (by decide) hC hI hB hn (cP_of hQ (by unfold rHold; rw [if_pos r2, if_neg r3])))
  have bad : ¬ (g 125 (nt s) = 0 ∧ fre g s (pla g s r p) ∧ g 331 0 < 100) → cPost n (2, 0, g) S Q := fun z => cP_of hQ (by unfold rHold; rw [if_pos r2, if_pos r3, if_neg z])
  obtain ⟨p0, p1⟩ := pla_rng hI.1 r2
  refine needFree_ok hC hI.1 r1.1 r1.2 p0 p1 (fun r4 r5 => kz ?_) (fun r4 => cThr1 (by decide) hC hI hB hn (bad (fun z => r4 ⟨z.1, z.2.1⟩)))
  unfold w_size
  rw [c_12_4 hC]
  refine kz ⟨fun r6 => kz ?_, fun r6 => cThr hC hI hB hn (bad (fun z => r6 z.2.2))⟩
  rw [c_12_4 hC]
  refine ⟨⟨by omega, by omega⟩, ?_⟩
  have hQ := cP_of hQ (show rHold g s r p m = (0, g 331 0, gHold g s (pla g s r p) m) by unfold rHold; rw [if_pos r2, if_pos r3, if_pos ⟨r4, r5, r6⟩])
  intro v11 e11 S0 e0
  have e11 : v11 = g 331 0 := e11.trans (c_10_7 hC)
  subst e11
  have y6 : S0.1 6 0 = g 300 0 := by rw [e0, nu_ne (by decide) (Or.inr (by decide))]; exact c_6_0 hC
  have y53 : S0.1 53 (nt s) = g 124 (nt s) := by rw [e0, nu_ne (by decide) (Or.inr (by decide))]; exact c_53 hC r1.1 r1.2
  rw [y6, y53]
  have mn : ∀ {Q' : Nat → Int32 → Sg → Prop}, Q' 0 (if g 124 (nt s) ≤ g 300 0 + m then g 124 (nt s) else g 300 0 + m) S0 → w_J9_min_7cf53 (g 300 0 + m) (g 124 (nt s)) S0 Q' := fun {Q'} q => by
    unfold w_J9_min_7cf53
    refine ⟨fun z => by rw [if_pos (by lia)] at q; exact q, fun z => ?_⟩
    by_cases e : g 124 (nt s) = g 300 0 + m
    · rw [if_pos (by lia), e] at q; exact q
    · rw [if_neg (by lia)] at q; exact q
  refine mn (kz ?_)
  unfold w_X2_init
  intro S1 e1
  refine ⟨by have := r1.1; lia, ?_⟩
  intro S2 e2 S3 e3 S4 e4
  refine kz (aHold hC hI.1 r6 e0 e1 e2 e3 e4 ⟨by omega, by omega⟩ fun T ⟨q1, q2, q3, q4⟩ q5 q5b q6 q7 q8 q9 => kz ?_)
  have y54 : T.1 54 (nt s) = s := by rw [q5 54 _ (by unfold lsC; omega) (fun z => absurd z (by decide))]; exact c_54 hC r1.1 r1.2
  have y58 : T.1 58 (nt s) = wd g s := by rw [q5b 58 _ (by omega)]; exact c_58 hC r1.1 r1.2
  rw [y54, y58]
  refine ⟨by have := r1.1; lia, vp_of2 p0 p1, ?_⟩
  rintro F rfl
  have gq : ∀ c i, (c < 132 ∨ 134 < c) → c ≠ 331 → gHold0 g s (pla g s r p) (if g 124 (nt s) ≤ g 300 0 + m then g 124 (nt s) else g 300 0 + m) c i = g c i := fun c i h1 h2 => by
    unfold gHold0
    rw [gu_ne (Or.inl h2), gu_ne (Or.inl (by omega)), gu_ne (Or.inl (by omega)), gu_ne (Or.inl (by omega))]
  obtain ⟨d1, d2, d3, d4⟩ := cSpec (S1 := T) (g1 := gHold0 g s (pla g s r p) (if g 124 (nt s) ≤ g 300 0 + m then g 124 (nt s) else g 300 0 + m)) hC (fun c i h => q5b c i (by omega)) rfl (fun _ => rfl) (fun _ _ _ => rfl) (fun c i h1 h2 => gq c i (by omega) (by omega))
  obtain ⟨a1, a2, a3, a4, a5, a6, -⟩ := id hI.1
  have a1' : I_n (gHold0 g s (pla g s r p) (if g 124 (nt s) ≤ g 300 0 + m then g 124 (nt s) else g 300 0 + m)) := by
    obtain ⟨x1, x2, x3, x4, x5, x6, x7, x8, x9, x10, x11, x12, x13, x14, x15, x16⟩ := id a1
    have e : gHold0 g s (pla g s r p) (if g 124 (nt s) ≤ g 300 0 + m then g 124 (nt s) else g 300 0 + m) 331 0 = g 331 0 + 1 := rfl
    exact ⟨x1, x2, x3, x4, x5, x6, x7, x8, x9, x10, x11, x12, by rw [e]; lia, by rw [e]; lia, x15, x16⟩
  refine hQ _ ?_ (fr_su (fun c i h => q5b c i (by have := mc_lc h; omega)) (by unfold mc; omega)) (bd_new (x := 704) (bd_same hB rfl (fun _ => rfl)) q6 q7 (by omega) ?_)
  · show cC _ (gHold g s (pla g s r p) m)
    rw [hold_eq]
    refine cC_pl ⟨q1, q2, q3, q4, d1, d2, d3, d4⟩ a1' (by exact a2) (by exact a6) r1.1 (by exact r1.2) p0 (by exact p1) (fun c i h => gu_ne (by by_cases z : c = 127; exact Or.inr (fun u => h ⟨Or.inr z, u⟩); exact Or.inl z)) ?_
    unfold plv
    rw [gu_at, gu_ne (by simp)]
    have e6 : gHold0 g s (pla g s r p) (if g 124 (nt s) ≤ g 300 0 + m then g 124 (nt s) else g 300 0 + m) 126 (nt (48 * s + pla g s r p)) = -1 := r5.1
    rw [if_pos e6, if_neg (by lia)]
  · rw [bz_su (by omega)]
    exact q8
end SL
