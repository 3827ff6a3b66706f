/-! isTold, whole -/
section T4
variable {n C : Nat} {g : Gm} {S T : Sg} {Q : Nat → Int32 → Sg → Prop}
theorem T_687 {x6 x7 x8 f h' are : Int32} (h : RA n C g S) (hn : n < 20000) (p7 : 0 ≤ x7) (q7 : x7 < 60000) (p8 : 0 ≤ x8) (q8 : x8 < 60000) (f0 : 0 ≤ f) (f1 : f ≤ g 307 0) (h0 : 0 ≤ h') (h1 : h' ≤ g 302 0) (h6 : x6 ≠ 0 ∧ x6 ≠ 1 ∧ x6 ≠ 2) (har : are = 1 ∧ (isX g 307 f ∧ isX g 302 h') ∨ are = 0 ∧ ¬ (isX g 307 f ∧ isX g 302 h')) (q : TK n C g Q) : w_L_isTold_687 Q x6 x7 x8 f h' are S := by
  have hI := h.2.1
  obtain ⟨b2, b7, b16, b21, b31⟩ := lb_1 h.2.2.2.1
  obtain ⟨m0, m1, -, -, -, -, n7, -, n16, -, n21, -⟩ := i_n hI
  have hx := h.2.2.1.1
  unfold w_L_isTold_687
  rw [lg_0 hx, lg_1 hx, lg_3 hx, lg_4 hx]
  refine ⟨fun _ => ⟨vd, fun _ => TK0 h q, fun ne => ?_⟩, fun z3 => ⟨fun _ => ⟨vd, fun _ => TK0 h q, fun ne => ?_⟩, fun z4 => ⟨fun _ => ?_, fun z5 => ?_⟩⟩⟩
  · -- terms
    have hf : isX g 307 f := ⟨f0, by lia⟩
    intro v29 e29
    have i3 : v29 = 8 * f + 3 := e29
    have i4 : v29 + 1 = 8 * f + 4 := by lia
    have i5 : v29 + 2 = 8 * f + 5 := by lia
    have i6 : v29 + 3 = 8 * f + 6 := by lia
    have i7 : v29 + 4 = 8 * f + 7 := by lia
    obtain ⟨a0, a1⟩ := rmz (d := 101) p7 (by decide)
    obtain ⟨c0, c1⟩ := rmz (d := 60) p8 (by decide)
    obtain ⟨d0, d1⟩ := rmz (d := 101) (dvz (d := 3) p7 (by decide)).1 (by decide)
    obtain ⟨e0, e1⟩ := rmz (d := 700) p8 (by decide)
    obtain ⟨k0, k1⟩ := rmz (d := 500) (dvz (d := 7) p7 (by decide)).1 (by decide)
    generalize x7 - x7 / 101 * 101 = a at a0 a1 ⊢
    generalize x8 - x8 / 60 * 60 = b at c0 c1 ⊢
    generalize x7 / 3 - x7 / 3 / 101 * 101 = c at d0 d1 ⊢
    generalize x8 - x8 / 700 * 700 = d at e0 e1 ⊢
    generalize x7 / 7 - x7 / 7 / 500 * 500 = e at k0 k1 ⊢
    refine ⟨va (by lia) (by show _ < 24; lia), ?_⟩
    intro S30 s30
    refine ⟨va (by lia) (by show _ < 24; lia), ?_⟩
    intro S31 s31
    refine ⟨va (by lia) (by show _ < 24; lia), ?_⟩
    intro S32 s32
    refine ⟨va (by lia) (by show _ < 24; lia), ?_⟩
    intro S33 s33
    refine ⟨va (by lia) (by show _ < 24; lia), ?_⟩
    intro S34 s34
    refine ⟨va (by lia) (by show _ < 24; lia), va (by lia) (by show _ < 24; lia), va (by lia) (by show _ < 24; lia), va (by lia) (by show _ < 24; lia), va (by lia) (by show _ < 24; lia), ?_⟩
    rw [i7] at s34
    rw [i6] at s33
    rw [i5] at s32
    rw [i4] at s31
    rw [i3] at s30
    rw [i7, i6, i5, i4, i3]
    have hL : LR S34 (gTerms g f a b c d e) := LR_terms h.2.2.1 f0 hf.2 b7 (by rw [s34, s33, s32, s31, s30])
    have hc : clf S S34 := by rw [s34, s33, s32, s31, s30]; exact clf_l (clf_l (clf_l (clf_l (clf_l clf_rf))))
    clear s34 s33 s32 s31 s30
    have G : gTerms g f a b c d e 111 (nt f) = a ∧ gTerms g f a b c d e 112 (nt f) = b ∧ gTerms g f a b c d e 113 (nt f) = c ∧ gTerms g f a b c d e 114 (nt f) = d ∧ gTerms g f a b c d e 115 (nt f) = e := by
      unfold gTerms
      simp [gu]
    obtain ⟨-, -, -, w3, w5⟩ := (lx_f hL.1).1 f f0 hf.2
    obtain ⟨w4, w6, w7⟩ := (lx_f hL.1).2 f f0 (by lia)
    rw [w3, w4, w5, w6, w7, G.1, G.2.1, G.2.2.1, G.2.2.2.1, G.2.2.2.2]
    have er : rTerms g f a b c d e = (0, 0, gTerms g f a b c d e) := by
      unfold rTerms
      rw [if_pos hf, if_pos ⟨⟨a0, by lia⟩, ⟨c0, by lia⟩, ⟨d0, by lia⟩, ⟨e0, by lia⟩, k0, by lia⟩]
    have hI1 : Iv (gTerms g f a b c d e) := by have := Iv_terms (f := f) (a := a) (b := b) (c := c) (d := d) (e := e) hI; rw [er] at this; exact this
    refine cls_terms (RA_c h ⟨hL, hc⟩) hI (RA_b h ⟨hL, hc⟩) hn (fun S2 c2 f2 b2 => ?_)
    rw [er] at c2 ⊢
    exact kz (q _ S2 ⟨c2, hI1, LR_fr f2 hL, LB_terms h.2.2.2.1, b2⟩ rfl rfl)
  · -- key
    have hk : g 316 0 < 12 := by lia
    have go : ∀ a : Int32, w_L_isTold_871 Q x8 f h' are a S := fun a => by
      unfold w_L_isTold_871
      exact ⟨fun _ => T_key h hn hk har q, fun _ => ⟨fun _ => T_key h hn hk har q, fun _ => T_key h hn hk har q⟩⟩
    exact ⟨fun _ => go _, fun _ => ⟨fun _ => go _, fun _ => ⟨vd, go _⟩⟩⟩
  · -- spread
    intro v27 e27
    obtain ⟨a0, a1⟩ := rmz (d := 62) p7 (by decide)
    rw [← e27] at a0 a1
    refine ⟨vd, ?_⟩
    intro v28 e28
    exact ⟨fun z => T_spread h hn a0 e28 (by rw [if_neg (by lia)]) q, fun z => T_spread h hn a0 e28 (by rw [if_pos (by lia)]) q⟩
  · -- show, first
    have go2 : ∀ (t ok : Int32), 0 ≤ t → t ≤ 110000 → (ok = 1 ∧ inr t (g 300 0 + 1) 100000 ∨ ok = 0 ∧ ¬ inr t (g 300 0 + 1) 100000) → w_L_isTold_1201 Q x6 f h' are t ok S := fun t ok t0 t1 hok => by
      unfold w_L_isTold_1201
      rw [lg_5 hx]
      exact ⟨fun _ => ⟨vd, fun _ => TK0 h q, fun ne => T_show h hn (by lia) har hok q⟩, fun _ => T_first h hn t0 t1 har hok q⟩
    have go : ∀ t : Int32, 0 ≤ t → t ≤ 110000 → w_L_isTold_1178 Q x6 f h' are t S := fun t t0 t1 => by
      unfold w_L_isTold_1178 w_L_isTold_1200
      rw [lg_0 hx]
      exact ⟨vd, fun z => go2 t 0 t0 t1 (Or.inr ⟨rfl, fun o => by have := o.1; lia⟩), fun z => ⟨fun y => go2 t 0 t0 t1 (Or.inr ⟨rfl, fun o => by have := o.2; lia⟩), fun y => go2 t 1 t0 t1 (Or.inl ⟨rfl, by lia, by lia⟩)⟩⟩
    have hd := (dvz (d := 9) p7 (by decide)).1
    refine ⟨fun _ => ⟨vd, go _ m0 (by lia)⟩, fun _ => ⟨vd, fun _ => ?_, fun _ => ?_⟩⟩
    · unfold w_L_isTold_1176
      obtain ⟨a0, a1⟩ := rmz (d := 3000) hd (by decide)
      exact ⟨by decide, go _ (by lia) (by lia)⟩
    · unfold w_L_isTold_1176
      obtain ⟨a0, a1⟩ := rmz (d := 200) hd (by decide)
      exact ⟨by decide, go _ (by lia) (by lia)⟩
theorem T_told {w a b : Int32} (h : RA n C g S) (hn : n < 20000) (p7 : 0 ≤ a) (q7 : a < 60000) (p8 : 0 ≤ b) (q8 : b < 60000) (q : TK n C g Q) : w_L_isTold w a b S Q := by
  have hI := h.2.1
  obtain ⟨b2, b7, b16, b21, b31⟩ := lb_1 h.2.2.2.1
  obtain ⟨m0, m1, -, -, n2, -, n7, -, n16, -, n21, -⟩ := i_n hI
  have hx := h.2.2.1.1
  have e9 := dvz (d := 9) p7 (by decide)
  have f9 := dvz (d := 9) p8 (by decide)
  unfold w_L_isTold
  rw [lg_2 hx, lg_3 hx]
  refine ⟨fun _ => ⟨vd, fun _ => TK0 h q, fun ne => ?_⟩, fun z0 => ⟨fun _ => ⟨vd, by lia, ?_⟩, fun z1 => ⟨fun _ => ⟨vd, fun _ => TK0 h q, fun ne => ?_⟩, fun z2 => ⟨vd, by lia, ?_⟩⟩⟩⟩
  · -- hall
    have h2 : g 302 0 < 2 := by lia
    have go : ∀ x y : Int32, (x = 0 ∨ x = 7 ∨ (1 ≤ x ∧ x ≤ 3)) → (y = 0 ∨ y = 9 ∨ (1 ≤ y ∧ y ≤ 4)) → w_L_isTold_71 Q x y S := fun x y hx1 hy1 => by
      have no : ¬ ((1 ≤ x ∧ x ≤ 3) ∧ (1 ≤ y ∧ y ≤ 4)) → w_L_isTold_99 Q x y S := fun o => by
        unfold w_L_isTold_99
        exact T_hall h hn h2 hx1 hy1 (Or.inr ⟨rfl, o⟩) q
      unfold w_L_isTold_71
      exact ⟨fun z => no (fun o => by have := o.1.1; lia), fun z => ⟨fun y => no (fun o => by have := o.1.2; lia), fun y => ⟨fun w => no (fun o => by have := o.2.1; lia), fun w => ⟨fun u => no (fun o => by have := o.2.2; lia), fun u => T_hall h hn h2 hx1 hy1 (Or.inl ⟨rfl, ⟨by lia, by lia⟩, by lia, by lia⟩) q⟩⟩⟩⟩
    have go2 : ∀ x : Int32, (x = 0 ∨ x = 7 ∨ (1 ≤ x ∧ x ≤ 3)) → w_L_isTold_42 Q b x S := fun x hx1 => by
      unfold w_L_isTold_42
      obtain ⟨r0, r1⟩ := rmz (d := 2) f9.1 (by decide)
      obtain ⟨s0, s1⟩ := rmz (d := 4) p8 (by decide)
      refine ⟨fun _ => go x _ hx1 ?_, fun _ => go x _ hx1 (Or.inr (Or.inr ⟨by lia, by lia⟩))⟩
      rcases bit r0 r1 with e | e
      · rw [e]; exact Or.inl rfl
      · rw [e]; exact Or.inr (Or.inl rfl)
    obtain ⟨r0, r1⟩ := rmz (d := 2) e9.1 (by decide)
    obtain ⟨s0, s1⟩ := rmz (d := 3) p7 (by decide)
    refine ⟨fun _ => go2 _ ?_, fun _ => go2 _ (Or.inr (Or.inr ⟨by lia, by lia⟩))⟩
    rcases bit r0 r1 with e | e
    · rw [e]; exact Or.inl rfl
    · rw [e]; exact Or.inr (Or.inl rfl)
  · -- lamp
    intro v60 e60
    obtain ⟨r0, r1⟩ := rmz (d := g 302 0 + 1) p7 (by lia)
    rw [← e60] at r0 r1
    have go : ∀ m : Int32, w_L_isTold_224 Q b v60 m S := fun m => by
      unfold w_L_isTold_224
      rw [lg_2 hx]
      exact ⟨vd, fun z => T_lamp h hn r0 (by lia) (Or.inr ⟨rfl, by lia⟩) q, fun z => T_lamp h hn r0 (by lia) (Or.inl ⟨rfl, by lia⟩) q⟩
    exact ⟨fun _ => go _, fun _ => go _⟩
  · -- film
    have h2 : g 307 0 < 3 := by lia
    have go : ∀ l : Int32, w_L_isTold_424 Q b l S := fun l => by
      unfold w_L_isTold_424 w_L_isTold_446
      obtain ⟨r0, r1⟩ := rmz (d := 3) p8 (by decide)
      exact ⟨fun _ => ⟨fun _ => T_film h hn h2 (by decide) q, fun _ => T_film h hn h2 (by decide) q⟩, fun _ => ⟨fun _ => T_film h hn h2 (by lia) q, fun _ => T_film h hn h2 (by lia) q⟩⟩
    exact ⟨fun _ => go _, fun _ => go _⟩
  · intro v58 e58
    obtain ⟨r0, r1⟩ := rmz (d := g 307 0 + 1) p7 (by lia)
    rw [← e58] at r0 r1
    refine ⟨vd, by lia, ?_⟩
    intro v59 e59
    obtain ⟨s0, s1⟩ := rmz (d := g 302 0 + 1) p8 (by lia)
    rw [← e59] at s0 s1
    have h6 : w ≠ 0 ∧ w ≠ 1 ∧ w ≠ 2 := ⟨z0, z1, z2⟩
    unfold w_L_isTold_686
    refine ⟨vd, fun z => T_687 h hn p7 q7 p8 q8 r0 (by lia) s0 (by lia) h6 (Or.inr ⟨rfl, fun o => by have := o.1.2; lia⟩) q, fun z => ⟨vd, fun y => T_687 h hn p7 q7 p8 q8 r0 (by lia) s0 (by lia) h6 (Or.inr ⟨rfl, fun o => by have := o.2.2; lia⟩) q, fun y => T_687 h hn p7 q7 p8 q8 r0 (by lia) s0 (by lia) h6 (Or.inl ⟨rfl, ⟨r0, by lia⟩, s0, by lia⟩) q⟩⟩
end T4
