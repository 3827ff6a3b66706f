/-! isSeat, whole -/
section S7
variable {n C : Nat} {g : Gm} {S T : Sg} {s : Int32} {Q : Nat → Int32 → Sg → Prop}
theorem S_581 {w a is rows wide r p age th fr9 se k y0 : Int32} (h : RA n C g S) (hn : n < 20000) (hC : C ≤ 511) (h40 : g 336 0 ≤ 40) (p7 : 0 ≤ a) (s0 : 0 ≤ s) (his : is = 1 ∧ s < g 321 0 ∧ rows = g 103 (nt (g 123 (nt s))) ∧ wide = g 104 (nt (g 123 (nt s))) ∨ is = 0 ∧ s = g 321 0 ∧ rows = 1 ∧ wide = 1) (ha : age = 121 ∨ 0 ≤ age ∧ age ≤ 120) (hth : th = 1 ∧ isP g s r p ∨ th = 0 ∧ ¬ isP g s r p) (hfr : fr9 = 1 ∧ (isP g s r p ∧ g 125 (nt s) = 0 ∧ fre g s (pla g s r p)) ∨ fr9 = 0 ∧ ¬ (isP g s r p ∧ g 125 (nt s) = 0 ∧ fre g s (pla g s r p))) (hse : se = 1 ∧ (isX g 321 s ∧ see g s age) ∨ se = 0 ∧ ¬ (isX g 321 s ∧ see g s age)) (k0 : 0 ≤ k) (k1 : k ≤ g 331 0) (hy : y0 = 1 ∧ (k < g 331 0 ∧ g 135 (nt k) = 0) ∨ y0 = 0 ∧ ¬ (k < g 331 0 ∧ g 135 (nt k) = 0)) (q : SK n C g Q) : w_L_isSeat_581 Q w a s is rows wide r p age th fr9 se k y0 S := by
  have hI := h.2.1
  have n3 := n336 (i_n hI)
  have hx := h.2.2.1.1
  have hw : isP g s r p → wide = g 104 (nt (g 123 (nt s))) := fun o => by
    rcases his with e | e
    · exact e.2.2.2
    · exfalso; have := o.1.2; lia
  have his2 : is = 1 ∧ s < g 321 0 ∧ rows = g 103 (nt (g 123 (nt s))) ∧ wide = g 104 (nt (g 123 (nt s))) ∨ is = 0 ∧ s = g 321 0 := his.elim Or.inl (fun o => Or.inr ⟨o.1, o.2.1⟩)
  have h6 := (dvz (d := 6) p7 (by decide)).1
  unfold w_L_isSeat_581
  rw [lg_7 hx]
  refine ⟨fun _ => S_letGo h hn hC k0 k1 hy q, fun _ => ⟨fun _ => S_buy h hn hC h40 k0 k1 ha hy q, fun _ => ⟨fun _ => S_sell h hn hC h40 ha hth hw hfr hse q, fun _ => ⟨fun _ => ⟨fun _ => S_group h hn hC h40 s0 his2 ha (Or.inl rfl) hse q, fun _ => ?_⟩, fun _ => ⟨fun _ => ⟨vd, by lia, ?_⟩, fun _ => ⟨fun _ => S_join h hn hC s0 his ha (Or.inr rfl) hse q, fun _ => S_join h hn hC s0 his ha (Or.inl rfl) hse q⟩⟩⟩⟩⟩⟩
  · obtain ⟨a0, a1⟩ := rmz (d := 4) h6 (by decide)
    exact S_group h hn hC h40 s0 his2 ha (Or.inr ⟨by lia, by lia⟩) hse q
  · intro v51 e51
    obtain ⟨a0, a1⟩ := rmz (d := g 336 0 + 1) p7 (by lia)
    rw [← e51] at a0 a1
    exact ⟨vd, fun z => S_back h hn hC a0 (by lia) (Or.inr ⟨rfl, by lia⟩) q, fun z => S_back h hn hC a0 (by lia) (Or.inl ⟨rfl, by lia⟩) q⟩
theorem S_272 {w a b is rows wide r p age th fr9 se : Int32} (h : RA n C g S) (hn : n < 20000) (hC : C ≤ 511) (p7 : 0 ≤ a) (p8 : 0 ≤ b) (s0 : 0 ≤ s) (his : is = 1 ∧ s < g 321 0 ∧ rows = g 103 (nt (g 123 (nt s))) ∧ wide = g 104 (nt (g 123 (nt s))) ∨ is = 0 ∧ s = g 321 0 ∧ rows = 1 ∧ wide = 1) (ha : age = 121 ∨ 0 ≤ age ∧ age ≤ 120) (hth : th = 1 ∧ isP g s r p ∨ th = 0 ∧ ¬ isP g s r p) (hfr : fr9 = 1 ∧ (isP g s r p ∧ g 125 (nt s) = 0 ∧ fre g s (pla g s r p)) ∨ fr9 = 0 ∧ ¬ (isP g s r p ∧ g 125 (nt s) = 0 ∧ fre g s (pla g s r p))) (hse : se = 1 ∧ (isX g 321 s ∧ see g s age) ∨ se = 0 ∧ ¬ (isX g 321 s ∧ see g s age)) (q : SK n C g Q) : w_L_isSeat_272 Q w a b s is rows wide r p age th fr9 se S := by
  have hI := h.2.1
  have hB := h.2.2.2.1
  obtain ⟨c302, c307, c316, b4, c331⟩ := lb_1 hB
  obtain ⟨m0, m1, -, -, -, -, -, -, -, -, n21, -, n31, -⟩ := i_n hI
  have hx := h.2.2.1.1
  have hw : isP g s r p → wide = g 104 (nt (g 123 (nt s))) := fun o => by
    rcases his with e | e
    · exact e.2.2.2
    · exfalso; have := o.1.2; lia
  unfold w_L_isSeat_272 w_L_isSeat_580
  rw [lg_7 hx, lg_6 hx]
  refine ⟨vd, fun h40 => ⟨fun _ => ⟨vd, fun _ => SK0 h q, fun ne => ⟨fun _ => S_hold (rows := rows) h hn (by lia) hth hw hfr q, fun _ => S_hold (rows := rows) h hn (by lia) hth hw hfr q⟩⟩, fun _ => ⟨vd, by lia, ?_⟩⟩, fun _ => SK0 h q⟩
  intro v63 e63
  obtain ⟨a0, a1⟩ := rmz (d := g 331 0 + 1) p7 (by lia)
  rw [← e63] at a0 a1
  refine ⟨vd, fun z => S_581 h hn hC h40 p7 s0 his ha hth hfr hse a0 (by lia) (Or.inr ⟨rfl, fun o => by have := o.1; lia⟩) q, fun z => ?_⟩
  have hlt : v63 < g 331 0 := by lia
  obtain ⟨d1, d2, d3, d4, d5, d6⟩ := d_all hx hI.1 hB a0 hlt
  have o135 := (ia_o hI.1 v63 a0 hlt).2.2.2.2.1
  rw [d3]
  exact ⟨va a0 (by show _ < 48; lia), fun y => S_581 h hn hC h40 p7 s0 his ha hth hfr hse a0 (by lia) (Or.inr ⟨rfl, fun o => by rw [y] at o; exact absurd o.2 (by decide)⟩) q, fun y => S_581 h hn hC h40 p7 s0 his ha hth hfr hse a0 (by lia) (Or.inl ⟨rfl, hlt, o135.resolve_right y⟩) q⟩
theorem T_seat {w a b : Int32} (h : RA n C g S) (hn : n < 20000) (hC : C ≤ 511) (p7 : 0 ≤ a) (p8 : 0 ≤ b) (q : SK n C g Q) : w_L_isSeat w a b S Q := by
  have hI := h.2.1
  have hB := h.2.2.2.1
  have b1 := lb_1 hB
  obtain ⟨c302, c307, c316, b4, c331⟩ := lb_1 hB
  obtain ⟨m0, m1, -, -, -, -, -, -, -, -, n21, -, n31, -⟩ := i_n hI
  have hx := h.2.2.1.1
  have h6 := (dvz (d := 6) p7 (by decide)).1
  have h36 := (dvz (d := 36) p8 (by decide)).1
  -- sees
  have f242 : ∀ {s is rows wide r p age th fr9 : Int32}, 0 ≤ s → (is = 1 ∧ s < g 321 0 ∧ rows = g 103 (nt (g 123 (nt s))) ∧ wide = g 104 (nt (g 123 (nt s))) ∨ is = 0 ∧ s = g 321 0 ∧ rows = 1 ∧ wide = 1) → (age = 121 ∨ 0 ≤ age ∧ age ≤ 120) → (th = 1 ∧ isP g s r p ∨ th = 0 ∧ ¬ isP g s r p) → (fr9 = 1 ∧ (isP g s r p ∧ g 125 (nt s) = 0 ∧ fre g s (pla g s r p)) ∨ fr9 = 0 ∧ ¬ (isP g s r p ∧ g 125 (nt s) = 0 ∧ fre g s (pla g s r p))) → w_L_isSeat_242 Q w a b s is rows wide r p age th fr9 S := fun {s is rows wide r p age th fr9} s0 his ha hth hfr => by
    unfold w_L_isSeat_242 w_L_isSeat_271
    refine ⟨fun z => S_272 h hn hC p7 p8 s0 his ha hth hfr (Or.inr ⟨rfl, fun o => ?_⟩) q, fun z => ?_⟩
    · rcases his with e | e
      · rw [e.1] at z; exact absurd z (by decide)
      · have := o.1.2; lia
    · obtain ⟨e1, s1, -⟩ := his.resolve_right (fun o => z o.1)
      obtain ⟨f0, f1, -⟩ := ia_s hI.1 s s0 s1
      rw [w_f hx hI.1 b1 s0 s1, f_age hx f0 f1]
      exact ⟨va s0 (by show _ < 11; lia), va (by lia) (by show _ < 24; lia), fun y => S_272 h hn hC p7 p8 s0 his ha hth hfr (Or.inr ⟨rfl, fun o => by have := o.2; unfold see at this; lia⟩) q, fun y => S_272 h hn hC p7 p8 s0 his ha hth hfr (Or.inl ⟨rfl, ⟨s0, s1⟩, by unfold see; lia⟩) q⟩
  -- the place
  have f175 : ∀ {s is rows wide r p age : Int32}, 0 ≤ s → (is = 1 ∧ s < g 321 0 ∧ rows = g 103 (nt (g 123 (nt s))) ∧ wide = g 104 (nt (g 123 (nt s))) ∨ is = 0 ∧ s = g 321 0 ∧ rows = 1 ∧ wide = 1) → (age = 121 ∨ 0 ≤ age ∧ age ≤ 120) → 0 ≤ r → 0 ≤ p → w_L_isSeat_175 Q w a b s is rows wide r p age S := fun {s is rows wide r p age} s0 his ha r0 p0 => by
    have no : ¬ isP g s r p → w_L_isSeat_200 Q w a b s is rows wide r p age S := fun hno => by
      unfold w_L_isSeat_200 w_L_isSeat_201 w_L_isSeat_241
      exact ⟨fun _ => f242 s0 his ha (Or.inr ⟨rfl, hno⟩) (Or.inr ⟨rfl, fun o => hno o.1⟩), fun z => absurd rfl z⟩
    unfold w_L_isSeat_175
    refine ⟨fun z => no (fun o => ?_), fun z => ?_⟩
    · rcases his with e | e
      · rw [e.1] at z; exact absurd z (by decide)
      · have := o.1.2; lia
    · obtain ⟨e1, s1, er, ew⟩ := his.resolve_right (fun o => z o.1)
      refine ⟨fun y => no (fun o => by have := o.2.2.1; lia), fun y => ⟨fun u => no (fun o => by have := o.2.2.2.2; lia), fun u => ?_⟩⟩
      have eP : isP g s r p := ⟨⟨s0, s1⟩, r0, by lia, p0, by lia⟩
      obtain ⟨q0, q1⟩ := pla_rng hI.1 eP
      have p2 := (wd12 hI.1 hB s0 s1).2
      have epl2 : 12 * s + wide * r + p = 12 * s + pla g s r p := by
        have : wide * r + p = pla g s r p := by rw [ew]
        rw [← this]; lia
      unfold w_L_isSeat_201 w_L_isSeat_241
      refine ⟨fun z => absurd z (by decide), fun _ => Lstate hx hI.1 b1 s0 s1 (kz ⟨fun st => ?_, fun st => f242 s0 his ha (Or.inl ⟨rfl, eP⟩) (Or.inr ⟨rfl, fun o => st o.2.1⟩)⟩)⟩
      rw [epl2, a_free h.2.2.1.2 hI.1 b1 s0 (by lia) q0 (by lia)]
      exact ⟨va (by lia) (by show _ < 60; lia), fun y => f242 s0 his ha (Or.inl ⟨rfl, eP⟩) (Or.inl ⟨rfl, eP, st, y⟩), fun y => f242 s0 his ha (Or.inl ⟨rfl, eP⟩) (Or.inr ⟨rfl, fun o => y o.2.2⟩)⟩
  have f73 : ∀ {s is rows wide : Int32}, 0 ≤ s → (is = 1 ∧ s < g 321 0 ∧ rows = g 103 (nt (g 123 (nt s))) ∧ wide = g 104 (nt (g 123 (nt s))) ∨ is = 0 ∧ s = g 321 0 ∧ rows = 1 ∧ wide = 1) → w_L_isSeat_73 Q w a b s is rows wide S := fun {s is rows wide} s0 his => by
    have hrw : (1 ≤ rows ∧ rows ≤ 6) ∧ 1 ≤ wide ∧ wide ≤ 8 := by
      rcases his with ⟨e1, s1, er, ew⟩ | ⟨e1, -, er, ew⟩
      · obtain ⟨-, -, hh0, hh1, -⟩ := ia_s hI.1 s s0 s1
        obtain ⟨r3, r4, r5, r6⟩ := ia_h hI.1 _ hh0 hh1
        rw [er, ew]
        exact ⟨⟨r3, r4⟩, r5, r6⟩
      · rw [er, ew]; exact ⟨⟨by decide, by decide⟩, by decide, by decide⟩
    have f121 : ∀ r y : Int32, 0 ≤ r → (y = 0 ∨ y = 1) → w_L_isSeat_121 Q w a b s is rows wide r y wide b S := fun r y r0 hy => by
      unfold w_L_isSeat_121
      refine ⟨by rcases hy with z | z <;> rw [z] <;> lia, ?_⟩
      intro v67 e67
      obtain ⟨a0, a1⟩ := rmz (d := wide + y) p8 (by rcases hy with z | z <;> rw [z] <;> lia)
      rw [← e67] at a0
      obtain ⟨k0, k1⟩ := rmz (d := 20) h36 (by decide)
      obtain ⟨l0, l1⟩ := rmz (d := 60) h36 (by decide)
      exact ⟨fun _ => f175 s0 his (Or.inl rfl) r0 a0, fun _ => ⟨fun _ => f175 s0 his (Or.inr ⟨k0, by lia⟩) r0 a0, fun _ => f175 s0 his (Or.inr ⟨by lia, by lia⟩) r0 a0⟩⟩
    have f98 : ∀ y : Int32, (y = 0 ∨ y = 1) → w_L_isSeat_98 Q w a b s is rows wide y rows (a / 6) S := fun y hy => by
      unfold w_L_isSeat_98
      refine ⟨by rcases hy with z | z <;> rw [z] <;> lia, ?_⟩
      intro v68 e68
      obtain ⟨a0, a1⟩ := rmz (d := rows + y) h6 (by rcases hy with z | z <;> rw [z] <;> lia)
      rw [← e68] at a0
      exact ⟨fun _ => f121 _ 1 a0 (Or.inr rfl), fun _ => f121 _ 0 a0 (Or.inl rfl)⟩
    unfold w_L_isSeat_73
    exact ⟨fun _ => f98 1 (Or.inr rfl), fun _ => f98 0 (Or.inl rfl)⟩
  unfold w_L_isSeat
  rw [lg_5 hx]
  refine ⟨vd, by lia, ?_⟩
  intro v69 e69
  obtain ⟨a0, a1⟩ := rmz (d := g 321 0 + 1) p7 (by lia)
  rw [← e69] at a0 a1
  unfold w_L_isSeat_25 w_L_isSeat_49
  refine ⟨vd, fun z => ⟨fun _ => ⟨fun _ => f73 a0 (Or.inr ⟨rfl, by lia, rfl, rfl⟩), fun y => absurd rfl y⟩, fun y => absurd rfl y⟩, fun z => ⟨fun y => absurd y (by decide), fun _ => ?_⟩⟩
  have s1 : v69 < g 321 0 := by lia
  obtain ⟨-, -, hh0, hh1, -⟩ := ia_s hI.1 v69 a0 s1
  obtain ⟨e1, e2⟩ := h_all hx hI.1 hh0 hh1
  rw [w_h hx hI.1 b1 a0 s1, e1, e2]
  exact ⟨va a0 (by show _ < 11; lia), va hh0 (by show _ < 7; lia), fun y => absurd y (by decide), fun _ => ⟨va a0 (by show _ < 11; lia), va hh0 (by show _ < 7; lia), f73 a0 (Or.inl ⟨rfl, s1, rfl, rfl⟩)⟩⟩
end S7
