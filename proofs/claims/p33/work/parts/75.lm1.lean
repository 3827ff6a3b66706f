/-! the law's small methods: state, end, price, sells, people, frees -/
section L2
variable {g : Gm} {S S0 : Sg} {C : Nat} {Q : Nat → Int32 → Sg → Prop}
theorem Lstate {s : Int32} (h : LX S g) (hI : Ia g) (hB : B1 g) (s0 : 0 ≤ s) (s1 : s < g 321 0) (q : Q 0 (g 125 (nt s)) S) : w_L_state s S Q := by
  unfold w_L_state
  rw [w_s h hI hB s0 s1]
  have := hB.2.2.2.1
  exact ⟨va s0 (by show s < 11; lia), q⟩
theorem Lend {s : Int32} (h : LX S g) (hI : Ia g) (hB : B1 g) (s0 : 0 ≤ s) (s1 : s < g 321 0) (q : Q 0 (en g s) S) : w_L_end s S Q := by
  unfold w_L_end
  have b4 := hB.2.2.2.1
  have b2 := hB.2.1
  obtain ⟨f0, f1, -⟩ := ia_s hI s s0 s1
  rw [w_f h hI hB s0 s1, w_t h s0 s1, f_len h f0 f1]
  exact ⟨va (by lia) (by show 5 + s < 11; lia), va s0 (by show s < 11; lia), va (by lia) (by show _ < 24; lia), q⟩
theorem prc_47 {c : Int32} (c0 : 0 ≤ c) (c1 : c ≤ 999) : (c - c / 4 * 4 ≤ 0 → c - (c / 4 + 0) = 3 * c / 4) ∧ (¬ c - c / 4 * 4 ≤ 0 → c - (c / 4 + 1) = 3 * c / 4) := by
  have z0 : (0 : Int32).toInt = 0 := rfl
  have z1 : (1 : Int32).toInt = 1 := rfl
  have z3 : (3 : Int32).toInt = 3 := rfl
  have z4 : (4 : Int32).toInt = 4 := rfl
  have z9 : (999 : Int32).toInt = 999 := rfl
  have d1 := z_le.mp c0
  have d2 := z_le.mp c1
  have e1 : (3 * c).toInt = 3 * c.toInt := by rw [z_mul (x := 3) (y := c) (by rw [z3]; omega) (by rw [z3]; omega), z3]
  have p1 : 0 ≤ 3 * c := by rw [z_le, e1]; omega
  have e2 := z_div (d := 4) p1 (by decide)
  have e3 := z_div (d := 4) c0 (by decide)
  have e4 := (z_rem (d := 4) c0 (by decide)).1
  rw [z4] at e2 e3 e4
  rw [e1] at e2
  have a0 : (c / 4 + 0) = c / 4 := by lia
  have a1 : (c / 4 + 1).toInt = c.toInt / 4 + 1 := by rw [z_add (by rw [e3, z1]; omega) (by rw [e3, z1]; omega), e3, z1]
  constructor
  · intro z
    rw [z_le, e4] at z
    rw [a0]
    apply Int32.toInt_inj.mp
    rw [Int32.toInt_sub, e3, e2, Int.bmod_eq_of_le (by omega) (by omega)]
    omega
  · intro z
    rw [z_le, e4] at z
    apply Int32.toInt_inj.mp
    rw [Int32.toInt_sub, a1, e2, Int.bmod_eq_of_le (by omega) (by omega)]
    omega
theorem Lprice {s a : Int32} (h : LX S g) (hI : Ia g) (hB : B1 g) (s0 : 0 ≤ s) (s1 : s < g 321 0) (q : Q 0 (prc g s a) S) : w_L_price s a S Q := by
  unfold w_L_price
  have b4 := hB.2.2.2.1
  have b2 := hB.2.1
  obtain ⟨f0, f1, -⟩ := ia_s hI s s0 s1
  obtain ⟨-, -, -, -, c0, c1, -⟩ := ia_f hI _ f0 f1
  rw [w_f h hI hB s0 s1, w_t h s0 s1, f_prc h f0 f1]
  refine ⟨va s0 (by show s < 11; lia), va (by lia) (by show _ < 24; lia), ?_⟩
  rintro c rfl
  refine ⟨va (by lia) (by show 5 + s < 11; lia), fun z => ?_, fun z => ?_⟩
  · unfold w_L_price_52
    rintro v rfl
    unfold prc at q
    dsimp only at q
    rw [if_pos z] at q
    rw [show g 110 (nt (g 122 (nt s))) - 0 = g 110 (nt (g 122 (nt s))) by lia]
    exact ⟨fun y => by rw [if_pos y] at q; exact q, fun y => by rw [if_neg y] at q; exact q⟩
  · unfold prc at q
    dsimp only at q
    rw [if_neg z] at q
    obtain ⟨k1, k2⟩ := prc_47 (c := g 110 (nt (g 122 (nt s)))) (by lia) c1
    refine ⟨fun y => ?_, fun y => ?_⟩
    · unfold w_L_price_47 w_L_price_52
      rintro v rfl
      rw [k1 y]
      exact ⟨fun y => by rw [if_pos y] at q; exact q, fun y => by rw [if_neg y] at q; exact q⟩
    · unfold w_L_price_47 w_L_price_52
      rintro v rfl
      rw [k2 y]
      exact ⟨fun y => by rw [if_pos y] at q; exact q, fun y => by rw [if_neg y] at q; exact q⟩
/-- a row of the tickets that nobody has yet -/
theorem LX_t {c : Nat} {v : Int32} (h : LX S g) (n0 : 0 ≤ g 336 0) (hc : c = 108 ∨ c = 109) : LX (su S c (nt (g 336 0)) v) g := by
  have k : ∀ k : Int32, 0 ≤ k → k < g 336 0 → nt k ≠ nt (g 336 0) := fun k k0 k1 e => by rw [nt_inj k0 n0] at e; lia
  rcases hc with rfl | rfl
  · refine ⟨h.1, h.2.1, h.2.2.1, h.2.2.2.1, h.2.2.2.2.1, fun x x0 x1 => ?_, h.2.2.2.2.2.2.1, h.2.2.2.2.2.2.2⟩
    rw [su_ne (Or.inr (k x x0 x1))]
    exact lx_t h x x0 x1
  · refine ⟨h.1, h.2.1, h.2.2.1, h.2.2.2.1, h.2.2.2.2.1, fun x x0 x1 => ?_, h.2.2.2.2.2.2.1, h.2.2.2.2.2.2.2⟩
    rw [su_ne (c' := 109) (Or.inr (k x x0 x1))]
    exact lx_t h x x0 x1
/-- a ticket more: what is written, against g's -/
theorem LR_sells {s p a : Int32} {T : Sg} (h : LX S g) (ha : La0 S g s p) (n0 : 0 ≤ g 336 0) (n1 : g 336 0 ≤ 63) (s0 : 0 ≤ s) (s1 : s < 5) (p0 : 0 ≤ p) (p1 : p < 12) (h141 : g 141 (nt (g 336 0)) = 0)
    (e : T = su (su (su (su S 108 (nt (g 336 0)) (s + 8 * p + 128 * a)) 109 (nt (g 336 0)) (prc g s a)) 112 (nt 7) (g 336 0 + 1)) 107 (nt (12 * s + p)) (g 336 0 + 1)) : LR T (gSells g s p a) := by
  subst e
  have k : ∀ k : Int32, 0 ≤ k → k < g 336 0 → nt k ≠ nt (g 336 0) := fun k k0 k1 e => by rw [nt_inj k0 n0] at e; lia
  obtain ⟨⟨l0, l1, l2, l3, l4, l5, l6, l7⟩, x1, x2, x3, x4, x5, x6, x7⟩ := h
  have dn : ∀ j : Nat, j ≠ nt 7 → (su (su (su (su S 108 (nt (g 336 0)) (s + 8 * p + 128 * a)) 109 (nt (g 336 0)) (prc g s a)) 112 (nt 7) (g 336 0 + 1)) 107 (nt (12 * s + p)) (g 336 0 + 1)).1 112 j = S.1 112 j := fun j hj => su_ne (S := su (su S 108 (nt (g 336 0)) (s + 8 * p + 128 * a)) 109 (nt (g 336 0)) (prc g s a)) (c := 112) (i := nt 7) (v := g 336 0 + 1) (c' := 112) (i' := j) (Or.inr hj)
  refine ⟨⟨⟨(dn _ (by decide)).trans l0, (dn _ (by decide)).trans l1, (dn _ (by decide)).trans l2, (dn _ (by decide)).trans l3, (dn _ (by decide)).trans l4, (dn _ (by decide)).trans l5, (dn _ (by decide)).trans l6, su2 (by decide)⟩, x1, x2, x3, x4, ?_, x6, x7⟩, ?_⟩
  · intro j j0 j1
    have j1 : j < g 336 0 + 1 := j1
    rcases i32_lt1 j1 n0 (by lia) with z | z
    · have e := x5 j j0 z
      have ne := k j j0 z
      have a1 : (su (su (su (su S 108 (nt (g 336 0)) (s + 8 * p + 128 * a)) 109 (nt (g 336 0)) (prc g s a)) 112 (nt 7) (g 336 0 + 1)) 107 (nt (12 * s + p)) (g 336 0 + 1)).1 108 (nt j) = S.1 108 (nt j) := (su_ne (S := S) (c := 108) (c' := 108) (v := s + 8 * p + 128 * a) (Or.inr ne))
      have a2 : (su (su (su (su S 108 (nt (g 336 0)) (s + 8 * p + 128 * a)) 109 (nt (g 336 0)) (prc g s a)) 112 (nt 7) (g 336 0 + 1)) 107 (nt (12 * s + p)) (g 336 0 + 1)).1 109 (nt j) = S.1 109 (nt j) := (su_ne (S := S) (c := 109) (c' := 109) (v := prc g s a) (Or.inr ne))
      rw [a1, a2, e.1, e.2]
      have b1 : gSells g s p a 137 (nt j) = g 137 (nt j) := gu_ne (g := g) (c := 137) (v := s) (Or.inr ne)
      have b2 : gSells g s p a 138 (nt j) = g 138 (nt j) := gu_ne (g := g) (c := 138) (v := p) (Or.inr ne)
      have b3 : gSells g s p a 139 (nt j) = g 139 (nt j) := gu_ne (g := g) (c := 139) (v := a) (Or.inr ne)
      have b4 : gSells g s p a 140 (nt j) = g 140 (nt j) := gu_ne (g := g) (c := 140) (v := prc g s a) (Or.inr ne)
      have b5 : gSells g s p a 141 (nt j) = g 141 (nt j) := rfl
      rw [b1, b2, b3, b4, b5]
      exact ⟨rfl, rfl⟩
    · subst z
      have a1 : (su (su (su (su S 108 (nt (g 336 0)) (s + 8 * p + 128 * a)) 109 (nt (g 336 0)) (prc g s a)) 112 (nt 7) (g 336 0 + 1)) 107 (nt (12 * s + p)) (g 336 0 + 1)).1 108 (nt (g 336 0)) = s + 8 * p + 128 * a := (su_at (S := S) (c := 108))
      have a2 : (su (su (su (su S 108 (nt (g 336 0)) (s + 8 * p + 128 * a)) 109 (nt (g 336 0)) (prc g s a)) 112 (nt 7) (g 336 0 + 1)) 107 (nt (12 * s + p)) (g 336 0 + 1)).1 109 (nt (g 336 0)) = prc g s a := (su_at (c := 109))
      rw [a1, a2]
      have b1 : gSells g s p a 137 (nt (g 336 0)) = s := gu_at (g := g) (c := 137)
      have b2 : gSells g s p a 138 (nt (g 336 0)) = p := gu_at (g := g) (c := 138)
      have b3 : gSells g s p a 139 (nt (g 336 0)) = a := gu_at (g := g) (c := 139)
      have b4 : gSells g s p a 140 (nt (g 336 0)) = prc g s a := gu_at (g := g) (c := 140)
      have b5 : gSells g s p a 141 (nt (g 336 0)) = g 141 (nt (g 336 0)) := rfl
      rw [b1, b2, b3, b4, b5, h141]
      exact ⟨by lia, rfl⟩
  · intro x q x0 x1 q0 q1
    have b7 : gSells g s p a 127 (nt (48 * x + q)) = g 127 (nt (48 * x + q)) := rfl
    by_cases z : x = s ∧ q = p
    · obtain ⟨rfl, rfl⟩ := z
      have b6 : gSells g x q a 126 (nt (48 * x + q)) = g 336 0 := gu_at (c := 126)
      rw [su_at, b6, b7]
      unfold eA
      rw [if_neg (by lia)]
    · have b6 : gSells g s p a 126 (nt (48 * x + q)) = g 126 (nt (48 * x + q)) := gu_ne (c := 126) (Or.inr (fun e => z ((ix_inj x0 (by lia) q0 (by lia) s0 (by lia) p0 (by lia)).mp e)))
      rw [su_ne (Or.inr (fun e => z ((a_inj x0 x1 q0 q1 s0 s1 p0 p1).mp e))), b6, b7]
      exact ha x q x0 x1 q0 q1 z
theorem Lsells {s p a : Int32} (h : LX S g) (hc : clf S0 S) (ha : La0 S g s p) (hI : Ia g) (hB : B1 g) (n1 : g 336 0 ≤ 63) (s0 : 0 ≤ s) (s1 : s < g 321 0) (p0 : 0 ≤ p) (p1 : p < 12) (q : ∀ T, lS S0 T (gSells g s p a) → Q 0 (g 336 0) T) : w_L_sells s p a S Q := by
  have n3 := n336 (ia_n hI)
  have b4 := hB.2.2.2.1
  have v7 : vp_in 7 8 := vd
  have vs : vp_in (12 * s + p) 60 := va (by lia) (by show _ < 60; lia)
  have e141 := ia_tu hI (g 336 0) (by lia) (by lia)
  have l7 := lg_7 h
  unfold w_L_sells
  rw [l7]
  refine ⟨v7, va n3.1 (by show _ < 64; lia), ?_⟩
  rintro S1 rfl
  refine ⟨v7, Lprice (LX_t h n3.1 (Or.inl rfl)) hI hB s0 s1 (kz ?_)⟩
  have m7 : (su S 108 (nt (g 336 0)) (s + 8 * p + 128 * a)).1 112 (nt 7) = g 336 0 := l7
  rw [m7]
  refine ⟨va n3.1 (by show _ < 64; lia), ?_⟩
  rintro S5 rfl
  refine ⟨v7, v7, ?_⟩
  have m8 : (su (su S 108 (nt (g 336 0)) (s + 8 * p + 128 * a)) 109 (nt (g 336 0)) (prc g s a)).1 112 (nt 7) = g 336 0 := l7
  rw [m8]
  rintro S6 rfl
  refine ⟨v7, vs, ?_⟩
  rw [su_at]
  rintro S7 rfl
  refine ⟨v7, ?_⟩
  have m9 : (su (su (su (su S 108 (nt (g 336 0)) (s + 8 * p + 128 * a)) 109 (nt (g 336 0)) (prc g s a)) 112 (nt 7) (g 336 0 + 1)) 107 (nt (12 * s + p)) (g 336 0 + 1)).1 112 (nt 7) = g 336 0 + 1 := su2 (by decide)
  rw [m9, show g 336 0 + 1 - 1 = g 336 0 by lia]
  exact q _ ⟨LR_sells h ha n3.1 n1 s0 (by lia) p0 p1 e141 rfl, clf_l (clf_l (clf_l (clf_l hc)))⟩
/-- the line, read: an age and a member's mark -/
theorem l_at (h : LX S g) (hI : Ia g) (hB : LB C g) {s n : Int32} (s0 : 0 ≤ s) (s1 : s < g 321 0) (n0 : 0 ≤ n) (n1 : n < g 128 (nt s)) : S.1 111 (nt (10 * s + n)) = 1 + (g 129 (nt (40 * s + n)) + 128 * g 130 (nt (40 * s + n))) ∧ 0 ≤ g 129 (nt (40 * s + n)) ∧ g 129 (nt (40 * s + n)) ≤ 120 ∧ (g 130 (nt (40 * s + n)) = 0 ∨ g 130 (nt (40 * s + n)) = 1) := by
  have b4 := (lb_1 hB).2.2.2.1
  obtain ⟨l9, la⟩ := lb_4 hB s s0 s1
  have e := lx_l h s n s0 (by lia) n0 (by lia)
  rw [if_pos n1] at e
  exact ⟨e, (la n n0 n1).1, (la n n0 n1).2, ia_l hI s s0 s1 n n0 n1⟩
theorem l_no (h : LX S g) {s n : Int32} (s0 : 0 ≤ s) (s1 : s < 5) (n0 : 0 ≤ n) (n1 : n < 10) (n2 : g 128 (nt s) ≤ n) : S.1 111 (nt (10 * s + n)) = 0 := by
  have e := lx_l h s n s0 s1 n0 n1
  rw [if_neg (by lia)] at e
  exact e
theorem Lpeople {s : Int32} (h : LX S g) (hI : Ia g) (hB : LB C g) (s0 : 0 ≤ s) (s1 : s < g 321 0) (q : Q 0 (g 128 (nt s)) S) : w_L_people s S Q := by
  have b4 := (lb_1 hB).2.2.2.1
  obtain ⟨l9, -⟩ := lb_4 hB s s0 s1
  obtain ⟨-, -, -, -, -, -, -, -, l0, -⟩ := ia_s hI s s0 s1
  have L : ∀ (d : Nat) (x : Int32), 0 ≤ x → x + nI d = g 128 (nt s) → x ≤ g 128 (nt s) → w_L_people_2 Q (d + 1) s x S := by
    intro d
    induction d with
    | zero =>
      intro x x0 x1 x2
      have e : x = g 128 (nt s) := by rw [← x1]; show x = x + 0; lia
      rw [w_L_people_2, l_no h s0 (by lia) x0 (by lia) (by lia)]
      refine ⟨fun z => by lia, fun _ => ⟨va (by lia) (by show _ < 50; lia), fun _ => by rw [e]; exact q, fun z => absurd (by decide) z⟩⟩
    | succ d ih =>
      intro x x0 x1 x2
      rw [nI1] at x1
      by_cases hx : x < g 128 (nt s)
      · obtain ⟨e1, e2, e3, e4⟩ := l_at h hI hB s0 s1 x0 hx
        rw [w_L_people_2, e1]
        refine ⟨fun z => by lia, fun _ => ⟨va (by lia) (by show _ < 50; lia), fun z => by lia, fun _ => ih (x + 1) (by lia) (by lia) (by lia)⟩⟩
      · have e : x = g 128 (nt s) := by lia
        rw [w_L_people_2, l_no h s0 (by lia) x0 (by lia) (by lia)]
        refine ⟨fun z => by lia, fun _ => ⟨va (by lia) (by show _ < 50; lia), fun _ => by rw [e]; exact q, fun z => absurd (by decide) z⟩⟩
  unfold w_L_people
  exact ⟨nt (g 128 (nt s)) + 1, L _ 0 (by decide) (by rw [nI_nt0 l0]; lia) l0⟩
end L2
