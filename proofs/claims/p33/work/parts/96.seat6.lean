/-! isSeat: join -/
section S6
variable {n C : Nat} {g : Gm} {S T : Sg} {s : Int32} {Q : Nat → Int32 → Sg → Prop}
/-- the line of s moved back by one behind its place x, up to L -/
def JB (S : Sg) (s L x : Int32) (T : Sg) : Prop := (∀ c i, c ≠ 111 → T.1 c i = S.1 c i) ∧ T.2 = S.2 ∧ ∀ y n : Int32, 0 ≤ y → y < 5 → 0 ≤ n → n < 10 → T.1 111 (nt (10 * y + n)) = if y = s ∧ x < n ∧ n ≤ L then S.1 111 (nt (10 * s + (n - 1))) else S.1 111 (nt (10 * y + n))
theorem JB0 {L : Int32} : JB S s L L S := ⟨fun _ _ _ => rfl, rfl, fun y n y0 y1 n0 n1 => by rw [if_neg (fun e => by have := e.2.1; have := e.2.2; lia)]⟩
theorem LX_oline {g1 : Gm} (hT : ∀ c i, c ≠ 111 → T.1 c i = S.1 c i) (h : LX S g) (hl : Ll T g1) (hg : ∀ c i, c ≠ 128 ∧ c ≠ 129 ∧ c ≠ 130 → g1 c i = g c i) : LX T g1 := by
  obtain ⟨⟨a0, a1, a2, a3, a4, a5, a6, a7⟩, ⟨b1, b2⟩, ⟨c1, c2⟩, d1, e1, f1, h1, -⟩ := h
  have k : ∀ c i, c < 111 ∨ 111 < c → T.1 c i = S.1 c i := fun c i q => hT c i (by omega)
  have z : ∀ c i, c < 128 ∨ 130 < c → g1 c i = g c i := fun c i q => hg c i (by omega)
  refine ⟨⟨?_, ?_, ?_, ?_, ?_, ?_, ?_, ?_⟩, ⟨fun i x y => ?_, fun i x y => ?_⟩, ⟨fun i x y => ?_, fun i x y => ?_⟩, fun i x y => ?_, fun i x y => ?_, fun i x y => ?_, fun i x y => ?_, hl⟩
  · rw [k _ _ (by omega), z _ _ (by omega)]; exact a0
  · rw [k _ _ (by omega), z _ _ (by omega)]; exact a1
  · rw [k _ _ (by omega), z _ _ (by omega)]; exact a2
  · rw [k _ _ (by omega), z _ _ (by omega)]; exact a3
  · rw [k _ _ (by omega), z _ _ (by omega)]; exact a4
  · rw [k _ _ (by omega), z _ _ (by omega)]; exact a5
  · rw [k _ _ (by omega), z _ _ (by omega)]; exact a6
  · rw [k _ _ (by omega), z _ _ (by omega)]; exact a7
  · rw [z _ _ (by omega)] at y
    rw [k _ _ (by omega), k _ _ (by omega), z _ _ (by omega), z _ _ (by omega), z _ _ (by omega)]; exact b1 i x y
  · rw [k _ _ (by omega), z _ _ (by omega)]; exact b2 i x y
  · rw [z _ _ (by omega)] at y
    rw [k _ _ (by omega), k _ _ (by omega), k _ _ (by omega), k _ _ (by omega), k _ _ (by omega), z _ _ (by omega), z _ _ (by omega), z _ _ (by omega), z _ _ (by omega), z _ _ (by omega)]; exact c1 i x y
  · rw [k _ _ (by omega), k _ _ (by omega), k _ _ (by omega), z _ _ (by omega), z _ _ (by omega), z _ _ (by omega)]; exact c2 i x y
  · rw [z _ _ (by omega)] at y
    rw [k _ _ (by omega), k _ _ (by omega), k _ _ (by omega), z _ _ (by omega), z _ _ (by omega), z _ _ (by omega), z _ _ (by omega)]; exact d1 i x y
  · rw [z _ _ (by omega)] at y
    rw [k _ _ (by omega), k _ _ (by omega), z _ _ (by omega), z _ _ (by omega), z _ _ (by omega), z _ _ (by omega)]; exact e1 i x y
  · rw [z _ _ (by omega)] at y
    rw [k _ _ (by omega), k _ _ (by omega), z _ _ (by omega), z _ _ (by omega), z _ _ (by omega), z _ _ (by omega), z _ _ (by omega)]; exact f1 i x y
  · rw [z _ _ (by omega)] at y
    rw [k _ _ (by omega), k _ _ (by omega), z _ _ (by omega), z _ _ (by omega), z _ _ (by omega), z _ _ (by omega)]; exact h1 i x y
theorem mem_down {x : Int32} (x0 : 0 ≤ x) : ∀ d : Nat, d ≤ 1000 → x ≤ 1000 → (∀ j : Int32, x ≤ j → j < x + nI d → g 130 (nt (40 * s + j)) = 0) → mem g s (nt x + d) = mem g s (nt x)
  | 0, _, _, _ => rfl
  | d + 1, hd, hx, h => by
    have e5 : (nI d).toInt = d := nI_toInt (by omega)
    have e6 : 0 ≤ nI d := by rw [z_le, e5]; exact Int.natCast_nonneg d
    have e7 : nI d ≤ 1000 := by rw [z_le, e5]; show (d : Int) ≤ 1000; omega
    have ex : nI (nt x + d) = x + nI d := by
      have h4 := nt_cast x0
      have h5 := z_le.mp hx
      have h6 := z_le.mp x0
      have h8 : (1000 : Int32).toInt = 1000 := rfl
      have h9 : (0 : Int32).toInt = 0 := rfl
      apply Int32.toInt_inj.mp
      rw [nI_toInt (by omega), z_add (by omega) (by omega), e5]
      omega
    show (if g 130 (nt (40 * s + nI (nt x + d))) = 0 then mem g s (nt x + d) else nI (nt x + d + 1)) = _
    rw [ex, h (x + nI d) (by lia) (by rw [nI1]; lia), if_pos rfl]
    exact mem_down x0 d (by omega) hx (fun j j0 j1 => h j j0 (by rw [nI1]; lia))
theorem LB_join {age m a : Int32} (hB : LB C g) (hI : Ia g) (s0 : 0 ≤ s) (s1 : s < g 321 0) (ha : jAt g s m = a) (a0 : 0 ≤ a) (a1 : a ≤ g 128 (nt s)) (l8 : g 128 (nt s) ≤ 8) (g0 : 0 ≤ age) (g1 : age ≤ 120) : LB (C + 4) (gJoin g s age m) := by
  have x4 := (lb_1 hB).2.2.2.1
  obtain ⟨b1, b2, b3, b4, b5, b6⟩ := hB
  obtain ⟨-, -, -, -, -, -, -, -, l0, l1⟩ := ia_s hI s s0 s1
  have o : ∀ c i, c ≠ 128 ∧ c ≠ 129 ∧ c ≠ 130 → gJoin g s age m c i = g c i := fun c i h => join_o h
  have e321 := o 321 0 (by decide)
  have e336 := o 336 0 (by decide)
  have e331 := o 331 0 (by decide)
  have e302 := o 302 0 (by decide)
  have e307 := o 307 0 (by decide)
  have e316 := o 316 0 (by decide)
  refine ⟨?_, ?_, ?_, fun x x0 x1 => ?_, ?_, ?_⟩
  · unfold B1; rw [e302, e307, e316, e321, e331]; exact b1
  · intro i i0 i1; rw [e302] at i1; rw [o 103 _ (by decide), o 104 _ (by decide)]; exact b2 i i0 i1
  · intro i i0 i1; rw [e336] at i1; rw [o 139 _ (by decide)]; exact b3 i i0 i1
  · rw [e321] at x1
    obtain ⟨y9, ya⟩ := b4 x x0 x1
    rw [join_8]
    by_cases z : x = s
    · subst z
      rw [if_pos rfl]
      refine ⟨by lia, fun k k0 k1 => ?_⟩
      obtain ⟨j1, j2⟩ := join_at (k := k) (age := age) ha x0 (by lia) x0 (by lia) k0 (by lia) a0 a1 (by lia)
      rw [j1]
      by_cases w : k = a
      · rw [if_pos ⟨rfl, w⟩]; exact ⟨g0, g1⟩
      · rw [if_neg (fun u => w u.2)]
        by_cases v : a < k
        · rw [if_pos ⟨rfl, v, by lia⟩]
          exact ya (k - 1) (by lia) (by lia)
        · rw [if_neg (fun u => v u.2.1)]
          exact ya k k0 (by lia)
    · have ne : ¬ nt x = nt s := fun y => z ((nt_inj x0 s0).mp y)
      rw [if_neg ne]
      refine ⟨y9, fun k k0 k1 => ?_⟩
      obtain ⟨j1, j2⟩ := join_at (k := k) (age := age) ha s0 (by lia) x0 (by lia) k0 (by lia) a0 a1 (by lia)
      rw [j1, if_neg (fun u => z u.1), if_neg (fun u => z u.1)]
      exact ya k k0 k1
  · unfold PB at b5 ⊢
    have h1 : hN (gJoin g s age m) (nt (g 331 0)) = hN g (nt (g 331 0)) := hN_congr _ (fun j _ => o 135 j (by decide))
    have h2 := lnN_upd (g := g) (g1 := gJoin g s age m) (k := nt s) (nt (g 321 0)) (nt_lt_of s0 s1) (fun i _ hi => by rw [join_8, if_neg hi])
    rw [join_8, if_pos rfl, ntS l0 (by lia)] at h2
    rw [e336, e331, e321, h1]
    omega
  · intro k k0 k1
    rw [e316] at k1
    rw [o 117 _ (by decide), o 118 _ (by decide), e307, e302]
    exact b6 k k0 k1
theorem S_join {is rows wide age se m : Int32} (h : RA n C g S) (hn : n < 20000) (hC : C ≤ 511) (s0 : 0 ≤ s) (his : is = 1 ∧ s < g 321 0 ∧ rows = g 103 (nt (g 123 (nt s))) ∧ wide = g 104 (nt (g 123 (nt s))) ∨ is = 0 ∧ s = g 321 0 ∧ rows = 1 ∧ wide = 1) (ha : age = 121 ∨ 0 ≤ age ∧ age ≤ 120) (hm : m = 0 ∨ m = 1) (hse : se = 1 ∧ (isX g 321 s ∧ see g s age) ∨ se = 0 ∧ ¬ (isX g 321 s ∧ see g s age)) (q : SK n C g Q) : w_L_isSeat_1574 Q s is rows wide age se m S := by
  have hI := h.2.1
  have hB := h.2.2.2.1
  have b1 := lb_1 hB
  obtain ⟨c302, c307, c316, b4, c331⟩ := lb_1 h.2.2.2.1
  have hx := h.2.2.1.1
  have his1 : ¬ is = 0 → is = 1 ∧ s < g 321 0 ∧ rows = g 103 (nt (g 123 (nt s))) ∧ wide = g 104 (nt (g 123 (nt s))) := fun z => his.resolve_right (fun o => z o.1)
  -- nobody joins
  have no : ∀ at9 : Int32, (is = 1 → ¬ (g 125 (nt s) = 0 ∧ full g s ∧ see g s age ∧ age ≠ 121)) → w_L_isSeat_1794 Q s is age m 0 at9 S := fun at9 hno => by
    unfold w_L_isSeat_1794
    have hd : w_L_isSeat_1811 Q is age 0 at9 m age s 15 S := by
      unfold w_L_isSeat_1811 w_L_isSeat_1850
      by_cases e : is = 0
      · have e2 := (his.resolve_left (fun o => by rw [e] at o; exact absurd o.1 (by decide))).2.1
        have er : rJoin g s age m = (3, 0, g) := by
          unfold rJoin
          rw [if_neg (fun w => by have := w.2; lia)]
        exact dz_15 hm h.1 hI h.2.2.2.2 hn (RA_go (lS_rf h) (by rw [er]) hI hB (v := -3000000) (by rw [er, dva_3]) (fun S2 r2 => kz ⟨fun _ => ⟨fun _ => SKs q r2, fun w => absurd rfl w⟩, fun w => absurd e w⟩))
      · obtain ⟨e1, e2, -⟩ := his1 e
        by_cases a121 : age = 121
        · have er : rJoin g s age m = (1, 0, g) := by
            unfold rJoin
            rw [if_pos ⟨s0, e2⟩, if_neg (fun w => by have := w.2; lia)]
          exact dz_15 hm h.1 hI h.2.2.2.2 hn (RA_go (lS_rf h) (by rw [er]) hI hB (v := -2000000) (by rw [er, dva_1]) (fun S2 r2 => kz ⟨fun w => absurd w e, fun _ => ⟨fun _ => ⟨fun _ => SKs q r2, fun w => absurd rfl w⟩, fun w => absurd a121 w⟩⟩))
        · have a2 := ha.resolve_left a121
          have er : rJoin g s age m = (2, 0, g) := by
            unfold rJoin
            rw [if_pos ⟨s0, e2⟩, if_pos a2, if_neg (fun w => hno e1 ⟨w.1, w.2.1, w.2.2.1, a121⟩)]
          exact dz_15 hm h.1 hI h.2.2.2.2 hn (RA_go (lS_rf h) (by rw [er]) hI hB (v := -1000000) (by rw [er, dva_2]) (fun S2 r2 => kz ⟨fun w => absurd w e, fun _ => ⟨fun w => absurd w a121, fun _ => ⟨fun _ => ⟨fun _ => SKs q r2, fun w => absurd rfl w⟩, fun w => absurd rfl w⟩⟩⟩))
    refine ⟨fun z => ?_, fun z => ?_⟩
    · rw [z] at hd; exact hd
    · rw [hm.resolve_left z] at hd; exact hd
  have no1 : ∀ L : Int32, (is = 1 → ¬ (g 125 (nt s) = 0 ∧ full g s ∧ see g s age ∧ age ≠ 121)) → w_L_isSeat_1695 Q s is age m L S := fun L hno => by
    unfold w_L_isSeat_1695 w_L_isSeat_1696
    exact ⟨fun _ => no L hno, fun z => absurd rfl z⟩
  -- somebody joins
  have yes : is = 1 → s < g 321 0 → g 125 (nt s) = 0 → full g s → see g s age → 0 ≤ age ∧ age ≤ 120 → g 128 (nt s) ≤ 8 → w_L_isSeat_1696 Q s is age m (g 128 (nt s)) 1 S := fun e1 s1 st hfu esee a2 l8 => by
    subst e1
    obtain ⟨-, -, -, -, -, -, -, -, l0, l1⟩ := ia_s hI.1 s s0 s1
    obtain ⟨j0, j1⟩ := jAt_rng (g := g) (s := s) (m := m) ⟨l0, l1⟩
    have er : rJoin g s age m = (0, jAt g s m, gJoin g s age m) := by
      unfold rJoin
      rw [if_pos ⟨s0, s1⟩, if_pos a2, if_pos ⟨st, hfu, esee, by lia⟩]
    have hI2 : Iv (gJoin g s age m) := by have := Iv_join (s := s) (age := age) hm hI; rw [er] at this; exact this
    have hB2 : LB (C + 4) (gJoin g s age m) := LB_join hB hI.1 s0 s1 rfl j0 j1 l8 a2.1 a2.2
    have e300 : gJoin g s age m 300 0 = g 300 0 := join_o (by decide)
    have e336 : gJoin g s age m 336 0 = g 336 0 := join_o (by decide)
    -- the end: the place is found, and written
    have fin : ∀ (x : Int32) (T : Sg), x = jAt g s m → JB S s (g 128 (nt s)) x T → w_L_isSeat_1766 Q s 1 age m 1 x T := fun x T ex hT => by
      unfold w_L_isSeat_1766 w_L_isSeat_1792 w_L_isSeat_1794
      have wr : ∀ v : Int32, v = 1 + age + 128 * m → ∀ S4, S4 = su T 111 (nt (10 * s + x)) v → lS S S4 (gJoin g s age m) := fun v hv S4 e4 => by
        have k4 : ∀ c i, c ≠ 111 → S4.1 c i = S.1 c i := fun c i hc => by rw [e4, su_ne (Or.inl hc)]; exact hT.1 c i hc
        refine ⟨⟨LX_oline k4 hx ?_ (fun c i hc => join_o hc), fun y k y0 y1 k0 k1 => ?_⟩, ⟨fun c i hc => ?_, by rw [e4]; exact hT.2.1⟩⟩
        · intro y k y0 y1 k0 k1
          obtain ⟨q1, q2⟩ := join_at (k := k) (age := age) ex.symm s0 (by lia) y0 (by lia) k0 (by lia) (by rw [ex]; exact j0) (by rw [ex]; exact j1) (by lia)
          rw [e4, q1, q2, join_8]
          by_cases z : y = s ∧ k = x
          · obtain ⟨rfl, rfl⟩ := z
            rw [su_at, if_pos rfl, if_pos (by lia), if_pos ⟨rfl, rfl⟩, if_pos ⟨rfl, rfl⟩, hv]
            lia
          · rw [su_ne (Or.inr (fun e9 => z ((l_inj y0 y1 k0 k1 s0 (by lia) (by lia) (by lia)).mp e9))), hT.2.2 y k y0 y1 k0 k1, if_neg z, if_neg z]
            by_cases w : y = s
            · subst w
              rw [if_pos (show nt y = nt y from rfl)]
              have kx : ¬ k = x := fun u => z ⟨rfl, u⟩
              by_cases v9 : x < k ∧ k ≤ g 128 (nt y)
              · have w1 : y = y ∧ x < k ∧ k ≤ g 128 (nt y) := ⟨rfl, v9⟩
                rw [if_pos w1, if_pos w1, if_pos w1, if_pos (by lia), lx_l hx y (k - 1) y0 y1 (by lia) (by lia), if_pos (by lia)]
                have x0' : 0 ≤ x := by rw [ex]; exact j0
                have kp : 0 < k := by have := v9.1; lia
                have z130 : g 130 (nt (40 * y + (k - 1))) = 0 := by
                  rcases hm with m0 | m1
                  · rw [m0] at ex; unfold jAt at ex; rw [if_pos rfl] at ex; exfalso; lia
                  · rw [m1] at ex; unfold jAt at ex; rw [if_neg (by decide)] at ex
                    by_cases u : g 130 (nt (40 * y + (k - 1))) = 0
                    · exact u
                    · exfalso
                      -- a member at k - 1 would lie ahead of x
                      have hmm : ∀ d : Nat, d ≤ 40 → k ≤ nI d → nI d ≤ g 128 (nt y) → k ≤ mem g y d := by
                        intro d
                        induction d with
                        | zero => intro _ d1; exfalso; have : k ≤ 0 := d1; lia
                        | succ d ih =>
                          intro d0 d1 d2
                          rw [nI1] at d1 d2
                          have e5 : (nI d).toInt = d := nI_toInt (by omega)
                          have e6 : 0 ≤ nI d := by rw [z_le, e5]; exact Int.natCast_nonneg d
                          have e7 : nI d ≤ 40 := by rw [z_le, e5]; show (d : Int) ≤ 40; omega
                          show k ≤ (if g 130 (nt (40 * y + nI d)) = 0 then mem g y d else nI (d + 1))
                          by_cases t : k = nI d + 1
                          · rw [show nI d = k - 1 by lia, if_neg u, nI1]; lia
                          · split
                            · exact ih (by omega) (by lia) (by lia)
                            · rw [nI1]; lia
                      have := hmm (nt (g 128 (nt y))) (nt_le (n := 40) (by decide) l1) (by rw [nI_nt0 l0]; lia) (by rw [nI_nt0 l0]; lia)
                      lia
                rw [z130]
              · have w1 : ¬ (y = y ∧ x < k ∧ k ≤ g 128 (nt y)) := fun u => v9 u.2
                rw [if_neg w1, if_neg w1, if_neg w1, lx_l hx y k y0 y1 k0 k1]
                by_cases u : k < g 128 (nt y)
                · rw [if_pos u, if_pos (by lia)]
                · rw [if_neg u, if_neg (by lia)]
            · have ne : ¬ nt y = nt s := fun u => w ((nt_inj y0 s0).mp u)
              have w1 : ¬ (y = s ∧ x < k ∧ k ≤ g 128 (nt s)) := fun u => w u.1
              rw [if_neg w1, if_neg w1, if_neg w1, if_neg ne]
              exact lx_l hx y k y0 y1 k0 k1
        · rw [k4 _ _ (by decide), join_o (by decide), join_o (by decide)]
          exact h.2.2.1.2 y k y0 y1 k0 k1
        · rw [k4 c i (fun e9 => hc (Or.inl (by unfold mc; omega)))]
      have dn : ∀ U, lS S U (gJoin g s age m) → w_L_isSeat_1811 Q 1 age 1 x m age s 15 U := fun U hU => by
        unfold w_L_isSeat_1811 w_L_isSeat_1850
        exact
          dz_15 hm (RA_c h hU) hI (RA_b h hU) hn (RA_go hU (by rw [er]) hI2 hB2 (v := x) (by rw [er, dva_0, ex]) (fun S2 r2 => kz ⟨fun w => absurd w (by decide), fun _ => ⟨fun w => absurd w (by lia), fun _ => ⟨fun w => absurd w (by decide), fun _ => ⟨fun _ => q 0 _ S2 (by omega) (Or.inl rfl) r2 (by rw [e336]; omega) e300, fun w => absurd rfl w⟩⟩⟩⟩))
      have vx : vp_in (10 * s + x) 50 := va (by lia) (by show _ < 50; lia)
      refine ⟨fun z => ⟨vx, ?_⟩, fun z => ⟨vx, ?_⟩⟩
      · intro S4 e4
        have hU := wr _ (by rw [z]; lia) S4 e4
        have := dn S4 hU
        rw [z] at this
        exact ⟨fun _ => this, fun y => absurd z y⟩
      · intro S4 e4
        have m1 := hm.resolve_left z
        have hU := wr _ (by rw [m1]; lia) S4 e4
        have := dn S4 hU
        rw [m1] at this
        exact ⟨fun y => absurd y z, fun _ => this⟩
    unfold w_L_isSeat_1696
    refine ⟨fun z => absurd z (by decide), fun _ => ?_⟩
    rcases hm with m0 | m1
    · refine ⟨1, ?_⟩
      rw [w_L_isSeat_1707]
      exact ⟨fun _ => fin _ S (by unfold jAt; rw [if_pos m0]) JB0, fun z => absurd m0 z⟩
    · have L : ∀ (d : Nat) (x : Int32) (T : Sg), nI d = x → d ≤ 40 → 0 ≤ x → x ≤ g 128 (nt s) → (∀ j : Int32, x ≤ j → j < g 128 (nt s) → g 130 (nt (40 * s + j)) = 0) → JB S s (g 128 (nt s)) x T → w_L_isSeat_1707 Q (d + 1) s 1 age m 1 x T := by
        have ejx : ∀ x : Int32, 0 ≤ x → x ≤ g 128 (nt s) → (∀ j : Int32, x ≤ j → j < g 128 (nt s) → g 130 (nt (40 * s + j)) = 0) → mem g s (nt x) = x → x = jAt g s m := fun x x0 x1 hz hx9 => by
          unfold jAt
          rw [m1, if_neg (by decide)]
          have en : nt (g 128 (nt s)) = nt x + nt (g 128 (nt s) - x) := by
            rw [← nt_add x0 (by lia) (by lia) (by lia), show x + (g 128 (nt s) - x) = g 128 (nt s) by lia]
          rw [en, mem_down x0 _ (Nat.le_trans (nt_le (n := 40) (by decide) (show g 128 (nt s) - x ≤ 40 by lia)) (by decide)) (by lia) (fun j j2 j3 => hz j j2 (by rw [nI_nt0 (by lia)] at j3; lia)), hx9]
        intro d
        induction d with
        | zero =>
          intro x T ed hd x0 x1 hz hT
          have e0 : x = 0 := ed.symm
          have ex := ejx x x0 x1 hz (by rw [e0]; rfl)
          rw [w_L_isSeat_1707]
          exact ⟨fun _ => fin x T ex hT, fun _ => ⟨fun _ => fin x T ex hT, fun z => absurd (by lia) z⟩⟩
        | succ d ih =>
          intro x T ed hd x0 x1 hz hT
          have e5 : (nI d).toInt = d := nI_toInt (by omega)
          have e6 : 0 ≤ nI d := by rw [z_le, e5]; exact Int.natCast_nonneg d
          have e7 : nI d ≤ 40 := by rw [z_le, e5]; show (d : Int) ≤ 40; omega
          have ed2 : nI d + 1 = x := by rw [← nI1]; exact ed
          have eix : 10 * s + x - 1 = 10 * s + (x - 1) := by lia
          have v1 : vp_in (10 * s + x - 1) 50 := va (by lia) (by show _ < 50; lia)
          rw [w_L_isSeat_1707]
          refine ⟨fun z => absurd z (by rw [m1]; decide), fun _ => ⟨fun z => absurd z (by lia), fun _ => ⟨v1, ?_⟩⟩⟩
          have hr : T.1 111 (nt (10 * s + x - 1)) = S.1 111 (nt (10 * s + (x - 1))) := by
            rw [eix, hT.2.2 s (x - 1) s0 (by lia) (by lia) (by lia), if_neg (fun u => by have := u.2.1; lia)]
          obtain ⟨k1, k2, k3, k4⟩ := l_at hx hI.1 hB s0 s1 (show 0 ≤ x - 1 by lia) (by lia)
          rw [hr, k1]
          have ent : nt x = d + 1 := by
            rw [← ed]; exact nt_nI (by omega)
          have ednt : nI d = x - 1 := by lia
          refine ⟨fun z => fin x T (ejx x x0 x1 hz ?_) hT, fun z => ⟨v1, va (by lia) (by show _ < 50; lia), ?_⟩⟩
          · rw [ent]
            show (if g 130 (nt (40 * s + nI d)) = 0 then mem g s d else nI (d + 1)) = x
            rw [ednt, if_neg (fun w => by rw [w] at z; lia)]
            exact ed
          · intro S5 e5'
            have z130 : g 130 (nt (40 * s + (x - 1))) = 0 := by
              rcases k4 with w | w
              · exact w
              · rw [w] at z; exfalso; lia
            rw [show x + (-1) = x - 1 by lia]
            refine ih (x - 1) S5 (by lia) (by omega) (by lia) (by lia) (fun j j2 j3 => ?_) ⟨fun c i hc => ?_, by rw [e5']; exact hT.2.1, fun y k y0 y1 k0 k1' => ?_⟩
            · by_cases w : j = x - 1
              · rw [w]; exact z130
              · exact hz j (by lia) j3
            · rw [e5', su_ne (Or.inl hc)]; exact hT.1 c i hc
            · rw [e5']
              by_cases w : y = s ∧ k = x
              · obtain ⟨rfl, rfl⟩ := w
                rw [su_at, if_pos ⟨rfl, by lia, x1⟩, k1]
              · rw [su_ne (Or.inr (fun e9 => w ((l_inj y0 y1 k0 k1' s0 (by lia) x0 (by lia)).mp e9))), hT.2.2 y k y0 y1 k0 k1']
                by_cases u : y = s ∧ x < k ∧ k ≤ g 128 (nt s)
                · have u2 : y = s ∧ x - 1 < k ∧ k ≤ g 128 (nt s) := ⟨u.1, by have := u.2.1; lia, u.2.2⟩
                  rw [if_pos u, if_pos u2]
                · have u2 : ¬ (y = s ∧ x - 1 < k ∧ k ≤ g 128 (nt s)) := fun v => u ⟨v.1, by
                    by_cases t : k = x
                    · exact absurd ⟨v.1, t⟩ w
                    · have := v.2.1; lia, v.2.2⟩
                  rw [if_neg u, if_neg u2]
      exact ⟨nt (g 128 (nt s)) + 1, L (nt (g 128 (nt s))) (g 128 (nt s)) S (nI_nt0 l0) (nt_le (n := 40) (by decide) l1) l0 (by lia) (fun j j2 j3 => by exfalso; lia) JB0⟩
  -- is it full
  have people : ∀ fu : Int32, (is = 1 → (fu = 1 ↔ g 125 (nt s) = 0 ∧ full g s)) → (fu = 0 ∨ fu = 1) → (is = 0 → fu = 0) → w_L_isSeat_1647 Q s is age se m fu S := fun fu hfu h01 hz => by
    unfold w_L_isSeat_1647 w_L_isSeat_1663
    have noF : ∀ L : Int32, (is = 1 → ¬ (g 125 (nt s) = 0 ∧ full g s ∧ see g s age ∧ age ≠ 121)) → w_L_isSeat_1695 Q s is age m L S := no1
    refine ⟨fun z => ⟨fun y => absurd y (by decide), fun _ => ⟨fun _ => noF 0 (fun w => by rw [z] at w; exact absurd w (by decide)), fun y => absurd (hz z) y⟩⟩, fun z => ?_⟩
    obtain ⟨e1, s1, er, ew⟩ := his1 z
    have hfu := hfu e1
    obtain ⟨l9, -⟩ := lb_4 hB s s0 s1
    refine Lpeople hx hI.1 hB s0 s1 (kz ⟨fun _ => SK0 h q, fun y => ⟨fun w => noF _ (fun _ o => by rw [hfu.mpr ⟨o.1, o.2.1⟩] at w; exact absurd w (by decide)), fun w => ⟨fun u => noF _ (fun _ o => o.2.2.2 (by rcases ha with v | v; exact v; exfalso; lia)), fun u => ⟨fun v => noF _ (fun _ o => ?_), fun v => ?_⟩⟩⟩⟩)
    · exact (hse.resolve_left (fun t => by rw [v] at t; exact absurd t.1 (by decide))).2 ⟨⟨s0, s1⟩, o.2.2.1⟩
    · obtain ⟨f1, f2⟩ := hfu.mp (h01.resolve_left w)
      exact yes e1 s1 f1 f2 (hse.resolve_right (fun o => v o.1)).2.2 (ha.resolve_left (fun t => u (by lia))) (by lia)
  have loop : ∀ fu : Int32, (is = 1 → (fu = 1 ↔ g 125 (nt s) = 0)) → (fu = 0 ∨ fu = 1) → (is = 0 → fu = 0) → w_L_isSeat_1595 Q s is rows wide age se m fu S := fun fu hfu h01 hz => by
    unfold w_L_isSeat_1595
    by_cases e : is = 0
    · refine ⟨1, ?_⟩
      rw [w_L_isSeat_1600]
      have f1 := people fu (fun w => by rw [e] at w; exact absurd w (by decide)) h01 hz
      exact ⟨fun _ => f1, fun _ => ⟨fun _ => f1, fun z => absurd e z⟩⟩
    · obtain ⟨e1, s1, er, ew⟩ := his1 e
      have hfu := hfu e1
      have w12 := wd12 hI.1 hB s0 s1
      have ewd : rows * wide = wd g s := by rw [er, ew]; rfl
      have L : ∀ (d : Nat) (k f9 : Int32), 0 ≤ k → k + nI d = wd g s → k ≤ wd g s → (f9 = 0 ∨ f9 = 1) → (f9 = 1 ↔ g 125 (nt s) = 0 ∧ ∀ i : Int32, 0 ≤ i → i < k → ¬ fre g s i) → w_L_isSeat_1600 Q (d + 1) s is rows wide age se m f9 k S := by
        have endL : ∀ (k f9 : Int32), k = wd g s → (f9 = 0 ∨ f9 = 1) → (f9 = 1 ↔ g 125 (nt s) = 0 ∧ ∀ i : Int32, 0 ≤ i → i < k → ¬ fre g s i) → w_L_isSeat_1647 Q s is age se m f9 S := fun k f9 ek h1 h2 => by
          rw [ek] at h2
          exact people f9 (fun _ => h2) h1 (fun w => absurd w e)
        intro d
        induction d with
        | zero =>
          intro k f9 k0 k1 k2 h1 h2
          have ek : k = wd g s := by rw [← k1]; show k = k + 0; lia
          rw [w_L_isSeat_1600, ewd]
          exact ⟨fun _ => endL k f9 ek h1 h2, fun z => absurd (by lia) z⟩
        | succ d ih =>
          intro k f9 k0 k1 k2 h1 h2
          rw [nI1] at k1
          rw [w_L_isSeat_1600, ewd]
          refine ⟨fun z => endL k f9 (by lia) h1 h2, fun z => ⟨fun y => absurd y e, fun _ => ?_⟩⟩
          have sp : ∀ i : Int32, i < k + 1 → i < k ∨ i = k := fun i hi => by
            by_cases t : i = k
            · exact Or.inr t
            · exact Or.inl (by lia)
          rw [a_free h.2.2.1.2 hI.1 b1 s0 (by lia) k0 (by lia)]
          unfold w_L_isSeat_1638 w_L_isSeat_1639
          refine ⟨fun y => ih (k + 1) 0 (by lia) (by lia) (by lia) (Or.inl rfl) ⟨fun w => absurd w (by decide), fun o => ?_⟩, fun y => ⟨va (by lia) (by show _ < 60; lia), fun w => ih (k + 1) 0 (by lia) (by lia) (by lia) (Or.inl rfl) ⟨fun u => absurd u (by decide), fun o => absurd w (o.2 k k0 (by lia))⟩, fun w => ih (k + 1) 1 (by lia) (by lia) (by lia) (Or.inr rfl) ⟨fun _ => ?_, fun _ => rfl⟩⟩⟩
          · have := h2.mpr ⟨o.1, fun i i0 i1 => o.2 i i0 (by lia)⟩
            rw [y] at this; exact absurd this (by decide)
          · have h3 := h2.mp (h1.resolve_left y)
            refine ⟨h3.1, fun i i0 i1 => ?_⟩
            rcases sp i i1 with u | u
            · exact h3.2 i i0 u
            · rw [u]; exact w
      exact ⟨nt (wd g s) + 1, L (nt (wd g s)) 0 fu (by decide) (by rw [nI_nt0 (by lia)]; lia) (by lia) h01 (by rw [hfu]; exact ⟨fun z => ⟨z, fun i i0 i1 => by exfalso; lia⟩, fun z => z.1⟩)⟩
  unfold w_L_isSeat_1574 w_L_isSeat_1594
  refine ⟨fun z => loop 0 (fun w => by rw [z] at w; exact absurd w (by decide)) (Or.inl rfl) (fun _ => rfl), fun z => ?_⟩
  obtain ⟨e1, s1, er, ew⟩ := his1 z
  exact Lstate hx hI.1 b1 s0 s1 (kz ⟨fun y => loop 1 (fun _ => ⟨fun _ => y, fun _ => rfl⟩) (Or.inr rfl) (fun w => absurd w z), fun y => loop 0 (fun _ => ⟨fun w => absurd w (by decide), fun w => absurd w y⟩) (Or.inl rfl) (fun _ => rfl)⟩)
end S6
