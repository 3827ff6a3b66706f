/-! a minute, as the law passes it -/
section L5
variable {g g1 : Gm} {S S0 T : Sg} {C : Nat} {Q : Nat → Int32 → Sg → Prop}
theorem gu_same {c i : Nat} : gu g c i (g c i) = g := by
  funext a b
  unfold gu
  split
  · rename_i e; rw [e.1, e.2]
  · rfl
/-- the hold k has ended: its row says so, its place is not yet cleared -/
theorem LX_end {k : Int32} {v : Int32} (h : LX S g) (k0 : 0 ≤ k) (k1 : k < g 331 0) (k2 : k < 24) (hv : v = g 132 (nt k) + 8 * (g 133 (nt k) + 16 * 1)) {i : Nat} (h24 : g 331 0 ≤ 24) : LX (su S 110 (nt k) v) (gu (gu g 135 (nt k) 1) 127 i (-1)) := by
  obtain ⟨x0, x1, x2, x3, x4, x5, x6, x7⟩ := h
  refine ⟨x0, x1, x2, x3, x4, x5, ?_, x7⟩
  intro j j0 j1
  have j1 : j < g 331 0 := j1
  have e : (gu (gu g 135 (nt k) 1) 127 i (-1)) 135 (nt j) = if nt j = nt k then 1 else g 135 (nt j) := by
    rw [gu_ne (Or.inl (by decide))]
    by_cases z : nt j = nt k
    · rw [if_pos z, z, gu_at]
    · rw [if_neg z, gu_ne (Or.inr z)]
  have e24 : (su S 110 (nt k) v).1 110 (nt (24 + j)) = S.1 110 (nt (24 + j)) := su_ne (Or.inr (fun z => by rw [nt_inj (by lia) k0] at z; lia))
  rw [e24, e]
  refine ⟨?_, (x6 j j0 j1).2⟩
  show (su S 110 (nt k) v).1 110 (nt j) = g 132 (nt j) + 8 * (g 133 (nt j) + 16 * (if nt j = nt k then 1 else g 135 (nt j)))
  by_cases z : j = k
  · subst z
    rw [su_at, if_pos rfl]; exact hv
  · have ne : nt j ≠ nt k := fun y => z ((nt_inj j0 k0).mp y)
    rw [su_ne (Or.inr ne), if_neg ne]; exact (x6 j j0 j1).1
theorem La_end {k s p : Int32} {v w : Int32} (h : La S g) (s0 : 0 ≤ s) (s1 : s < 5) (p0 : 0 ≤ p) (p1 : p < 12) : La0 (su S 110 (nt k) v) (gu (gu g 135 (nt k) w) 127 (nt (48 * s + p)) (-1)) s p := by
  intro x q x0 x1 q0 q1 ne
  have e7 : (gu (gu g 135 (nt k) w) 127 (nt (48 * s + p)) (-1)) 127 (nt (48 * x + q)) = g 127 (nt (48 * x + q)) := gu_ne (g := gu g 135 (nt k) w) (c := 127) (Or.inr (fun e => ne ((ix_inj x0 (by lia) q0 (by lia) s0 (by lia) p0 (by lia)).mp e)))
  rw [e7]
  exact h x q x0 x1 q0 q1
theorem w_st {a b c : Int32} : a + 4 * (b + 4 * c) + 16 = a + 4 * (b + 4 * (c + 1)) := by lia
theorem LX_w {s v st : Int32} (h : LX S g) (s0 : 0 ≤ s) (s1 : s < g 321 0) (s5 : g 321 0 ≤ 5) (hv : v = g 122 (nt s) + 4 * (g 123 (nt s) + 4 * st)) : LX (su S 106 (nt s) v) (gu g 125 (nt s) st) := by
  obtain ⟨x0, x1, x2, x3, x4, x5, x6, x7⟩ := h
  refine ⟨x0, x1, x2, x3, ?_, x5, x6, x7⟩
  intro j j0 j1
  have j1 : j < g 321 0 := j1
  have e5 : (su S 106 (nt s) v).1 106 (nt (5 + j)) = S.1 106 (nt (5 + j)) := su_ne (Or.inr (fun z => by rw [nt_inj (by lia) s0] at z; lia))
  rw [e5]
  refine ⟨?_, (x4 j j0 j1).2⟩
  show (su S 106 (nt s) v).1 106 (nt j) = g 122 (nt j) + 4 * (g 123 (nt j) + 4 * gu g 125 (nt s) st 125 (nt j))
  by_cases z : j = s
  · subst z
    rw [su_at, gu_at]; exact hv
  · have ne : nt j ≠ nt s := fun y => z ((nt_inj j0 s0).mp y)
    rw [su_ne (Or.inr ne), gu_ne (Or.inr ne)]; exact (x4 j j0 j1).1
theorem LX_h5 {h' v : Int32} (h : LX S g) (h0 : 0 ≤ h') (h1 : h' < 2) (h2 : g 302 0 ≤ 2) : LX (su S 103 (nt (2 + h')) v) (gu g 105 (nt h') v) := by
  obtain ⟨x0, ⟨y1, y2⟩, x2, x3, x4, x5, x6, x7⟩ := h
  refine ⟨x0, ⟨fun j j0 j1 => ?_, fun j j0 j1 => ?_⟩, x2, x3, x4, x5, x6, x7⟩
  · have j1 : j < g 302 0 := j1
    have a : (su S 103 (nt (2 + h')) v).1 103 (nt j) = S.1 103 (nt j) := su_ne (Or.inr (fun z => by rw [nt_inj j0 (by lia)] at z; lia))
    have b : (su S 103 (nt (2 + h')) v).1 103 (nt (4 + j)) = S.1 103 (nt (4 + j)) := su_ne (Or.inr (fun z => by rw [nt_inj (by lia) (by lia)] at z; lia))
    rw [a, b]
    exact y1 j j0 j1
  · by_cases z : j = h'
    · subst z
      rw [su_at, gu_at]
    · rw [su_ne (Or.inr (fun y => z (by rw [nt_inj (by lia) (by lia)] at y; lia))), gu_ne (Or.inr (fun y => z ((nt_inj j0 h0).mp y)))]
      exact y2 j j0 j1
/-- the line of s cleared in its first x places -/
def JC (S : Sg) (s x : Int32) (T : Sg) : Prop := (∀ c i, c ≠ 111 → T.1 c i = S.1 c i) ∧ T.2 = S.2 ∧ ∀ y n : Int32, 0 ≤ y → y < 5 → 0 ≤ n → n < 10 → T.1 111 (nt (10 * y + n)) = if y = s ∧ n < x then 0 else S.1 111 (nt (10 * y + n))
theorem LX_clear {s : Int32} (h : LX S g) (s0 : 0 ≤ s) (s1 : s < 5) (hT : JC S s 10 T) : LX T (gu g 128 (nt s) 0) := by
  obtain ⟨⟨a0, a1, a2, a3, a4, a5, a6, a7⟩, ⟨b1, b2⟩, ⟨c1, c2⟩, d1, e1, f1, g1, l1⟩ := h
  have k : ∀ c i, c < 111 ∨ 111 < c → T.1 c i = S.1 c i := fun c i q => hT.1 c i (by omega)
  refine ⟨⟨(k _ _ (by omega)).trans a0, (k _ _ (by omega)).trans a1, (k _ _ (by omega)).trans a2, (k _ _ (by omega)).trans a3, (k _ _ (by omega)).trans a4, (k _ _ (by omega)).trans a5, (k _ _ (by omega)).trans a6, (k _ _ (by omega)).trans a7⟩, ⟨fun i x y => ?_, fun i x y => ?_⟩, ⟨fun i x y => ?_, fun i x y => ?_⟩, fun i x y => ?_, fun i x y => ?_, fun i x y => ?_, fun i x y => ?_, fun y n y0 y1 n0 n1 => ?_⟩
  · rw [k _ _ (by omega), k _ _ (by omega)]; exact b1 i x y
  · rw [k _ _ (by omega)]; exact b2 i x y
  · rw [k _ _ (by omega), k _ _ (by omega), k _ _ (by omega), k _ _ (by omega), k _ _ (by omega)]; exact c1 i x y
  · rw [k _ _ (by omega), k _ _ (by omega), k _ _ (by omega)]; exact c2 i x y
  · rw [k _ _ (by omega), k _ _ (by omega), k _ _ (by omega)]; exact d1 i x y
  · rw [k _ _ (by omega), k _ _ (by omega)]; exact e1 i x y
  · rw [k _ _ (by omega), k _ _ (by omega)]; exact f1 i x y
  · rw [k _ _ (by omega), k _ _ (by omega)]; exact g1 i x y
  · rw [hT.2.2 y n y0 y1 n0 n1]
    by_cases e : y = s
    · subst e
      rw [if_pos ⟨rfl, n1⟩, gu_at, if_neg (by lia)]
    · rw [if_neg (fun z => e z.1), gu_ne (Or.inr (fun z => e ((nt_inj y0 s0).mp z)))]
      exact l1 y n y0 y1 n0 n1
theorem clf_line {s x : Int32} (hc : clf S0 S) (hT : JC S s x T) : clf S0 T := ⟨fun c i hn => by
  rw [hT.1 c i (fun e => hn (Or.inl (by unfold mc; omega)))]; exact hc.1 c i hn, hT.2.1.trans hc.2⟩
theorem La_line {s x : Int32} (hT : JC S s x T) (h : La S g) : La T g := fun y q y0 y1 q0 q1 => by
  rw [hT.1 _ _ (by decide)]; exact h y q y0 y1 q0 q1
theorem JC0 {s : Int32} : JC S s 0 S := ⟨fun _ _ _ => rfl, rfl, fun y n y0 y1 n0 n1 => by rw [if_neg (fun e => by have := e.2; lia)]⟩
theorem JC_step {s x : Int32} (s0 : 0 ≤ s) (s1 : s < 5) (x0 : 0 ≤ x) (x1 : x < 10) (hT : JC S s x T) : JC S s (x + 1) (su T 111 (nt (10 * s + x)) 0) := by
  refine ⟨fun c i hn => ?_, hT.2.1, fun z n z0 z1 n0 n1 => ?_⟩
  · rw [su_ne (Or.inl hn)]; exact hT.1 c i hn
  · by_cases e : z = s ∧ n = x
    · obtain ⟨rfl, rfl⟩ := e
      rw [su_at, if_pos ⟨rfl, by lia⟩]
    · rw [su_ne (Or.inr (fun e9 => e ((l_inj z0 z1 n0 n1 s0 s1 x0 x1).mp e9))), hT.2.2 z n z0 z1 n0 n1]
      by_cases e2 : z = s ∧ n < x
      · have w1 : z = s ∧ n < x + 1 := ⟨e2.1, by lia⟩
        rw [if_pos e2, if_pos w1]
      · have w1 : ¬ (z = s ∧ n < x + 1) := fun e3 => e2 ⟨e3.1, (i32_lt1 e3.2 x0 (by lia)).elim id (fun e4 => absurd ⟨e3.1, e4⟩ e)⟩
        rw [if_neg e2, if_neg w1]
theorem Lm3 : ∀ (d : Nat) (x : Int32) (g : Gm) (T : Sg), d ≤ 1000 → 0 ≤ x → x + nI d = g 321 0 → x ≤ g 321 0 → lS S0 T g → Ia g → HO g → SB g → LB C g → (∀ T', lS S0 T' (sS d x g) → LB C (sS d x g) → Q 0 0 T') → w_L_minute_203 Q (d + 1) x T
  | 0, x, g, T, hd, x0, x1, x2, h, hI, hH, hs, hB, q => by
    have e : x = g 321 0 := by rw [← x1]; show x = x + 0; lia
    rw [w_L_minute_203, lg_5 h.1.1]
    exact ⟨vd, fun _ => q T h hB, fun z => absurd (by lia) z⟩
  | d + 1, x, g, T, hd, x0, x1, x2, h, hI, hH, hs, hB, q => by
    have n3 := n321 (ia_n hI)
    have b1 := lb_1 hB
    have b4 := (lb_1 hB).2.2.2.1
    rw [nI1] at x1
    rw [w_L_minute_203, lg_5 h.1.1]
    by_cases hx : x < g 321 0
    · refine ⟨vd, fun z => absurd z (by lia), fun _ => Lstate h.1.1 hI b1 x0 hx (kz ⟨fun c1 => ⟨va (by lia) (by show _ < 11; lia), vd, ?_⟩, fun c1 => ?_⟩)⟩
      · rw [w_t h.1.1 x0 hx, lg_0 h.1.1]
        have go := (hs x x0 hx).1 c1
        refine ⟨fun c2 => ⟨va x0 (by show _ < 11; lia), va x0 (by show _ < 11; lia), ?_⟩, fun c2 => ?_⟩
        · have cc : g 125 (nt x) = 0 ∧ ¬ g 300 0 < g 124 (nt x) := ⟨c1, by lia⟩
          intro S5 e5
          have h5 : LX S5 (gu g 125 (nt x) 1) := by
            rw [e5]
            refine LX_w h.1.1 x0 hx b4 ?_
            rw [((lx_w h.1.1) x x0 hx).1, c1]; lia
          have c5 : clf S0 S5 := by rw [e5]; exact clf_l h.2
          have a5 : La S5 (gu g 125 (nt x) 1) := by rw [e5]; exact h.1.2
          clear e5
          have L : ∀ (m : Nat) (y : Int32) (U : Sg), 0 ≤ y → y + nI m = 10 → y ≤ 10 → JC S5 x y U → w_L_minute_246 (fun x9 S => w_L_minute_203 Q (d + 1) x9 S) Q (m + 1) x y U := by
            have fin : ∀ U, JC S5 x 10 U → w_L_minute_203 Q (d + 1) (x + 1) U := fun U hU => by
              have e9 : sS (d + 1) x g = sS d (x + 1) (gRun g x) := by
                show sS d (x + 1) (if g 125 (nt x) = 0 ∧ ¬ g 300 0 < g 124 (nt x) then gRun g x else g) = _
                rw [if_pos cc]
              rw [e9] at q
              have eo : ∀ s, en (gRun g x) s = en g s := fun s => by unfold en; rw [run_o (by omega), run_o (by omega), run_o (by omega)]
              refine Lm3 d (x + 1) (gRun g x) U (by omega) (by lia) (by rw [run_o (by omega)]; lia) (by rw [run_o (by omega)]; lia) ⟨⟨LX_clear h5 x0 (by lia) hU, La_line hU a5⟩, clf_line c5 hU⟩ (Ia_run hI hH x0 hx cc.1 cc.2) (fun j j0 j1 jo => by
                rw [run_o (by omega)] at j1 jo
                rw [run_o (by omega), run_o (by omega)]
                exact hH j j0 j1 jo) (fun s s0 s1 => by
                rw [run_o (by omega)] at s1
                rw [run_125, run_o (by omega), run_o (by omega), eo]
                split
                · rename_i z9
                  have := (nt_inj s0 x0).mp z9
                  subst this
                  obtain ⟨r1, r2, r3, r4⟩ := en_rng hI x0 hx
                  have h1 := (hs s s0 s1).1 cc.1
                  exact ⟨fun z => absurd z (by decide), fun _ => ⟨by have := cc.2; lia, by lia⟩⟩
                · exact hs s s0 s1) (LB_run hB x0 hx) q
            intro m
            induction m with
            | zero =>
              intro y U y0 y1 y2 hU
              have e : y = 10 := by rw [← y1]; show y = y + 0; lia
              subst e
              rw [w_L_minute_246]
              exact ⟨fun _ => fin U hU, fun z => absurd (by decide) z⟩
            | succ m ih =>
              intro y U y0 y1 y2 hU
              rw [nI1] at y1
              rw [w_L_minute_246]
              refine ⟨fun z => ?_, fun z => ⟨va (by lia) (by show _ < 50; lia), ?_⟩⟩
              · have e : y = 10 := by lia
                subst e
                exact fin U hU
              · rintro U1 rfl
                exact ih (y + 1) _ (by lia) (by lia) (by lia) (JC_step x0 (by lia) y0 (by lia) hU)
          exact ⟨11, L 10 0 S5 (by decide) (by decide) (by decide) JC0⟩
        · have e9 : sS (d + 1) x g = sS d (x + 1) g := by
            show sS d (x + 1) (if g 125 (nt x) = 0 ∧ ¬ g 300 0 < g 124 (nt x) then gRun g x else g) = _
            rw [if_neg (fun z => by have := z.2; lia)]
          rw [e9] at q
          exact Lm3 d (x + 1) g T (by omega) (by lia) (by lia) (by lia) h hI hH hs hB q
      · have e9 : sS (d + 1) x g = sS d (x + 1) g := by
          show sS d (x + 1) (if g 125 (nt x) = 0 ∧ ¬ g 300 0 < g 124 (nt x) then gRun g x else g) = _
          rw [if_neg (fun z => c1 z.1)]
        rw [e9] at q
        exact Lm3 d (x + 1) g T (by omega) (by lia) (by lia) (by lia) h hI hH hs hB q
    · exfalso
      have e5 : (nI d).toInt = d := nI_toInt (by omega)
      have e6 : 0 ≤ nI d := by rw [z_le, e5]; exact Int.natCast_nonneg d
      have e7 : nI d ≤ 1000 := by rw [z_le, e5]; show (d : Int) ≤ 1000; omega
      lia
theorem Lm2 : ∀ (d : Nat) (x : Int32) (g : Gm) (T : Sg), d ≤ 1000 → 0 ≤ x → x + nI d = g 321 0 → x ≤ g 321 0 → lS S0 T g → Ia g → HO g → SA g → LB C g → (∀ T', lS S0 T' (eS d x g) → LB C (eS d x g) → ∃ n9, w_L_minute_203 Q n9 0 T') → w_L_minute_101 Q (d + 1) x T
  | 0, x, g, T, hd, x0, x1, x2, h, hI, hH, hs, hB, q => by
    have e : x = g 321 0 := by rw [← x1]; show x = x + 0; lia
    rw [w_L_minute_101, lg_5 h.1.1]
    exact ⟨vd, fun _ => q T h hB, fun z => absurd (by lia) z⟩
  | d + 1, x, g, T, hd, x0, x1, x2, h, hI, hH, hs, hB, q => by
    have n3 := n321 (ia_n hI)
    have b1 := lb_1 hB
    obtain ⟨c302, c307, c316, b4, c331⟩ := lb_1 hB
    rw [nI1] at x1
    rw [w_L_minute_101, lg_5 h.1.1]
    by_cases hx : x < g 321 0
    · obtain ⟨f0, f1, hh0, hh1, -⟩ := ia_s hI x x0 hx
      have no : ¬ (g 125 (nt x) = 1 ∧ ¬ g 300 0 < en g x) → w_L_minute_138 (fun x9 S => w_L_minute_101 Q (d + 1) x9 S) Q x T := fun c => by
        have e9 : eS (d + 1) x g = eS d (x + 1) g := by
          show eS d (x + 1) (if g 125 (nt x) = 1 ∧ ¬ g 300 0 < en g x then gOver g x else g) = _
          rw [if_neg c]
        rw [e9] at q
        unfold w_L_minute_138 w_L_minute_139 w_L_minute_157 w_L_minute_192
        refine ⟨va x0 (by show _ < 11; lia), fun _ => ⟨va x0 (by show _ < 11; lia), ?_⟩, fun z => absurd rfl z⟩
        intro S7 e7
        have h7 : LX S7 g := by
          rw [e7]
          have := LX_w (v := T.1 106 (nt x) + 0) (st := g 125 (nt x)) h.1.1 x0 hx b4 (by rw [((lx_w h.1.1) x x0 hx).1]; lia)
          rw [gu_same] at this
          exact this
        have c7 : clf S0 S7 := by rw [e7]; exact clf_l h.2
        have a7 : La S7 g := by rw [e7]; exact h.1.2
        clear e7
        rw [w_h h7 hI b1 x0 hx]
        refine ⟨va x0 (by show _ < 11; lia), va (by lia) (by show _ < 7; lia), fun _ => ⟨va (by lia) (by show _ < 7; lia), ?_⟩, fun z => absurd rfl z⟩
        intro S6 e6
        have h6 : LX S6 g := by
          rw [e6, (lx_h h7).2 _ hh0 (by lia)]
          have := LX_h5 (v := g 105 (nt (g 123 (nt x))) + 0) h7 hh0 (by lia) c302
          rw [show g 105 (nt (g 123 (nt x))) + 0 = g 105 (nt (g 123 (nt x))) by lia, gu_same] at this
          rw [show g 105 (nt (g 123 (nt x))) + 0 = g 105 (nt (g 123 (nt x))) by lia]
          exact this
        have c6 : clf S0 S6 := by rw [e6]; exact clf_l c7
        have a6 : La S6 g := by rw [e6]; exact a7
        exact Lm2 d (x + 1) g S6 (by omega) (by lia) (by lia) (by lia) ⟨⟨h6, a6⟩, c6⟩ hI hH hs hB q
      refine ⟨vd, fun z => absurd z (by lia), fun _ => Lstate h.1.1 hI b1 x0 hx (kz ⟨fun c1 => Lend h.1.1 hI b1 x0 hx (kz ⟨vd, ?_⟩), fun c1 => no (fun z => c1 z.1)⟩)⟩
      rw [lg_0 h.1.1]
      refine ⟨fun c2 => ?_, fun c2 => no (fun z => by have := ((hs x x0 hx).2 c1).2; have := z.2; lia)⟩
      have cc : g 125 (nt x) = 1 ∧ ¬ g 300 0 < en g x := ⟨c1, by lia⟩
      have e9 : eS (d + 1) x g = eS d (x + 1) (gOver g x) := by
        show eS d (x + 1) (if g 125 (nt x) = 1 ∧ ¬ g 300 0 < en g x then gOver g x else g) = _
        rw [if_pos cc]
      rw [e9] at q
      unfold w_L_minute_139 w_L_minute_157 w_L_minute_192
      refine ⟨va x0 (by show _ < 11; lia), fun z => absurd z (by decide), fun _ => ⟨va x0 (by show _ < 11; lia), ?_⟩⟩
      intro S7 e7
      have h7 : LX S7 (gu g 125 (nt x) 2) := by
        rw [e7]
        exact LX_w h.1.1 x0 hx b4 (by rw [((lx_w h.1.1) x x0 hx).1, c1]; lia)
      have c7 : clf S0 S7 := by rw [e7]; exact clf_l h.2
      have a7 : La S7 (gu g 125 (nt x) 2) := by rw [e7]; exact h.1.2
      clear e7
      have w7 := (lx_w h7) x x0 hx
      have q122 : gu g 125 (nt x) 2 122 (nt x) = g 122 (nt x) := rfl
      have q123 : gu g 125 (nt x) 2 123 (nt x) = g 123 (nt x) := rfl
      have q125 : gu g 125 (nt x) 2 125 (nt x) = 2 := gu_at
      rw [q122, q123, q125] at w7
      obtain ⟨r1, r2, -⟩ := z_qr (m := 4) (s := g 122 (nt x)) (q := g 123 (nt x) + 4 * 2) f0 (by lia) (by lia) (by lia) (by decide)
      obtain ⟨r3, r4, -⟩ := z_qr (m := 4) (s := g 123 (nt x)) (q := 2) hh0 (by lia) (by decide) (by decide) (by decide)
      rw [w7.1, r2, r1, r4, f_len h7 f0 f1]
      refine ⟨va x0 (by show _ < 11; lia), va (by lia) (by show _ < 7; lia), fun z => absurd z (by decide), fun _ => ⟨va x0 (by show _ < 11; lia), va (by lia) (by show _ < 24; lia), va (by lia) (by show _ < 7; lia), ?_⟩⟩
      intro S6 e6
      have h6 : LX S6 (gOver g x) := by
        rw [e6, (lx_h h7).2 _ hh0 (by lia)]
        exact LX_h5 (v := g 105 (nt (g 123 (nt x))) + g 108 (nt (g 122 (nt x)))) h7 hh0 (by lia) c302
      have c6 : clf S0 S6 := by rw [e6]; exact clf_l c7
      have a6 : La S6 (gOver g x) := by rw [e6]; exact a7
      have eo : ∀ s, en (gOver g x) s = en g s := fun s => by unfold en; rw [over_o (by omega), over_o (by omega), over_o (by omega)]
      exact Lm2 d (x + 1) (gOver g x) S6 (by omega) (by lia) (by rw [over_o (by omega)]; lia) (by rw [over_o (by omega)]; lia) ⟨⟨h6, a6⟩, c6⟩ (Ia_over hI x0 hx cc.1) (fun j j0 j1 jo => by
        rw [over_o (by omega)] at j1 jo
        rw [over_o (by omega), over_o (by omega)]
        exact hH j j0 j1 jo) (fun s s0 s1 => by
        rw [over_o (by omega)] at s1
        rw [over_125, over_o (by omega), over_o (by omega), eo]
        split
        · exact ⟨fun z => absurd z (by decide), fun z => absurd z (by decide)⟩
        · exact hs s s0 s1) (LB_over hB) q
    · exfalso
      have e5 : (nI d).toInt = d := nI_toInt (by omega)
      have e6 : 0 ≤ nI d := by rw [z_le, e5]; exact Int.natCast_nonneg d
      have e7 : nI d ≤ 1000 := by rw [z_le, e5]; show (d : Int) ≤ 1000; omega
      lia
theorem Lm1 (hC : C ≤ 511) : ∀ (d : Nat) (x : Int32) (g : Gm) (T : Sg), d ≤ 1000 → 0 ≤ x → x + nI d = g 331 0 → x ≤ g 331 0 → lS S0 T g → Ia g → HO1 g → SA g → LB C g → (∀ T', lS S0 T' (eH d x g) → LB C (eH d x g) → ∃ n9, w_L_minute_101 Q n9 0 T') → w_L_minute_11 Q (d + 1) x T
  | 0, x, g, T, hd, x0, x1, x2, h, hI, hH, hs, hB, q => by
    have e : x = g 331 0 := by rw [← x1]; show x = x + 0; lia
    rw [w_L_minute_11, lg_6 h.1.1]
    exact ⟨vd, fun _ => q T h hB, fun z => absurd (by lia) z⟩
  | d + 1, x, g, T, hd, x0, x1, x2, h, hI, hH, hs, hB, q => by
    have n3 := n331 (ia_n hI)
    have b1 := lb_1 hB
    obtain ⟨c302, c307, c316, b4, c331⟩ := lb_1 hB
    rw [nI1] at x1
    rw [w_L_minute_11, lg_6 h.1.1]
    unfold w_L_minute_92
    by_cases hx : x < g 331 0
    · obtain ⟨d1, d2, d3, d4, d5, d6⟩ := d_all h.1.1 hI hB x0 hx
      have no : ¬ (g 135 (nt x) = 0 ∧ ¬ g 300 0 < g 134 (nt x)) → w_L_minute_11 Q (d + 1) (x + 1) T := fun c => by
        have e9 : eH (d + 1) x g = eH d (x + 1) g := by
          show eH d (x + 1) (if g 135 (nt x) = 0 ∧ ¬ g 300 0 < g 134 (nt x) then (gEnds g x).2 else g) = _
          rw [if_neg c]
        rw [e9] at q
        exact Lm1 hC d (x + 1) g T (by omega) (by lia) (by lia) (by lia) h hI hH hs hB q
      have o135 := (ia_o hI x x0 hx).2.2.2.2.1
      rw [d3, d4, lg_0 h.1.1]
      refine ⟨vd, fun z => absurd z (by lia), fun _ => ⟨va x0 (by show _ < 48; lia), fun c1 => no (fun z => by rw [c1] at z; exact absurd z.1 (by decide)), fun c1 => ⟨va (by lia) (by show _ < 48; lia), vd, fun c2 => ⟨va x0 (by show _ < 48; lia), va x0 (by show _ < 48; lia), ?_⟩, fun c2 => no (fun z => by have := hH x x0 hx z.1; have := z.2; lia)⟩⟩⟩
      have ho : g 135 (nt x) = 0 := o135.resolve_right c1
      have cc : g 135 (nt x) = 0 ∧ ¬ g 300 0 < g 134 (nt x) := ⟨ho, by lia⟩
      have e9 : eH (d + 1) x g = eH d (x + 1) (gEnds g x).2 := by
        show eH d (x + 1) (if g 135 (nt x) = 0 ∧ ¬ g 300 0 < g 134 (nt x) then (gEnds g x).2 else g) = _
        rw [if_pos cc]
      rw [e9] at q
      obtain ⟨s0, s1, p0, p1, e6, e7, -⟩ := hold_pl hI x0 hx ho
      obtain ⟨cB, hB1⟩ := LB_end (i := nt (48 * g 132 (nt x) + g 133 (nt x))) hB x0 hx ho
      intro S14 e14
      have h14 : LX S14 (gu (gu g 135 (nt x) 1) 127 (nt (48 * g 132 (nt x) + g 133 (nt x))) (-1)) := by
        rw [e14]
        exact LX_end h.1.1 x0 hx (by lia) (by rw [((lx_d h.1.1) x x0 hx).1, ho]; lia) c331
      have c14 : clf S0 S14 := by rw [e14]; exact clf_l h.2
      have a14 : La0 S14 (gu (gu g 135 (nt x) 1) 127 (nt (48 * g 132 (nt x) + g 133 (nt x))) (-1)) (g 132 (nt x)) (g 133 (nt x)) := by
        rw [e14]
        exact La_end h.1.2 s0 (by lia) d5 d6
      clear e14
      have hI1 := Ia_end hI x0 hx ho
      obtain ⟨k1, k2, -⟩ := d_all h14 hI1 hB1 x0 hx
      have k1 : S14.1 110 (nt x) - S14.1 110 (nt x) / 8 * 8 = g 132 (nt x) := k1
      have k2 : S14.1 110 (nt x) / 8 - S14.1 110 (nt x) / 8 / 16 * 16 = g 133 (nt x) := k2
      rw [k1, k2]
      refine ⟨va x0 (by show _ < 48; lia), va x0 (by show _ < 48; lia), Lfrees h14 c14 a14 hI1 hB1 (by omega) s0 s1 d5 d6 ⟨e6, gu_at⟩ (fun U hU => kz ?_)⟩
      have hE := LB_ends hI hB x0 hx ho
      exact Lm1 hC d (x + 1) (gEnds g x).2 U (by omega) (by lia) (by rw [ends_o (by omega)]; lia) (by rw [ends_o (by omega)]; lia) hU (Ia_ends hI x0 hx ho) (HO1_ends hI x0 hx hH) (SA_ends hs) hE q
    · exfalso
      have e5 : (nI d).toInt = d := nI_toInt (by omega)
      have e6 : 0 ≤ nI d := by rw [z_le, e5]; exact Int.natCast_nonneg d
      have e7 : nI d ≤ 1000 := by rw [z_le, e5]; show (d : Int) ≤ 1000; omega
      lia
theorem Lminute (h : lS S0 S g) (hI : Iv g) (hB : LB C g) (hC : C ≤ 511) (hm : g 300 0 < 100000) (q : ∀ T, lS S0 T (gMin g) → LB C (gMin g) → Q 0 0 T) : w_L_minute S Q := by
  obtain ⟨m0, m1, -⟩ := i_n hI
  have n3 := n321 (i_n hI)
  have n4 := n331 (i_n hI)
  have d3 := nt_le (n := 400) (by decide) (show g 321 0 ≤ nI 400 from n3.2)
  have d4 := nt_le (n := 400) (by decide) (show g 331 0 ≤ nI 400 from n4.2)
  have hI1 : Ia (gu g 300 0 (g 300 0 + 1)) := Ia_min hI.1 (by lia) (by lia)
  have hH1 : HO1 (gu g 300 0 (g 300 0 + 1)) := Iv_HO1 hI (fun k k0 k1 ko => by have := hI.2.1 k k0 k1 ko; lia)
  have hS1 : SA (gu g 300 0 (g 300 0 + 1)) := Iv_SA hI (by lia) (fun s s0 s1 => ⟨fun z => by have := (hI.2.2 s s0 s1).1 z; lia, fun z => by have := ((hI.2.2 s s0 s1).2 z).2; lia⟩)
  unfold w_L_minute
  rw [lg_0 h.1.1]
  refine ⟨vd, vd, ?_⟩
  intro S18 e18
  have h18 : lS S0 S18 (gu g 300 0 (g 300 0 + 1)) := by
    rw [e18]
    obtain ⟨⟨⟨⟨l0, l1, l2, l3, l4, l5, l6, l7⟩, x1, x2, x3, x4, x5, x6, x7⟩, ha⟩, hc⟩ := h
    have dn : ∀ {j : Nat}, nt 0 ≠ j → ∀ {v : Int32}, (su S 112 (nt 0) v).1 112 j = S.1 112 j := fun hij => su_ne (Or.inr (Ne.symm hij))
    exact ⟨⟨⟨⟨su_at, (dn (by decide)).trans l1, (dn (by decide)).trans l2, (dn (by decide)).trans l3, (dn (by decide)).trans l4, (dn (by decide)).trans l5, (dn (by decide)).trans l6, (dn (by decide)).trans l7⟩, x1, x2, x3, x4, x5, x6, x7⟩, ha⟩, clf_l hc⟩
  clear e18
  refine ⟨nt (g 331 0) + 1, Lm1 hC (nt (g 331 0)) 0 (gu g 300 0 (g 300 0 + 1)) S18 (by omega) (by decide) (by show 0 + nI (nt (g 331 0)) = g 331 0; rw [nI_nt0 n4.1]; lia) n4.1 h18 hI1 hH1 hS1 (LB_min hB) (fun T1 t1 B1 => ?_)⟩
  obtain ⟨r1, r2, r3, r4, r5, r6⟩ := eH_ok (nt (g 331 0)) 0 (gu g 300 0 (g 300 0 + 1)) (by omega) hI1 hH1 hS1 (by decide) (by show 0 + nI (nt (g 331 0)) = g 331 0; rw [nI_nt0 n4.1]; lia) n4.1 (fun j j0 j1 => by lia)
  refine ⟨nt (g 321 0) + 1, Lm2 (nt (g 321 0)) 0 _ T1 (by omega) (by decide) (by rw [r5, nI_nt0 n3.1]; show 0 + g 321 0 = g 321 0; lia) (by rw [r5]; exact n3.1) t1 r1 r2 r3 B1 (fun T2 t2 B2 => ?_)⟩
  obtain ⟨q1, q2, q3, q4, q5, q6⟩ := eS_ok (nt (g 321 0)) 0 (eH (nt (g 331 0)) 0 (gu g 300 0 (g 300 0 + 1))) (by omega) r1 r2 r3 (by decide) (by rw [r5, nI_nt0 n3.1]; show 0 + g 321 0 = g 321 0; lia) (by rw [r5]; exact n3.1) (fun j j0 j1 => by lia)
  exact ⟨nt (g 321 0) + 1, Lm3 (nt (g 321 0)) 0 _ T2 (by omega) (by decide) (by rw [q5, r5, nI_nt0 n3.1]; show 0 + g 321 0 = g 321 0; lia) (by rw [q5, r5]; exact n3.1) t2 q1 q2 q3 B2 q⟩
end L5
