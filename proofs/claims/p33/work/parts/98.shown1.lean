/-! isShown: pass, breaks -/
section P1
variable {n C : Nat} {g : Gm} {S T : Sg} {s : Int32} {Q : Nat → Int32 → Sg → Prop}
/-- how a case of isShown goes on -/
def VK (n C : Nat) (g : Gm) (Q : Nat → Int32 → Sg → Prop) : Prop := ∀ g1 T, RA (n + 1) C g1 T → nt (g 336 0) ≤ nt (g1 336 0) → g1 300 0 ≤ g 300 0 + 500 → Q 0 1 T
theorem VK0 (h : RA (n + 1) C g T) (hI : 0 ≤ g 300 0 ∧ g 300 0 ≤ 100000) (q : VK n C g Q) : Q 0 1 T := q g T h (Nat.le_refl _) (by have := hI.1; have := hI.2; lia)
theorem eH_336 : ∀ (d : Nat) (k : Int32) (g : Gm), d ≤ 1000 → Ia g → 0 ≤ k → k + nI d = g 331 0 → k ≤ g 331 0 → nt (g 336 0) ≤ nt (eH d k g 336 0)
  | 0, k, g, _, _, _, _, _ => Nat.le_refl _
  | d + 1, k, g, hd, hI, k0, k1, k2 => by
    have n4 := n331 (ia_n hI)
    have n3 := n336 (ia_n hI)
    have e5 : (nI d).toInt = d := nI_toInt (by omega)
    have e6 : 0 ≤ nI d := by rw [z_le, e5]; exact Int.natCast_nonneg d
    have e7 : nI d ≤ 1000 := by rw [z_le, e5]; show (d : Int) ≤ 1000; omega
    rw [nI1] at k1
    show nt (g 336 0) ≤ nt (eH d (k + 1) (if g 135 (nt k) = 0 ∧ ¬ g 300 0 < g 134 (nt k) then (gEnds g k).2 else g) 336 0)
    by_cases c : g 135 (nt k) = 0 ∧ ¬ g 300 0 < g 134 (nt k)
    · rw [if_pos c]
      have hk : k < g 331 0 := by lia
      refine Nat.le_trans ?_ (eH_336 d (k + 1) (gEnds g k).2 (by omega) (Ia_ends hI k0 hk c.1) (by lia) (by rw [ends_o (by omega)]; lia) (by rw [ends_o (by omega)]; lia))
      exact fr_336 (g := gu (gu g 135 (nt k) 1) 127 (nt (48 * g 132 (nt k) + g 133 (nt k))) (-1)) (s := g 132 (nt k)) (p := g 133 (nt k)) n3.1 n3.2
    · rw [if_neg c]
      exact eH_336 d (k + 1) g (by omega) hI (by lia) (by lia) (by lia)
theorem eS_336 : ∀ (d : Nat) (k : Int32) (g : Gm), eS d k g 336 0 = g 336 0
  | 0, _, _ => rfl
  | d + 1, k, g => by
    show eS d (k + 1) (if g 125 (nt k) = 1 ∧ ¬ g 300 0 < en g k then gOver g k else g) 336 0 = _
    rw [eS_336 d (k + 1) _]
    split
    · exact over_o (by omega)
    · rfl
theorem sS_336 : ∀ (d : Nat) (k : Int32) (g : Gm), sS d k g 336 0 = g 336 0
  | 0, _, _ => rfl
  | d + 1, k, g => by
    show sS d (k + 1) (if g 125 (nt k) = 0 ∧ ¬ g 300 0 < g 124 (nt k) then gRun g k else g) 336 0 = _
    rw [sS_336 d (k + 1) _]
    split
    · exact run_o (by omega)
    · rfl
theorem gMin_336 (hI : Iv g) (hm : g 300 0 < 100000) : nt (g 336 0) ≤ nt (gMin g 336 0) := by
  obtain ⟨m0, m1, -⟩ := i_n hI
  have n4 := n331 (i_n hI)
  have d4 := nt_le (n := 400) (by decide) (show g 331 0 ≤ nI 400 from n4.2)
  have hI1 : Ia (gu g 300 0 (g 300 0 + 1)) := Ia_min hI.1 (by lia) (by lia)
  have := eH_336 (nt (g 331 0)) 0 (gu g 300 0 (g 300 0 + 1)) (by omega) hI1 (by decide) (by show 0 + nI (nt (g 331 0)) = g 331 0; rw [nI_nt0 n4.1]; lia) n4.1
  unfold gMin chg
  rw [sS_336, eS_336]
  exact this
theorem V_pass {m : Int32} (h : RA n C g S) (hn : n < 20000) (hC : C ≤ 511) (h9 : g 300 0 ≤ 90000) (hm : m = 0 ∨ m = 5001 ∨ 1 ≤ m ∧ m ≤ 500) (q : VK n C g Q) : w_L_isShown_622 Q m S := by
  have hI := h.2.1
  have hB := h.2.2.2.1
  obtain ⟨m0, m1, -⟩ := i_n hI
  have no : ¬ (1 ≤ m ∧ m ≤ 500) → w_L_isShown_641 Q m S := fun hno => by
    unfold w_L_isShown_641 w_L_isShown_642
    have f : w_L_isShown_683 Q m 0 S := by
      unfold w_L_isShown_683 w_L_isShown_709
      have er : rPass g m = (1, 0, g) := by
        unfold rPass
        rw [if_neg]
        rintro ⟨k1, k2⟩
        rcases hm with z | z | z
        · lia
        · lia
        · exact hno z
      exact dz_8 h.1 hI h.2.2.2.2 hn (RA_go (lS_rf h) (by rw [er]) hI hB (v := -2000000) (by rw [er, dva_1]) (fun S2 r2 => kz ⟨fun _ => ⟨fun _ => VK0 r2 ⟨m0, m1⟩ q, fun w => absurd rfl w⟩, fun w => absurd rfl w⟩))
    refine ⟨1, ?_⟩
    rw [w_L_isShown_647]
    exact ⟨fun _ => f, fun _ => ⟨fun _ => f, fun z => absurd rfl z⟩⟩
  unfold w_L_isShown_622
  refine ⟨fun z => no (fun o => by have := o.1; lia), fun z => ⟨fun y => no (fun o => by have := o.2; lia), fun y => ?_⟩⟩
  have hmm : 1 ≤ m ∧ m ≤ 500 := by
    rcases hm with z | z | z
    · exfalso; lia
    · exfalso; lia
    · exact z
  have em : nI (nt m) = m := nI_nt0 (by lia)
  have m5 := nt_le (x := m) (n := 500) (by decide) (show m ≤ 500 from hmm.2)
  have L : ∀ (d : Nat) (x : Int32) (g' : Gm) (T : Sg), d ≤ 500 → 0 ≤ x → x + nI d = m → lS S T g' → Iv g' → LB C g' → g' 300 0 + nI d = g 300 0 + m → nt (g 336 0) ≤ nt (g' 336 0) → passN d g' = passN (nt m) g → w_L_isShown_647 Q (d + 1) m 1 x T := by
    intro d
    induction d with
    | zero =>
      intro x g' T hd x0 x1 hS hI' hB' h3 h6 hp
      have ex : x = m := by rw [← x1]; show x = x + 0; lia
      have hp : g' = passN (nt m) g := hp
      have h3 : g' 300 0 = g 300 0 + m := by rw [← h3]; show _ = _ + 0; lia
      have f : w_L_isShown_683 Q m 1 T := by
        unfold w_L_isShown_683 w_L_isShown_709
        have er : rPass g m = (0, g' 300 0, g') := by
          unfold rPass
          rw [if_pos ⟨hmm.1, by lia⟩, if_pos (by lia), ← hp]
        refine dz_8 (RA_c h hS) hI (RA_b h hS) hn (RA_go hS (by rw [er]) hI' hB' (v := g' 300 0) (by rw [er, dva_0]) (fun S2 r2 => kz ⟨fun w => absurd w (by decide), fun _ => ⟨vd, ?_⟩⟩))
        rw [lg_0 r2.2.2.1.1]
        exact ⟨fun _ => q _ S2 r2 h6 (by rw [h3]; lia), fun w => absurd rfl w⟩
      rw [w_L_isShown_647]
      exact ⟨fun _ => f, fun z => absurd (by lia) z⟩
    | succ d ih =>
      intro x g' T hd x0 x1 hS hI' hB' h3 h6 hp
      have e5 : (nI d).toInt = d := nI_toInt (by omega)
      have e6 : 0 ≤ nI d := by rw [z_le, e5]; exact Int.natCast_nonneg d
      have e7 : nI d ≤ 500 := by rw [z_le, e5]; show (d : Int) ≤ 500; omega
      rw [nI1] at x1 h3
      obtain ⟨m0', m1', -⟩ := i_n hI'
      have hlt : g' 300 0 < 100000 := by lia
      obtain ⟨v1, v2⟩ := Iv_gMin hI' hlt
      rw [w_L_isShown_647]
      refine ⟨fun z => absurd z (by lia), fun _ => ⟨fun z => absurd z (by decide), fun _ => Lminute hS hI' hB' hC hlt (fun U hU hBU => kz ?_)⟩⟩
      exact ih (x + 1) (gMin g') U (by omega) (by lia) (by lia) hU v1 hBU (by rw [v2]; lia) (Nat.le_trans h6 (gMin_336 hI' hlt)) hp
  unfold w_L_isShown_642
  exact ⟨nt m + 1, L (nt m) 0 g S m5 (by decide) (by rw [em]; lia) (lS_rf h) hI hB (by rw [em]) (Nat.le_refl _) rfl⟩
/-! breaks -/
theorem LX_109 {g1 : Gm} (hT : ∀ c i, c ≠ 109 → T.1 c i = S.1 c i) (hg : ∀ c i, c ≠ 140 → g1 c i = g c i) (h9 : ∀ j : Int32, 0 ≤ j → j < g 336 0 → T.1 109 (nt j) = g1 140 (nt j)) (h : LX S g) : LX T g1 := by
  obtain ⟨⟨a0, a1, a2, a3, a4, a5, a6, a7⟩, ⟨b1, b2⟩, ⟨c1, c2⟩, d1, e1, f1, h1, i1⟩ := h
  have k : ∀ c i, c < 109 ∨ 109 < c → T.1 c i = S.1 c i := fun c i q => hT c i (by omega)
  have z : ∀ c i, c < 140 ∨ 140 < c → g1 c i = g c i := fun c i q => hg c i (by omega)
  refine ⟨⟨?_, ?_, ?_, ?_, ?_, ?_, ?_, ?_⟩, ⟨fun i x y => ?_, fun i x y => ?_⟩, ⟨fun i x y => ?_, fun i x y => ?_⟩, fun i x y => ?_, fun i x y => ?_, fun i x y => ?_, fun i x y => ?_, fun y n y0 y1 n0 n1 => ?_⟩
  · rw [k _ _ (by omega), z _ _ (by omega)]; exact a0
  · rw [k _ _ (by omega), z _ _ (by omega)]; exact a1
  · rw [k _ _ (by omega), z _ _ (by omega)]; exact a2
  · rw [k _ _ (by omega), z _ _ (by omega)]; exact a3
  · rw [k _ _ (by omega), z _ _ (by omega)]; exact a4
  · rw [k _ _ (by omega), z _ _ (by omega)]; exact a5
  · rw [k _ _ (by omega), z _ _ (by omega)]; exact a6
  · rw [k _ _ (by omega), z _ _ (by omega)]; exact a7
  · rw [z _ _ (by omega)] at y
    rw [k _ _ (by omega), k _ _ (by omega), z _ _ (by omega), z _ _ (by omega), z _ _ (by omega)]; exact b1 i x y
  · rw [k _ _ (by omega), z _ _ (by omega)]; exact b2 i x y
  · rw [z _ _ (by omega)] at y
    rw [k _ _ (by omega), k _ _ (by omega), k _ _ (by omega), k _ _ (by omega), k _ _ (by omega), z _ _ (by omega), z _ _ (by omega), z _ _ (by omega), z _ _ (by omega), z _ _ (by omega)]; exact c1 i x y
  · rw [k _ _ (by omega), k _ _ (by omega), k _ _ (by omega), z _ _ (by omega), z _ _ (by omega), z _ _ (by omega)]; exact c2 i x y
  · rw [z _ _ (by omega)] at y
    rw [k _ _ (by omega), k _ _ (by omega), k _ _ (by omega), z _ _ (by omega), z _ _ (by omega), z _ _ (by omega), z _ _ (by omega)]; exact d1 i x y
  · rw [z _ _ (by omega)] at y
    rw [k _ _ (by omega), k _ _ (by omega), z _ _ (by omega), z _ _ (by omega), z _ _ (by omega), z _ _ (by omega)]; exact e1 i x y
  · rw [z _ _ (by omega)] at y
    rw [k _ _ (by omega), z 137 _ (by omega), z 138 _ (by omega), z 139 _ (by omega), z 141 _ (by omega)]
    exact ⟨(f1 i x y).1, h9 i x y⟩
  · rw [z _ _ (by omega)] at y
    rw [k _ _ (by omega), k _ _ (by omega), z _ _ (by omega), z _ _ (by omega), z _ _ (by omega), z _ _ (by omega)]; exact h1 i x y
  · rw [k _ _ (by omega), z _ _ (by omega), z _ _ (by omega), z _ _ (by omega)]; exact i1 y n y0 y1 n0 n1
theorem LX_h6 {v : Int32} (h : LX S g) (h2 : g 302 0 ≤ 2) : LX (su S 103 (nt 6) v) g := by
  obtain ⟨x0, ⟨y1, y2⟩, x2, x3, x4, x5, x6, x7⟩ := h
  refine ⟨x0, ⟨fun j j0 j1 => ?_, fun j j0 j1 => ?_⟩, x2, x3, x4, x5, x6, x7⟩
  · rw [su_ne (Or.inr (fun z => by rw [nt_inj j0 (by decide)] at z; lia)), su_ne (Or.inr (fun z => by rw [nt_inj (by lia) (by decide)] at z; lia))]
    exact y1 j j0 j1
  · rw [su_ne (Or.inr (fun z => by rw [nt_inj (by lia) (by decide)] at z; lia))]
    exact y2 j j0 j1
theorem LX_w10 {v : Int32} (h : LX S g) (h5 : g 321 0 ≤ 5) : LX (su S 106 (nt 10) v) g := by
  obtain ⟨x0, x1, x2, x3, x4, x5, x6, x7⟩ := h
  refine ⟨x0, x1, x2, x3, fun j j0 j1 => ?_, x5, x6, x7⟩
  rw [su_ne (Or.inr (fun z => by rw [nt_inj j0 (by decide)] at z; lia)), su_ne (Or.inr (fun z => by rw [nt_inj (by lia) (by decide)] at z; lia))]
  exact x4 j j0 j1
theorem V_breaks {is can : Int32} (h : RA n C g S) (hn : n < 20000) (hC : C ≤ 511) (s0 : 0 ≤ s) (his : is = 1 ∧ s < g 321 0 ∨ is = 0 ∧ s = g 321 0) (hcan : can = 1 ∧ (s < g 321 0 ∧ g 125 (nt s) = 1) ∨ can = 0 ∧ ¬ (s < g 321 0 ∧ g 125 (nt s) = 1)) (q : VK n C g Q) : w_L_isShown_341 Q s is can S := by
  have hI := h.2.1
  have hB := h.2.2.2.1
  have b1 := lb_1 hB
  obtain ⟨c302, c307, c316, b4, c331⟩ := lb_1 hB
  obtain ⟨m0, m1, -⟩ := i_n hI
  have n3 := n336 (i_n hI)
  have hx := h.2.2.1.1
  rcases hcan with ⟨ec, s1, st⟩ | ⟨ec, hno⟩
  · have ei := (his.resolve_right (fun o => by have := o.2; lia)).1
    subst ec; subst ei
    obtain ⟨f0, f1, hh0, hh1, t0, t1, -⟩ := ia_s hI.1 s s0 s1
    obtain ⟨-, r2⟩ := (hI.2.2 s s0 s1)
    obtain ⟨r3, r4⟩ := r2 st
    have er : rBreaks g s = (0, sm (bkT g s) (nt (g 336 0)), gBreaks g s) := by
      unfold rBreaks
      rw [if_pos ⟨s0, s1⟩, if_pos st]
    have hI2 : Iv (gBreaks g s) := by have := Iv_breaks (s := s) hI; rw [er] at this; exact this
    have hB2 : LB C (gBreaks g s) := LB_same hB (fun c i hc => by
      unfold gBreaks
      rw [if_neg (by omega), if_neg (by omega), if_neg (by omega)])
    -- the end
    have fin : ∀ (T : Sg) (x9 : Int32), (∀ c i, c ≠ 109 → T.1 c i = S.1 c i) → T.2 = S.2 → (∀ j : Int32, 0 ≤ j → j < g 336 0 → T.1 109 (nt j) = gBk g s (nt (g 336 0)) 140 (nt j)) → x9 = sm (bkT g s) (nt (g 336 0)) → w_L_isShown_486 Q s 1 1 x9 (g 300 0 - g 124 (nt s)) T := fun T x9 hT hT2 hT9 e9 => by
      have hXT : LX T (gBk g s (nt (g 336 0))) := LX_109 hT (fun c i hc => by unfold gBk; rw [if_neg (fun z => hc z.1)]) hT9 hx
      have bo : ∀ c i, c ≠ 140 → gBk g s (nt (g 336 0)) c i = g c i := fun c i hc => by unfold gBk; rw [if_neg (fun z => hc z.1)]
      have eh : T.1 106 (nt s) = S.1 106 (nt s) := hT _ _ (by decide)
      unfold w_L_isShown_486 w_L_isShown_507 w_L_isShown_526 w_L_isShown_566
      rw [eh, w_h hx hI.1 b1 s0 s1]
      have e105 : T.1 103 (nt (2 + g 123 (nt s))) = g 105 (nt (g 123 (nt s))) := by rw [hT _ _ (by decide)]; exact (lx_h hx).2 _ hh0 (by lia)
      rw [e105]
      refine ⟨fun z => absurd z (by decide), fun _ => ⟨va s0 (by show _ < 11; lia), va (by lia) (by show _ < 7; lia), va (by lia) (by show _ < 7; lia), ?_⟩⟩
      intro S11 s11
      refine ⟨fun z => absurd z (by decide), fun _ => ⟨va s0 (by show _ < 11; lia), va s0 (by show _ < 11; lia), ?_⟩⟩
      have m11 : S11.1 106 (nt s) = g 122 (nt s) + 4 * (g 123 (nt s) + 4 * 1) := by rw [s11, su_ne (Or.inl (by decide)), eh, ((lx_w hx) s s0 s1).1, st]
      rw [m11]
      intro S7 s7
      have h11 : LX S11 (gu (gBk g s (nt (g 336 0))) 105 (nt (g 123 (nt s))) (g 105 (nt (g 123 (nt s))) + (g 300 0 - g 124 (nt s)))) := by
        rw [s11]
        exact LX_h5 hXT hh0 (by lia) (by rw [bo _ _ (by decide)]; exact c302)
      have h7 : LX S7 (gBreaks g s) := by
        rw [s7, ← bk_end]
        refine LX_w h11 s0 (by rw [gu_ne (Or.inl (by decide)), bo _ _ (by decide)]; exact s1) (by rw [gu_ne (Or.inl (by decide)), bo _ _ (by decide)]; exact b4) ?_
        rw [gu_ne (Or.inl (by decide)), gu_ne (Or.inl (by decide)), bo _ _ (by decide), bo _ _ (by decide)]
        lia
      have a7 : La S7 (gBreaks g s) := fun x k x0 x1 k0 k1 => by
        have e6 : gBreaks g s 126 (nt (48 * x + k)) = g 126 (nt (48 * x + k)) := by unfold gBreaks; rw [if_neg (by omega), if_neg (by omega), if_neg (by omega)]
        have e7 : gBreaks g s 127 (nt (48 * x + k)) = g 127 (nt (48 * x + k)) := by unfold gBreaks; rw [if_neg (by omega), if_neg (by omega), if_neg (by omega)]
        rw [e6, e7, s7, su_ne (Or.inl (by decide)), s11, su_ne (Or.inl (by decide)), hT _ _ (by decide)]
        exact h.2.2.1.2 x k x0 x1 k0 k1
      have cT : clf S T := ⟨fun c i hc => hT c i (fun e => hc (Or.inl (by unfold mc; omega))), hT2⟩
      have c7 : clf S S7 := by rw [s7, s11]; exact clf_l (clf_l cT)
      exact dz_7 (RA_c h ⟨⟨h7, a7⟩, c7⟩) hI (RA_b h ⟨⟨h7, a7⟩, c7⟩) hn (RA_go ⟨⟨h7, a7⟩, c7⟩ (by rw [er]) hI2 hB2 (v := sm (bkT g s) (nt (g 336 0))) (by rw [er, dva_0]) (fun S2 r2 => kz ⟨fun w => absurd w (by decide), fun _ => ⟨fun w => absurd w (by decide), fun _ => ⟨fun _ => q _ S2 r2 (by
        have : gBreaks g s 336 0 = g 336 0 := by unfold gBreaks; rw [if_neg (by omega), if_neg (by omega), if_neg (by omega)]
        rw [this]; exact Nat.le_refl _) (by
        have : gBreaks g s 300 0 = g 300 0 := by unfold gBreaks; rw [if_neg (by omega), if_neg (by omega), if_neg (by omega)]
        rw [this]; lia), fun w => absurd e9.symm w⟩⟩⟩))
    have L : ∀ (d : Nat) (x : Int32) (T : Sg), 0 ≤ x → x + nI d = g 336 0 → x ≤ g 336 0 → (∀ c i, c ≠ 109 → T.1 c i = S.1 c i) → T.2 = S.2 → (∀ j : Int32, 0 ≤ j → j < g 336 0 → T.1 109 (nt j) = gBk g s (nt x) 140 (nt j)) → w_L_isShown_371 Q (d + 1) s 1 1 (sm (bkT g s) (nt x)) (g 300 0 - g 124 (nt s)) x T := by
      intro d
      induction d with
      | zero =>
        intro x T x0 x1 x2 hT hT2 hT9
        have ex : x = g 336 0 := by rw [← x1]; show x = x + 0; lia
        rw [w_L_isShown_371, hT _ _ (by decide), lg_7 hx]
        exact ⟨vd, fun _ => fin T _ hT hT2 (by rw [ex] at hT9; exact hT9) (by rw [ex]), fun z => absurd (by lia) z⟩
      | succ d ih =>
        intro x T x0 x1 x2 hT hT2 hT9
        rw [nI1] at x1
        rw [w_L_isShown_371, hT 112 _ (by decide), lg_7 hx]
        by_cases hlt : x < g 336 0
        · have n63 : x < 400 := by lia
          obtain ⟨d1, d2, d3, d4, d5, d6, d7, d8⟩ := t_all hx hI.1 hB x0 hlt
          have c63 := n336_le hB hC n3.1
          have o141 := (ia_t hI.1 x x0 hlt).2.2.2.2.1
          have vt : vp_in x 64 := va x0 (by show _ < 64; lia)
          have t108 : T.1 108 (nt x) = S.1 108 (nt x) := hT _ _ (by decide)
          have t109 : T.1 109 (nt x) = g 140 (nt x) := by rw [hT9 x x0 hlt]; exact bk_140
          have nx : ∀ v : Int32, v = bkT g s x → w_L_isShown_461 (fun x13 x14 x16 x17 x18 x19 S => w_L_isShown_371 Q (d + 1) x13 x14 x16 x17 x18 x19 S) Q s 1 1 (sm (bkT g s) (nt x)) (g 300 0 - g 124 (nt s)) x v T := fun v hv => by
            unfold w_L_isShown_461
            rw [t109]
            refine ⟨vt, vt, ?_⟩
            intro S12 s12
            rintro v13 rfl
            have e1 : sm (bkT g s) (nt x) + v = sm (bkT g s) (nt (x + 1)) := by rw [hv, ← sm_succ x0 (by lia)]
            rw [e1]
            refine ih (x + 1) S12 (by lia) (by lia) (by lia) (fun c i hc => by rw [s12, su_ne (Or.inl hc)]; exact hT c i hc) (by rw [s12]; exact hT2) (fun j j0 j1 => ?_)
            rw [ntS x0 (by lia), ← bk_step x0 (v := g 140 (nt x) - v) (by rw [hv]), s12]
            by_cases z : nt j = nt x
            · rw [z, su_at, gu_at]
            · rw [su_ne (Or.inr z), gu_ne (Or.inr z)]; exact hT9 j j0 j1
          have no : ¬ (g 137 (nt x) = s ∧ g 141 (nt x) = 0) → w_L_isShown_414 (fun x13 x14 x16 x17 x18 x19 S => w_L_isShown_371 Q (d + 1) x13 x14 x16 x17 x18 x19 S) Q s 1 1 (sm (bkT g s) (nt x)) (g 300 0 - g 124 (nt s)) x T := fun hno => by
            unfold w_L_isShown_414 w_L_isShown_415
            exact ⟨fun _ => nx 0 (by unfold bkT; rw [if_neg hno]), fun z => absurd rfl z⟩
          rw [t108, d1, d5]
          refine ⟨vd, fun z => absurd z (by lia), fun _ => ⟨fun z => absurd z (by decide), fun _ => ⟨vt, fun z => ⟨vt, fun y => no (fun o => by rw [y] at o; exact absurd o.2 (by decide)), fun y => ?_⟩, fun z => no (fun o => z o.1)⟩⟩⟩
          have ho : g 141 (nt x) = 0 := o141.resolve_right y
          unfold w_L_isShown_415
          have t106 : T.1 106 (nt s) = S.1 106 (nt s) := hT _ _ (by decide)
          rw [t106, w_f hx hI.1 b1 s0 s1, hT 104 _ (by decide), f_len hx f0 f1, t109]
          refine ⟨fun w => absurd w (by decide), fun _ => ⟨va s0 (by show _ < 11; lia), va (by lia) (by show _ < 24; lia), fun w => ⟨vt, nx _ ?_⟩, fun w => ⟨vt, nx _ ?_⟩⟩⟩
          · unfold bkT
            rw [if_pos ⟨z, ho⟩, if_pos (by lia)]
          · unfold bkT
            rw [if_pos ⟨z, ho⟩, if_neg (by lia)]
        · exact ⟨vd, fun _ => fin T _ hT hT2 (by rw [show x = g 336 0 by lia] at hT9; exact hT9) (by rw [show x = g 336 0 by lia]), fun z => absurd (by lia) z⟩
    unfold w_L_isShown_341 w_L_isShown_366
    rw [lg_0 hx, w_t hx s0 s1]
    refine ⟨fun z => absurd z (by decide), fun _ => ⟨vd, va (by lia) (by show _ < 11; lia), nt (g 336 0) + 1, ?_⟩⟩
    have := L (nt (g 336 0)) 0 S (by decide) (by rw [nI_nt0 n3.1]; lia) n3.1 (fun _ _ _ => rfl) rfl (fun j j0 j1 => by rw [show nt 0 = 0 by decide, bk_0]; exact ((lx_t hx) j j0 j1).2)
    rw [show sm (bkT g s) (nt 0) = 0 from by rw [show nt 0 = 0 by decide]; rfl] at this
    exact this
  · subst ec
    unfold w_L_isShown_341 w_L_isShown_366
    refine ⟨fun _ => ⟨1, ?_⟩, fun z => absurd rfl z⟩
    have f : w_L_isShown_486 Q s is 0 0 0 S := by
      unfold w_L_isShown_486 w_L_isShown_507 w_L_isShown_526 w_L_isShown_566
      refine ⟨fun _ => ⟨vd, vd, ?_⟩, fun z => absurd rfl z⟩
      intro S11 s11
      refine ⟨fun _ => ⟨vd, vd, ?_⟩, fun z => absurd rfl z⟩
      intro S7 s7
      have h7 : LX S7 g := by rw [s7, s11]; exact LX_w10 (LX_h6 hx c302) b4
      have a7 : La S7 g := fun x k x0 x1 k0 k1 => by
        rw [s7, su_ne (Or.inl (by decide)), s11, su_ne (Or.inl (by decide))]
        exact h.2.2.1.2 x k x0 x1 k0 k1
      have c7 : clf S S7 := by rw [s7, s11]; exact clf_l (clf_l clf_rf)
      rcases his with ⟨e, e2⟩ | ⟨e, e2⟩
      · have er : rBreaks g s = (2, 0, g) := by
          unfold rBreaks
          rw [if_pos ⟨s0, e2⟩, if_neg (fun w => hno ⟨e2, w⟩)]
        subst e
        exact dz_7 (RA_c h ⟨⟨h7, a7⟩, c7⟩) hI (RA_b h ⟨⟨h7, a7⟩, c7⟩) hn (RA_go ⟨⟨h7, a7⟩, c7⟩ (by rw [er]) hI hB (v := -1000000) (by rw [er, dva_2]) (fun S2 r2 => kz ⟨fun w => absurd w (by decide), fun _ => ⟨fun _ => ⟨fun _ => VK0 r2 ⟨m0, m1⟩ q, fun w => absurd rfl w⟩, fun w => absurd rfl w⟩⟩))
      · have er : rBreaks g s = (3, 0, g) := by
          unfold rBreaks
          rw [if_neg (fun w => by have := w.2; lia)]
        subst e
        exact dz_7 (RA_c h ⟨⟨h7, a7⟩, c7⟩) hI (RA_b h ⟨⟨h7, a7⟩, c7⟩) hn (RA_go ⟨⟨h7, a7⟩, c7⟩ (by rw [er]) hI hB (v := -3000000) (by rw [er, dva_3]) (fun S2 r2 => kz ⟨fun _ => ⟨fun _ => VK0 r2 ⟨m0, m1⟩ q, fun w => absurd rfl w⟩, fun w => absurd rfl w⟩))
    rw [w_L_isShown_371]
    exact ⟨vd, fun _ => f, fun _ => ⟨fun _ => f, fun z => absurd rfl z⟩⟩
end P1
