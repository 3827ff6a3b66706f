/-! minutes: the loops over the shows; a minute; quiet minutes -/
theorem eS_ok : ∀ (d : Nat) (k : Int32) (g : Gm), d ≤ 1000 → Ia g → HO g → SA g → 0 ≤ k → k + nI d = g 321 0 → k ≤ g 321 0 → (∀ j : Int32, 0 ≤ j → j < k → g 125 (nt j) = 1 → g 300 0 < en g j) → Ia (eS d k g) ∧ HO (eS d k g) ∧ SB (eS d k g) ∧ eS d k g 300 0 = g 300 0 ∧ eS d k g 321 0 = g 321 0 ∧ eS d k g 331 0 = g 331 0
  | 0, k, g, _, hI, hH, hs, k0, k1, k2, hj => by
    have e : k = g 321 0 := by rw [← k1]; show k = k + 0; lia
    exact ⟨hI, hH, fun s s0 s1 => ⟨(hs s s0 s1).1, fun z => ⟨((hs s s0 s1).2 z).1, hj s s0 (by rw [e]; exact s1) z⟩⟩, rfl, rfl, rfl⟩
  | d + 1, k, g, hd, hI, hH, hs, k0, k1, k2, hj => by
    have n4 := n321 (ia_n hI)
    rw [nI1] at k1
    show Ia (eS d (k + 1) _) ∧ HO (eS d (k + 1) _) ∧ SB (eS d (k + 1) _) ∧ eS d (k + 1) _ 300 0 = _ ∧ eS d (k + 1) _ 321 0 = _ ∧ eS d (k + 1) _ 331 0 = _
    by_cases hk : k < g 321 0
    · by_cases c : g 125 (nt k) = 1 ∧ ¬ g 300 0 < en g k
      · rw [if_pos c]
        have eo : ∀ s, en (gOver g k) s = en g s := fun s => by unfold en; rw [over_o (by omega), over_o (by omega), over_o (by omega)]
        have r := eS_ok d (k + 1) (gOver g k) (by omega) (Ia_over hI k0 hk c.1) (fun j j0 j1 jo => by
            rw [over_o (by omega)] at j1 jo
            rw [over_o (by omega), over_o (by omega)]
            exact hH j j0 j1 jo) (fun s s0 s1 => by
            rw [over_o (by omega)] at s1
            rw [over_125, over_o (by omega), over_o (by omega), eo]
            split
            · exact ⟨fun z => absurd z (by decide), fun z => absurd z (by decide)⟩
            · exact hs s s0 s1) (by lia) (by rw [over_o (by omega)]; lia) (by rw [over_o (by omega)]; lia) (fun j j0 j1 jo => by
            rw [over_125] at jo
            rw [over_o (by omega), eo]
            split at jo
            · exact absurd jo (by decide)
            · rename_i ne
              rcases i32_lt1 j1 k0 (by lia) with z | z
              · exact hj j j0 z jo
              · exact absurd (by rw [z]) ne)
        rw [over_o (by omega), over_o (by omega), over_o (by omega)] at r
        exact r
      · rw [if_neg c]
        exact eS_ok d (k + 1) g (by omega) hI hH hs (by lia) (by lia) (by lia) (fun j j0 j1 jo => by
          rcases i32_lt1 j1 k0 (by lia) with z | z
          · exact hj j j0 z jo
          · rw [z] at jo ⊢
            exact Decidable.not_not.mp (fun y => c ⟨jo, y⟩))
    · exfalso
      have e5 : (nI d).toInt = d := nI_toInt (by omega)
      have e6 : 0 ≤ nI d := by rw [z_le, e5]; exact Int.natCast_nonneg d
      have e7 : nI d ≤ 1000 := by rw [z_le, e5]; show (d : Int) ≤ 1000; omega
      lia
theorem sS_ok : ∀ (d : Nat) (k : Int32) (g : Gm), d ≤ 1000 → Ia g → HO g → SB g → 0 ≤ k → k + nI d = g 321 0 → k ≤ g 321 0 → (∀ j : Int32, 0 ≤ j → j < k → g 125 (nt j) = 0 → g 300 0 < g 124 (nt j)) → Iv (sS d k g) ∧ sS d k g 300 0 = g 300 0
  | 0, k, g, _, hI, hH, hs, k0, k1, k2, hj => by
    have e : k = g 321 0 := by rw [← k1]; show k = k + 0; lia
    exact ⟨⟨hI, hH, fun s s0 s1 => ⟨fun z => hj s s0 (by rw [e]; exact s1) z, (hs s s0 s1).2⟩⟩, rfl⟩
  | d + 1, k, g, hd, hI, hH, hs, k0, k1, k2, hj => by
    have n4 := n321 (ia_n hI)
    rw [nI1] at k1
    show Iv (sS d (k + 1) _) ∧ sS d (k + 1) _ 300 0 = _
    by_cases hk : k < g 321 0
    · by_cases c : g 125 (nt k) = 0 ∧ ¬ g 300 0 < g 124 (nt k)
      · rw [if_pos c]
        have eo : ∀ s, en (gRun g k) s = en g s := fun s => by unfold en; rw [run_o (by omega), run_o (by omega), run_o (by omega)]
        have r := sS_ok d (k + 1) (gRun g k) (by omega) (Ia_run hI hH k0 hk c.1 c.2) (fun j j0 j1 jo => by
            rw [run_o (by omega)] at j1 jo
            rw [run_o (by omega), run_o (by omega)]
            exact hH j j0 j1 jo) (fun s s0 s1 => by
            rw [run_o (by omega)] at s1
            rw [run_125, run_o (by omega), run_o (by omega), eo]
            split
            · rename_i z9
              have := (nt_inj s0 k0).mp z9
              subst this
              obtain ⟨r1, r2, r3, r4⟩ := en_rng hI k0 hk
              have h1 := (hs s s0 s1).1 c.1
              exact ⟨fun z => absurd z (by decide), fun _ => ⟨by have := c.2; lia, by lia⟩⟩
            · exact hs s s0 s1) (by lia) (by rw [run_o (by omega)]; lia) (by rw [run_o (by omega)]; lia) (fun j j0 j1 jo => by
            rw [run_125] at jo
            rw [run_o (by omega), run_o (by omega)]
            split at jo
            · exact absurd jo (by decide)
            · rename_i ne
              rcases i32_lt1 j1 k0 (by lia) with z | z
              · exact hj j j0 z jo
              · exact absurd (by rw [z]) ne)
        rw [run_o (by omega)] at r
        exact r
      · rw [if_neg c]
        exact sS_ok d (k + 1) g (by omega) hI hH hs (by lia) (by lia) (by lia) (fun j j0 j1 jo => by
          rcases i32_lt1 j1 k0 (by lia) with z | z
          · exact hj j j0 z jo
          · rw [z] at jo ⊢
            exact Decidable.not_not.mp (fun y => c ⟨jo, y⟩))
    · exfalso
      have e5 : (nI d).toInt = d := nI_toInt (by omega)
      have e6 : 0 ≤ nI d := by rw [z_le, e5]; exact Int.natCast_nonneg d
      have e7 : nI d ≤ 1000 := by rw [z_le, e5]; show (d : Int) ≤ 1000; omega
      lia
section P2
variable {g : Gm}
/-- g at another minute: nothing of the rest of the invariant looks at it -/
theorem Ia_min {y : Int32} (hI : Ia g) (y0 : 0 ≤ y) (y1 : y ≤ 100000) : Ia (gu g 300 0 y) := by
  obtain ⟨a1, a2, a3, a4, a5, a6, a7, a8, a9, a10, a11, a12, a13, a14⟩ := id hI
  obtain ⟨b1, b2, b3, b4, b5, b6, b7, b8, b9, b10, b11, b12, b13, b14, b15, b16⟩ := id a1
  exact ⟨⟨by rw [gu_at]; exact y0, by rw [gu_at]; exact y1, b3, b4, b5, b6, b7, b8, b9, b10, b11, b12, b13, b14, b15, b16⟩, a2, a3, a4, a5, a6, a7, a8, a9, a10, a11, a12, a13, a14⟩
theorem chg_ok (hI : Ia g) (h1 : HO1 g) (hs : SA g) : Iv (chg g) ∧ chg g 300 0 = g 300 0 := by
  have n3 := n321 (ia_n hI)
  have n4 := n331 (ia_n hI)
  have d3 := nt_le (n := 400) (by decide) (show g 321 0 ≤ nI 400 from n3.2)
  have d4 := nt_le (n := 400) (by decide) (show g 331 0 ≤ nI 400 from n4.2)
  obtain ⟨r1, r2, r3, r4, r5, r6⟩ := eH_ok (nt (g 331 0)) 0 g (by omega) hI h1 hs (by decide) (by rw [nI_nt0 n4.1]; lia) n4.1 (fun j j0 j1 => by lia)
  obtain ⟨q1, q2, q3, q4, q5, q6⟩ := eS_ok (nt (g 321 0)) 0 (eH (nt (g 331 0)) 0 g) (by omega) r1 r2 r3 (by decide) (by rw [nI_nt0 n3.1, r5]; lia) (by rw [r5]; exact n3.1) (fun j j0 j1 => by lia)
  obtain ⟨p1, p2⟩ := sS_ok (nt (g 321 0)) 0 (eS (nt (g 321 0)) 0 (eH (nt (g 331 0)) 0 g)) (by omega) q1 q2 q3 (by decide) (by rw [nI_nt0 n3.1, q5, r5]; lia) (by rw [q5, r5]; exact n3.1) (fun j j0 j1 => by lia)
  exact ⟨p1, p2.trans (q4.trans r4)⟩
theorem Iv_HO1 {y : Int32} (hI : Iv g) (hy : ∀ k : Int32, 0 ≤ k → k < g 331 0 → g 135 (nt k) = 0 → y ≤ g 134 (nt k)) : HO1 (gu g 300 0 y) := fun k k0 k1 ko => by
  rw [gu_at]
  exact hy k k0 k1 ko
theorem Iv_SA {y : Int32} (hI : Iv g) (hy : g 300 0 ≤ y) (hs : ∀ s : Int32, 0 ≤ s → s < g 321 0 → (g 125 (nt s) = 0 → y ≤ g 124 (nt s)) ∧ (g 125 (nt s) = 1 → y ≤ en g s)) : SA (gu g 300 0 y) := fun s s0 s1 => by
  rw [gu_at]
  refine ⟨fun z => (hs s s0 s1).1 z, fun z => ⟨?_, (hs s s0 s1).2 z⟩⟩
  have := ((hI.2.2 s s0 s1).2 z).1
  show g 124 (nt s) ≤ y
  lia
/-- a minute -/
theorem Iv_gMin (hI : Iv g) (hm : g 300 0 < 100000) : Iv (gMin g) ∧ gMin g 300 0 = g 300 0 + 1 := by
  obtain ⟨m0, m1, -⟩ := i_n hI
  have r := chg_ok (g := gu g 300 0 (g 300 0 + 1)) (Ia_min hI.1 (by lia) (by lia)) (Iv_HO1 hI (fun k k0 k1 ko => by have := hI.2.1 k k0 k1 ko; lia)) (Iv_SA hI (by lia) (fun s s0 s1 => ⟨fun z => by have := (hI.2.2 s s0 s1).1 z; lia, fun z => by have := ((hI.2.2 s s0 s1).2 z).2; lia⟩))
  rw [gu_at] at r
  exact r
theorem Iv_passN : ∀ (n : Nat) (g : Gm), n ≤ 100000 → Iv g → g 300 0 + nI n ≤ 100000 → Iv (passN n g) ∧ passN n g 300 0 = g 300 0 + nI n
  | 0, g, _, hI, _ => ⟨hI, by show g 300 0 = g 300 0 + 0; lia⟩
  | n + 1, g, hn, hI, h => by
    obtain ⟨m0, m1, -⟩ := i_n hI
    have e5 : (nI n).toInt = n := nI_toInt (by omega)
    have e6 : 0 ≤ nI n := by rw [z_le, e5]; exact Int.natCast_nonneg n
    have e7 : nI n ≤ 100000 := by rw [z_le, e5]; show (n : Int) ≤ 100000; omega
    rw [nI1] at h ⊢
    obtain ⟨r1, r2⟩ := Iv_gMin hI (by lia)
    obtain ⟨q1, q2⟩ := Iv_passN n (gMin g) (by omega) r1 (by rw [r2]; lia)
    exact ⟨q1, by show passN n (gMin g) 300 0 = _; rw [q2, r2]; lia⟩
theorem passN_add : ∀ (a b : Nat) (g : Gm), passN (a + b) g = passN b (passN a g)
  | 0, b, g => by rw [Nat.zero_add]; rfl
  | a + 1, b, g => by
    rw [show a + 1 + b = (a + b) + 1 by omega]
    exact passN_add a b (gMin g)
/-! quiet minutes -/
theorem eH_same : ∀ (d : Nat) (k : Int32), d ≤ 1000 → 0 ≤ k → k ≤ 1000 → k + nI d ≤ 1000 → (∀ j : Int32, 0 ≤ j → j < k + nI d → ¬ (g 135 (nt j) = 0 ∧ ¬ g 300 0 < g 134 (nt j))) → eH d k g = g
  | 0, _, _, _, _, _, _ => rfl
  | d + 1, k, hd, k0, k9, k8, h => by
    have e5 : (nI d).toInt = d := nI_toInt (by omega)
    have e6 : 0 ≤ nI d := by rw [z_le, e5]; exact Int.natCast_nonneg d
    have e7 : nI d ≤ 1000 := by rw [z_le, e5]; show (d : Int) ≤ 1000; omega
    rw [nI1] at h k8
    show eH d (k + 1) _ = g
    rw [if_neg (h k k0 (by lia))]
    exact eH_same d (k + 1) (by omega) (by lia) (by lia) (by lia) (fun j j0 j1 => h j j0 (by lia))
theorem eS_same : ∀ (d : Nat) (k : Int32), d ≤ 1000 → 0 ≤ k → k ≤ 1000 → k + nI d ≤ 1000 → (∀ j : Int32, 0 ≤ j → j < k + nI d → ¬ (g 125 (nt j) = 1 ∧ ¬ g 300 0 < en g j)) → eS d k g = g
  | 0, _, _, _, _, _, _ => rfl
  | d + 1, k, hd, k0, k9, k8, h => by
    have e5 : (nI d).toInt = d := nI_toInt (by omega)
    have e6 : 0 ≤ nI d := by rw [z_le, e5]; exact Int.natCast_nonneg d
    have e7 : nI d ≤ 1000 := by rw [z_le, e5]; show (d : Int) ≤ 1000; omega
    rw [nI1] at h k8
    show eS d (k + 1) _ = g
    rw [if_neg (h k k0 (by lia))]
    exact eS_same d (k + 1) (by omega) (by lia) (by lia) (by lia) (fun j j0 j1 => h j j0 (by lia))
theorem sS_same : ∀ (d : Nat) (k : Int32), d ≤ 1000 → 0 ≤ k → k ≤ 1000 → k + nI d ≤ 1000 → (∀ j : Int32, 0 ≤ j → j < k + nI d → ¬ (g 125 (nt j) = 0 ∧ ¬ g 300 0 < g 124 (nt j))) → sS d k g = g
  | 0, _, _, _, _, _, _ => rfl
  | d + 1, k, hd, k0, k9, k8, h => by
    have e5 : (nI d).toInt = d := nI_toInt (by omega)
    have e6 : 0 ≤ nI d := by rw [z_le, e5]; exact Int.natCast_nonneg d
    have e7 : nI d ≤ 1000 := by rw [z_le, e5]; show (d : Int) ≤ 1000; omega
    rw [nI1] at h k8
    show sS d (k + 1) _ = g
    rw [if_neg (h k k0 (by lia))]
    exact sS_same d (k + 1) (by omega) (by lia) (by lia) (by lia) (fun j j0 j1 => h j j0 (by lia))
/-- nothing ends or starts before minute y -/
def Qt (g : Gm) (y : Int32) : Prop := (∀ k : Int32, 0 ≤ k → k < g 331 0 → g 135 (nt k) = 0 → y ≤ g 134 (nt k)) ∧ (∀ s : Int32, 0 ≤ s → s < g 321 0 → (g 125 (nt s) = 0 → y ≤ g 124 (nt s)) ∧ (g 125 (nt s) = 1 → y ≤ en g s))
theorem chg_same {x y : Int32} (hI : Ia g) (hq : Qt g y) (hx : x < y) : chg (gu g 300 0 x) = gu g 300 0 x := by
  have n3 := n321 (ia_n hI)
  have n4 := n331 (ia_n hI)
  have d3 := nt_le (n := 400) (by decide) (show g 321 0 ≤ nI 400 from n3.2)
  have d4 := nt_le (n := 400) (by decide) (show g 331 0 ≤ nI 400 from n4.2)
  have l3 : g 321 0 ≤ 400 := n3.2
  have l4 : g 331 0 ≤ 400 := n4.2
  show sS (nt (g 321 0)) 0 (eS (nt (g 321 0)) 0 (eH (nt (g 331 0)) 0 (gu g 300 0 x))) = gu g 300 0 x
  rw [eH_same (g := gu g 300 0 x) (nt (g 331 0)) 0 (by omega) (by decide) (by decide) (by rw [nI_nt0 n4.1]; lia) (fun j j0 j1 z => by
    rw [nI_nt0 n4.1] at j1
    have z1 : g 135 (nt j) = 0 := z.1
    have z2 : ¬ x < g 134 (nt j) := z.2
    have := hq.1 j j0 (by lia) z1
    lia)]
  rw [eS_same (g := gu g 300 0 x) (nt (g 321 0)) 0 (by omega) (by decide) (by decide) (by rw [nI_nt0 n3.1]; lia) (fun j j0 j1 z => by
    rw [nI_nt0 n3.1] at j1
    have z1 : g 125 (nt j) = 1 := z.1
    have z2 : ¬ x < en g j := z.2
    have := (hq.2 j j0 (by lia)).2 z1
    lia)]
  exact sS_same (g := gu g 300 0 x) (nt (g 321 0)) 0 (by omega) (by decide) (by decide) (by rw [nI_nt0 n3.1]; lia) (fun j j0 j1 z => by
    rw [nI_nt0 n3.1] at j1
    have z1 : g 125 (nt j) = 0 := z.1
    have z2 : ¬ x < g 124 (nt j) := z.2
    have := (hq.2 j j0 (by lia)).1 z1
    lia)
theorem gu_gu {c i : Nat} {v v' : Int32} : gu (gu g c i v) c i v' = gu g c i v' := by
  funext a b
  show (if a = c ∧ b = i then v' else if a = c ∧ b = i then v else g a b) = if a = c ∧ b = i then v' else g a b
  split <;> rfl
theorem Qt_gu {x y : Int32} (hq : Qt g y) : Qt (gu g 300 0 x) y := hq
/-- quiet minutes, and the minute in which something ends or starts -/
theorem passN_quiet {y : Int32} : ∀ (n : Nat) (g : Gm), n ≤ 100000 → Ia g → Qt g y → 0 ≤ g 300 0 → g 300 0 + nI (n + 1) = y → y ≤ 100000 → passN (n + 1) g = chg (gu g 300 0 y)
  | 0, g, _, _, _, _, e, _ => by
    show gMin g = _
    rw [← e]; rfl
  | n + 1, g, hn, hI, hq, h0, e, hy => by
    have e5 : (nI n).toInt = n := nI_toInt (by omega)
    have e6 : 0 ≤ nI n := by rw [z_le, e5]; exact Int.natCast_nonneg n
    have e7 : nI n ≤ 100000 := by rw [z_le, e5]; show (n : Int) ≤ 100000; omega
    rw [nI1, nI1] at e
    have m1 : g 300 0 ≤ 100000 := (ia_n hI).2.1
    show passN (n + 1) (gMin g) = _
    rw [show gMin g = gu g 300 0 (g 300 0 + 1) from chg_same hI hq (by lia)]
    rw [passN_quiet n (gu g 300 0 (g 300 0 + 1)) (by omega) (Ia_min hI (by lia) (by lia)) hq (by rw [gu_at]; lia) (by rw [gu_at, nI1]; lia) hy, gu_gu]
end P2
