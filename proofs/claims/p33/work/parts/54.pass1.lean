/-! minutes: what a minute makes of g keeps the invariant; quiet minutes -/
section P1
variable {g : Gm}
theorem Ia_frees {s p : Int32} (hI : Ia g) (h0 : 0 ≤ s) (h1 : s < g 321 0) (p0 : 0 ≤ p) (p1 : p < wd g s) (hf : fre g s p) : Ia (gFrees g s p).2 := by
  have n3 := n336 (ia_n hI)
  by_cases e : g 128 (nt s) = 0 ∨ g 336 0 = 400
  · rw [show gFrees g s p = (-1, g) from if_pos e]
    exact hI
  · rw [show gFrees g s p = (g 336 0, gSells (gShift g s) s p (g 129 (nt (40 * s)))) from if_neg e]
    have e1 : ¬ g 128 (nt s) = 0 := fun z => e (Or.inl z)
    have e2 : ¬ g 336 0 = 400 := fun z => e (Or.inr z)
    exact Ia_sells (Ia_shift hI h0 h1 e1) h0 (by rw [shift_o (by omega)]; exact h1) p0 (by rw [wd_shift]; exact p1) ⟨by rw [shift_o (by omega)]; exact hf.1, by rw [shift_o (by omega)]; exact hf.2⟩ (by rw [shift_o (by omega)]; lia)
theorem Ia_ends {k : Int32} (hI : Ia g) (k0 : 0 ≤ k) (k1 : k < g 331 0) (ho : g 135 (nt k) = 0) : Ia (gEnds g k).2 := by
  obtain ⟨s0, s1, p0, p1, e6, e7, -⟩ := hold_pl hI k0 k1 ho
  exact Ia_frees (Ia_end hI k0 k1 ho) s0 s1 p0 p1 ⟨e6, gu_at⟩
/-- what a place that becomes free leaves as it is -/
theorem frees_o {s p : Int32} {c i : Nat} (h : c < 126 ∨ (130 < c ∧ c < 137) ∨ c = 141 ∨ (300 ≤ c ∧ c ≠ 336)) : (gFrees g s p).2 c i = g c i := by
  by_cases e : g 128 (nt s) = 0 ∨ g 336 0 = 400
  · rw [show gFrees g s p = (-1, g) from if_pos e]
  · rw [show gFrees g s p = (g 336 0, gSells (gShift g s) s p (g 129 (nt (40 * s)))) from if_neg e]
    show gSells (gShift g s) s p (g 129 (nt (40 * s))) c i = g c i
    unfold gSells
    rw [gu_ne (Or.inl (by omega)), gu_ne (Or.inl (by omega)), gu_ne (Or.inl (by omega)), gu_ne (Or.inl (by omega)), gu_ne (Or.inl (by omega)), gu_ne (Or.inl (by omega)), shift_o (by omega)]
theorem ends_o {k : Int32} {c i : Nat} (h : c < 126 ∨ (130 < c ∧ c < 135) ∨ c = 136 ∨ c = 141 ∨ (300 ≤ c ∧ c ≠ 336)) : (gEnds g k).2 c i = g c i := by
  unfold gEnds
  rw [frees_o (by omega), gu_ne (Or.inl (by omega)), gu_ne (Or.inl (by omega))]
theorem ends_135 {k : Int32} {i : Nat} : (gEnds g k).2 135 i = if i = nt k then 1 else g 135 i := by
  unfold gEnds
  rw [frees_o (by omega), gu_ne (Or.inl (by omega))]
  by_cases e : i = nt k
  · rw [if_pos e, e, gu_at]
  · rw [if_neg e, gu_ne (Or.inr e)]
/-- the holds that are open end later than now, or now at the earliest -/
def HO (g : Gm) : Prop := ∀ k : Int32, 0 ≤ k → k < g 331 0 → g 135 (nt k) = 0 → g 300 0 < g 134 (nt k)
def HO1 (g : Gm) : Prop := ∀ k : Int32, 0 ≤ k → k < g 331 0 → g 135 (nt k) = 0 → g 300 0 ≤ g 134 (nt k)
def SA (g : Gm) : Prop := ∀ s : Int32, 0 ≤ s → s < g 321 0 → (g 125 (nt s) = 0 → g 300 0 ≤ g 124 (nt s)) ∧ (g 125 (nt s) = 1 → g 124 (nt s) ≤ g 300 0 ∧ g 300 0 ≤ en g s)
def SB (g : Gm) : Prop := ∀ s : Int32, 0 ≤ s → s < g 321 0 → (g 125 (nt s) = 0 → g 300 0 ≤ g 124 (nt s)) ∧ (g 125 (nt s) = 1 → g 124 (nt s) ≤ g 300 0 ∧ g 300 0 < en g s)
theorem en_ends {k s : Int32} : en (gEnds g k).2 s = en g s := by
  unfold en
  rw [ends_o (by omega), ends_o (by omega), ends_o (by omega)]
theorem HO1_ends {k : Int32} (hI : Ia g) (k0 : 0 ≤ k) (k1 : k < g 331 0) (h : HO1 g) : HO1 (gEnds g k).2 := fun j j0 j1 jo => by
  rw [ends_o (by omega)] at j1
  rw [ends_135] at jo
  rw [ends_o (by omega), ends_o (by omega)]
  split at jo
  · exact absurd jo (by decide)
  · exact h j j0 j1 jo
theorem SA_ends {k : Int32} (h : SA g) : SA (gEnds g k).2 := fun s s0 s1 => by
  rw [ends_o (by omega)] at s1
  rw [ends_o (by omega), ends_o (by omega), ends_o (by omega), en_ends]
  exact h s s0 s1
/-- the loop over the holds -/
theorem eH_ok : ∀ (d : Nat) (k : Int32) (g : Gm), d ≤ 1000 → Ia g → HO1 g → SA g → 0 ≤ k → k + nI d = g 331 0 → k ≤ g 331 0 → (∀ j : Int32, 0 ≤ j → j < k → g 135 (nt j) = 0 → g 300 0 < g 134 (nt j)) → Ia (eH d k g) ∧ HO (eH d k g) ∧ SA (eH d k g) ∧ eH d k g 300 0 = g 300 0 ∧ eH d k g 321 0 = g 321 0 ∧ eH d k g 331 0 = g 331 0
  | 0, k, g, _, hI, h1, hs, k0, k1, k2, hj => by
    have e : k = g 331 0 := by rw [← k1]; show k = k + 0; lia
    exact ⟨hI, fun j j0 j1 jo => hj j j0 (by rw [e]; exact j1) jo, hs, rfl, rfl, rfl⟩
  | d + 1, k, g, hd, hI, h1, hs, k0, k1, k2, hj => by
    have n4 := n331 (ia_n hI)
    rw [nI1] at k1
    show Ia (eH d (k + 1) _) ∧ HO (eH d (k + 1) _) ∧ SA (eH d (k + 1) _) ∧ eH d (k + 1) _ 300 0 = _ ∧ eH d (k + 1) _ 321 0 = _ ∧ eH d (k + 1) _ 331 0 = _
    by_cases hk : k < g 331 0
    · by_cases c : g 135 (nt k) = 0 ∧ ¬ g 300 0 < g 134 (nt k)
      · rw [if_pos c]
        have r := eH_ok d (k + 1) (gEnds g k).2 (by omega) (Ia_ends hI k0 hk c.1) (HO1_ends hI k0 hk h1) (SA_ends hs) (by lia) (by rw [ends_o (by omega)]; lia) (by rw [ends_o (by omega)]; lia) (fun j j0 j1 jo => by
          rw [ends_135] at jo
          rw [ends_o (by omega), ends_o (by omega)]
          split at jo
          · exact absurd jo (by decide)
          · rename_i ne
            rcases i32_lt1 j1 k0 (by lia) with z | z
            · exact hj j j0 z jo
            · exact absurd (by rw [z]) ne)
        rw [ends_o (by omega), ends_o (by omega), ends_o (by omega)] at r
        exact r
      · rw [if_neg c]
        exact eH_ok d (k + 1) g (by omega) hI h1 hs (by lia) (by lia) (by lia) (fun j j0 j1 jo => by
          rcases i32_lt1 j1 k0 (by lia) with z | z
          · exact hj j j0 z jo
          · rw [z] at jo ⊢
            exact Decidable.not_not.mp (fun y => c ⟨jo, y⟩))
    · exfalso
      have e5 : (nI d).toInt = d := nI_toInt (by omega)
      have e6 : 0 ≤ nI d := by rw [z_le, e5]; exact Int.natCast_nonneg d
      have e7 : nI d ≤ 1000 := by rw [z_le, e5]; show (d : Int) ≤ 1000; omega
      lia
theorem Ia_over {s : Int32} (hI : Ia g) (h0 : 0 ≤ s) (h1 : s < g 321 0) (hr : g 125 (nt s) = 1) : Ia (gOver g s) := by
  obtain ⟨a1, a2, a3, a4, a5, a6, a7, a8, a9, a10, a11, a12, a13, a14⟩ := id hI
  obtain ⟨-, hh0, hh1⟩ := i_s1 hI h0 h1
  have e125 : ∀ i, gOver g s 125 i = if i = nt s then 2 else g 125 i := fun i => by
    unfold gOver
    rw [gu_ne (by simp)]
    by_cases e : i = nt s
    · rw [if_pos e, e, gu_at]
    · rw [if_neg e, gu_ne (Or.inr e)]
  have hon : ∀ x : Int32, on (gOver g s) x → on g x := fun x hx => by
    unfold on at hx ⊢
    rw [e125] at hx
    split at hx
    · rcases hx with z | z <;> exact absurd z (by decide)
    · exact hx
  refine ⟨a1, a2, ?_, a4, a5, ?_, ?_, ?_, a9, ?_, a11, a12, a13, a14⟩
  · intro i i0 i1
    have i0 : g 302 0 ≤ i := i0
    have n2 := n302 a1
    unfold gOver
    rw [gu_ne (Or.inr (fun z => by rw [nt_inj (by lia) hh0] at z; lia)), gu_ne (by simp)]
    exact a3 i i0 i1
  · intro i i0 i1
    obtain ⟨c1, c2, c3, c4, c5, c6, c7, c8, c9⟩ := a6 i i0 i1
    refine ⟨c1, c2, c3, c4, c5, c6, ?_, ?_, c9⟩
    · rw [e125]; split
      · decide
      · exact c7
    · rw [e125]; split
      · decide
      · exact c8
  · intro i i0 i1
    have i0 : g 321 0 ≤ i := i0
    have n2 := n321 a1
    refine ⟨?_, (a7 i i0 i1).2⟩
    rw [e125, if_neg (fun z => by rw [nt_inj (by lia) h0] at z; lia)]
    exact (a7 i i0 i1).1
  · intro i j i0 i1 j0 j1 ne oi oj eh
    exact a8 i j i0 i1 j0 j1 ne (hon i oi) (hon j oj) eh
  · intro k k0 k1
    obtain ⟨c1, c2, c3, c4, c5, c6⟩ := a10 k k0 k1
    refine ⟨c1, c2, c3, c4, c5, fun z => ?_⟩
    obtain ⟨d1, d2, d3⟩ := c6 z
    refine ⟨?_, d2, d3⟩
    rw [e125]
    show (if nt (g 132 (nt k)) = nt s then 2 else g 125 (nt (g 132 (nt k)))) = 0
    rw [if_neg (fun y => by rw [y, hr] at d1; exact absurd d1 (by decide))]
    exact d1
theorem Ia_run {s : Int32} (hI : Ia g) (hH : HO g) (h0 : 0 ≤ s) (h1 : s < g 321 0) (hr : g 125 (nt s) = 0) (hm : ¬ g 300 0 < g 124 (nt s)) : Ia (gRun g s) := by
  obtain ⟨a1, a2, a3, a4, a5, a6, a7, a8, a9, a10, a11, a12, a13, a14⟩ := id hI
  have e125 : ∀ i, gRun g s 125 i = if i = nt s then 1 else g 125 i := fun i => by
    unfold gRun
    rw [gu_ne (by simp)]
    by_cases e : i = nt s
    · rw [if_pos e, e, gu_at]
    · rw [if_neg e, gu_ne (Or.inr e)]
  have e128 : ∀ i, gRun g s 128 i = if i = nt s then 0 else g 128 i := fun i => by
    unfold gRun
    by_cases e : i = nt s
    · rw [if_pos e, e, gu_at]
    · rw [if_neg e, gu_ne (Or.inr e), gu_ne (by simp)]
  have hon : ∀ x : Int32, on (gRun g s) x → on g x := fun x hx => by
    unfold on at hx ⊢
    rw [e125] at hx
    split at hx
    · rename_i z; rw [z]; exact Or.inl hr
    · exact hx
  refine ⟨a1, a2, a3, a4, a5, ?_, ?_, ?_, a9, ?_, a11, a12, a13, ?_⟩
  · intro i i0 i1
    obtain ⟨c1, c2, c3, c4, c5, c6, c7, c8, c9, c10⟩ := a6 i i0 i1
    refine ⟨c1, c2, c3, c4, c5, c6, ?_, ?_, ?_, ?_⟩
    · rw [e125]; split
      · decide
      · exact c7
    · rw [e125]; split
      · decide
      · exact c8
    · rw [e128]; split
      · decide
      · exact c9
    · rw [e128]; split
      · decide
      · exact c10
  · intro i i0 i1
    have i0 : g 321 0 ≤ i := i0
    have n2 := n321 a1
    have ne : ¬ nt i = nt s := fun z => by rw [nt_inj (by lia) h0] at z; lia
    rw [e125, e128, if_neg ne, if_neg ne]
    exact a7 i i0 i1
  · intro i j i0 i1 j0 j1 ne oi oj eh
    exact a8 i j i0 i1 j0 j1 ne (hon i oi) (hon j oj) eh
  · intro k k0 k1
    obtain ⟨c1, c2, c3, c4, c5, c6⟩ := a10 k k0 k1
    refine ⟨c1, c2, c3, c4, c5, fun z => ?_⟩
    obtain ⟨d1, d2, d3⟩ := c6 z
    refine ⟨?_, d2, d3⟩
    rw [e125]
    show (if nt (g 132 (nt k)) = nt s then 1 else g 125 (nt (g 132 (nt k)))) = 0
    rw [if_neg, d1]
    intro y
    have := hH k k0 k1 z
    rw [y] at d2
    lia
  · intro x x0 x1 k k0 k1
    rw [e128] at k1
    split at k1
    · lia
    · exact a14 x x0 x1 k k0 k1
theorem over_o {s : Int32} {c i : Nat} (h : c ≠ 125 ∧ c ≠ 105) : gOver g s c i = g c i := by
  unfold gOver
  rw [gu_ne (Or.inl h.2), gu_ne (Or.inl h.1)]
theorem run_o {s : Int32} {c i : Nat} (h : c ≠ 125 ∧ c ≠ 128) : gRun g s c i = g c i := by
  unfold gRun
  rw [gu_ne (Or.inl h.2), gu_ne (Or.inl h.1)]
theorem over_125 {s : Int32} {i : Nat} : gOver g s 125 i = if i = nt s then 2 else g 125 i := by
  unfold gOver
  rw [gu_ne (by simp)]
  by_cases e : i = nt s
  · rw [if_pos e, e, gu_at]
  · rw [if_neg e, gu_ne (Or.inr e)]
theorem run_125 {s : Int32} {i : Nat} : gRun g s 125 i = if i = nt s then 1 else g 125 i := by
  unfold gRun
  rw [gu_ne (by simp)]
  by_cases e : i = nt s
  · rw [if_pos e, e, gu_at]
  · rw [if_neg e, gu_ne (Or.inr e)]
end P1
