/-! the invariant under small steps -/
theorem Ia_end {g : Gm} {k : Int32} (hI : Ia g) (k0 : 0 ≤ k) (k1 : k < g 331 0) (ho : g 135 (nt k) = 0) : Ia (gu (gu g 135 (nt k) 1) 127 (nt (48 * g 132 (nt k) + g 133 (nt k))) (-1)) := by
  obtain ⟨a1, a2, a3, a4, a5, a6, a7, a8, a9, a10, a11, a12, a13, a14⟩ := id hI
  refine ⟨a1, a2, a3, a4, a5, a6, a7, a8, ?_, ?_, ?_, a12, a13, a14⟩
  · intro s p h0 h1 h2 h3
    have := ia_pl hI s p h0 h1 h2 h3
    have hw : wd (gu (gu g 135 (nt k) 1) 127 (nt (48 * g 132 (nt k) + g 133 (nt k))) (-1)) s = wd g s := rfl
    rw [hw]
    grind [gu]
  · intro j j0 j1
    have h1 := ia_o hI j j0 j1
    have h2 := ia_o hI k k0 k1
    have h3 := nt_inj j0 k0
    have hw : ∀ s, wd (gu (gu g 135 (nt k) 1) 127 (nt (48 * g 132 (nt k) + g 133 (nt k))) (-1)) s = wd g s := fun _ => rfl
    rw [hw]
    grind [gu]
  · intro j j0 j1
    have h1 := ia_ou hI j j0 j1
    have h3 := nt_inj (x := j) (y := k) (by have := j0; have : g 331 0 ≤ j := j0; lia) k0
    grind [gu]
theorem Ia_back {g : Gm} {t : Int32} (hI : Ia g) (t0 : 0 ≤ t) (t1 : t < g 336 0) (ho : g 141 (nt t) = 0) : Ia (gu (gu (gu g 140 (nt t) 0) 141 (nt t) 1) 126 (nt (48 * g 137 (nt t) + g 138 (nt t))) (-1)) := by
  obtain ⟨a1, a2, a3, a4, a5, a6, a7, a8, a9, a10, a11, a12, a13, a14⟩ := id hI
  have hw : ∀ s, wd (gu (gu (gu g 140 (nt t) 0) 141 (nt t) 1) 126 (nt (48 * g 137 (nt t) + g 138 (nt t))) (-1)) s = wd g s := fun _ => rfl
  refine ⟨a1, a2, a3, a4, a5, a6, a7, a8, ?_, a10, a11, ?_, ?_, a14⟩
  · intro s p h0 h1 h2 h3
    have := a9 s p h0 h1 h2 h3
    rw [hw]
    grind [gu]
  · intro j j0 j1
    have h1 := a12 j j0 j1
    have h2 := a12 t t0 t1
    have h3 := nt_inj j0 t0
    rw [hw]
    grind [gu]
  · intro j j0 j1
    have h1 := a13 j j0 j1
    have h3 := nt_inj (x := j) (y := t) (by have : g 336 0 ≤ j := j0; lia) t0
    grind [gu]
theorem ntle {x y : Int32} (h : 0 ≤ x) (h2 : 0 ≤ y) : nt x ≤ nt y ↔ x ≤ y := by
  have h3 := nt_cast h
  have h4 := nt_cast h2
  rw [z_le]
  omega
theorem ntlt {x y : Int32} (h : 0 ≤ x) (h2 : 0 ≤ y) : nt x < nt y ↔ x < y := by
  have h3 := nt_cast h
  have h4 := nt_cast h2
  rw [z_lt]
  omega
theorem z_div {x d : Int32} (h : 0 ≤ x) (hd : 0 < d) : (x / d).toInt = x.toInt / d.toInt := by
  have z0 : (0 : Int32).toInt = 0 := rfl
  have h1 := z_le.mp h
  have h2 := z_lt.mp hd
  have h3 := x.toInt_lt
  have h4 : x.toInt / d.toInt ≤ x.toInt := Int.ediv_le_self _ (by omega)
  have h5 : 0 ≤ x.toInt / d.toInt := Int.ediv_nonneg (by omega) (by omega)
  rw [Int32.toInt_div, Int.tdiv_eq_ediv_of_nonneg (by omega), Int.bmod_eq_of_le (by omega) (by omega)]
theorem prc_rng {g : Gm} (hI : Ia g) {s age : Int32} (h0 : 0 ≤ s) (h1 : s < g 321 0) : 0 ≤ prc g s age ∧ prc g s age ≤ 999 := by
  obtain ⟨⟨f1, f2⟩, -⟩ := i_s1 hI h0 h1
  obtain ⟨-, -, -, -, c1, c2, -⟩ := ia_f hI _ f1 f2
  unfold prc
  dsimp only
  revert c1 c2
  generalize g 110 (nt (g 122 (nt s))) = c
  intro c1 c2
  have z0 : (0 : Int32).toInt = 0 := rfl
  have z1 : (1 : Int32).toInt = 1 := rfl
  have z2 : (2 : Int32).toInt = 2 := rfl
  have z3 : (3 : Int32).toInt = 3 := rfl
  have z4 : (4 : Int32).toInt = 4 := rfl
  have z9 : (999 : Int32).toInt = 999 := rfl
  have d1 := z_le.mp c1
  have d2 := z_le.mp c2
  have e1 : (3 * c).toInt = 3 * c.toInt := by rw [z_mul (x := 3) (y := c) (by rw [z3]; omega) (by rw [z3]; omega), z3]
  have p1 : 0 ≤ 3 * c := by rw [z_le, e1]; omega
  have e2 := z_div (d := 4) p1 (by decide)
  have p2 : 0 ≤ 3 * c / 4 ∧ 3 * c / 4 ≤ 999 := by constructor <;> (rw [z_le, e2, e1, z4]; omega)
  have hf : ∀ x : Int32, 0 ≤ x → x ≤ 999 → 0 ≤ x / 2 ∧ x / 2 ≤ 999 := fun x x0 x1 => by
    have e3 := z_div (d := 2) x0 (by decide)
    rw [z_le] at x0 x1
    constructor <;> (rw [z_le, e3, z2]; omega)
  split
  · split
    · exact ⟨by lia, c2⟩
    · exact p2
  · split
    · exact hf c (by lia) c2
    · exact hf _ p2.1 p2.2
theorem Ia_sells {g : Gm} {s p age : Int32} (hI : Ia g) (h0 : 0 ≤ s) (h1 : s < g 321 0) (p0 : 0 ≤ p) (p1 : p < wd g s) (hf : fre g s p) (hn : g 336 0 < 400) : Ia (gSells g s p age) := by
  have hp := prc_rng hI h0 h1 (age := age)
  have hw48 := wd_le (ia_h hI) (ia_s hI) h0 h1
  obtain ⟨a1, a2, a3, a4, a5, a6, a7, a8, a9, a10, a11, a12, a13, a14⟩ := id hI
  have n3 := n336 a1
  obtain ⟨b1, b2, b3, b4, b5, b6, b7, b8, b9, b10, b11, b12, b13, b14, b15, b16⟩ := id a1
  have hw : ∀ x, wd (gSells g s p age) x = wd g x := fun _ => rfl
  have e336 : gSells g s p age 336 0 = g 336 0 + 1 := rfl
  have e321 : gSells g s p age 321 0 = g 321 0 := rfl
  have e331 : gSells g s p age 331 0 = g 331 0 := rfl
  refine ⟨⟨b1, b2, b3, b4, b5, b6, b7, b8, b9, b10, b11, b12, b13, b14, by rw [e336]; lia, by rw [e336]; lia⟩, a2, a3, a4, a5, a6, a7, a8, ?_, a10, a11, ?_, ?_, a14⟩
  · intro x q x0 x1 q0 q1
    have := a9 x q x0 x1 q0 q1
    have h9 := ix_inj x0 x1 q0 q1 h0 (show s < 30 by lia) p0 (show p < 48 by lia)
    have e6 : gSells g s p age 126 (nt (48 * x + q)) = if nt (48 * x + q) = nt (48 * s + p) then g 336 0 else g 126 (nt (48 * x + q)) := by
      unfold gSells
      rw [gu_ne (by simp)]
      show (if 126 = 126 ∧ nt (48 * x + q) = nt (48 * s + p) then g 336 0 else g 126 (nt (48 * x + q))) = _
      simp
    have e7 : gSells g s p age 127 (nt (48 * x + q)) = g 127 (nt (48 * x + q)) := rfl
    rw [hw, e336, e321, e331, e6, e7]
    unfold fre at hf
    by_cases e : nt (48 * x + q) = nt (48 * s + p)
    · obtain ⟨rfl, rfl⟩ := h9.mp e
      rw [if_pos rfl]
      exact ⟨Or.inr ⟨n3.1, by lia, hf.2, h1, p1⟩, Or.inl hf.2⟩
    · rw [if_neg e]
      exact ⟨this.1.imp_right (fun z => ⟨z.1, by have := z.2.1; lia, z.2.2⟩), this.2⟩
  · intro j j0 j1
    rw [e336] at j1
    have e2 : ∀ c i, c ≠ 336 → c ≠ 126 → i ≠ nt (g 336 0) → gSells g s p age c i = g c i := fun c i c1 c2 c3 => by
      unfold gSells
      rw [gu_ne (Or.inl c1), gu_ne (Or.inl c2), gu_ne (Or.inr c3), gu_ne (Or.inr c3), gu_ne (Or.inr c3), gu_ne (Or.inr c3)]
    have e6 : ∀ i, gSells g s p age 126 i = if i = nt (48 * s + p) then g 336 0 else g 126 i := fun i => by
      unfold gSells
      rw [gu_ne (by simp)]
      show (if 126 = 126 ∧ i = nt (48 * s + p) then g 336 0 else g 126 i) = _
      simp
    rcases i32_lt1 j1 n3.1 (by lia) with e | e
    · have e3 : nt j ≠ nt (g 336 0) := fun z => by rw [(nt_inj j0 n3.1).mp z] at e; lia
      rw [hw, e2 137 _ (by decide) (by decide) e3, e2 138 _ (by decide) (by decide) e3, e2 140 _ (by decide) (by decide) e3, e2 141 _ (by decide) (by decide) e3, e321, e6]
      have := a12 j j0 e
      refine ⟨this.1, this.2.1, this.2.2.1, this.2.2.2.1, this.2.2.2.2.1, this.2.2.2.2.2.1, this.2.2.2.2.2.2.1, this.2.2.2.2.2.2.2.1, fun z => ?_⟩
      have h5 := this.2.2.2.2.2.2.2.2 z
      rw [if_neg, h5]
      intro z2
      rw [z2, hf.1] at h5
      lia
    · subst e
      have y7 : gSells g s p age 137 (nt (g 336 0)) = s := by unfold gSells; rw [gu_ne (by simp), gu_ne (by simp), gu_ne (by simp), gu_ne (by simp), gu_ne (by simp), gu_at]
      have y8 : gSells g s p age 138 (nt (g 336 0)) = p := by unfold gSells; rw [gu_ne (by simp), gu_ne (by simp), gu_ne (by simp), gu_ne (by simp), gu_at]
      have y0 : gSells g s p age 140 (nt (g 336 0)) = prc g s age := by unfold gSells; rw [gu_ne (by simp), gu_ne (by simp), gu_at]
      have y1 : gSells g s p age 141 (nt (g 336 0)) = 0 := a13 (g 336 0) (by lia) hn
      rw [hw, y7, y8, y0, y1, e321, e6, if_pos rfl]
      exact ⟨h0, h1, p0, p1, Or.inl rfl, hp.1, hp.2, fun z => absurd z (by decide), fun _ => rfl⟩
  · intro j j0 j1
    rw [e336] at j0
    exact a13 j (by lia) j1
theorem shift_at {g : Gm} {s x k : Int32} {c : Nat} (h0 : 0 ≤ s) (h1 : s < 30) (x0 : 0 ≤ x) (x1 : x < 30) (k0 : 0 ≤ k) (k1 : k < 40) (hp : 1 ≤ g 128 (nt s) ∧ g 128 (nt s) ≤ 40) (hc : c = 129 ∨ c = 130) : gShift g s c (nt (40 * x + k)) = if x = s ∧ k < g 128 (nt s) - 1 then g c (nt (40 * x + (k + 1))) else g c (nt (40 * x + k)) := by
  unfold gShift
  rw [if_neg (fun z => by have := z.1; omega)]
  have e1 : nt (40 * s) + nt (g 128 (nt s) - 1) = nt (40 * s + (g 128 (nt s) - 1)) := (nt_add (by lia) (by lia) (by lia) (by lia)).symm
  have q1 : nt (40 * s) ≤ nt (40 * x + k) ↔ 40 * s ≤ 40 * x + k := ntle (by lia) (by lia)
  have q2 : nt (40 * x + k) < nt (40 * s + (g 128 (nt s) - 1)) ↔ 40 * x + k < 40 * s + (g 128 (nt s) - 1) := ntlt (by lia) (by lia)
  have e2 : nt (40 * x + (k + 1)) = nt (40 * x + k) + 1 := by
    rw [show 40 * x + (k + 1) = 40 * x + k + 1 by lia]
    exact ntS (by lia) (by lia)
  by_cases e : x = s ∧ k < g 128 (nt s) - 1
  · rw [if_pos e, if_pos ⟨hc, q1.mpr (by have := e.1; lia), by rw [e1]; exact q2.mpr (by have := e.1; have := e.2; lia)⟩, e2]
  · rw [if_neg e, if_neg]
    rintro ⟨-, z1, z2⟩
    rw [e1] at z2
    have z1 := q1.mp z1
    have z2 := q2.mp z2
    apply e
    constructor <;> lia
theorem Ia_shift {g : Gm} {s : Int32} (hI : Ia g) (h0 : 0 ≤ s) (h1 : s < g 321 0) (hp : g 128 (nt s) ≠ 0) : Ia (gShift g s) := by
  obtain ⟨a1, a2, a3, a4, a5, a6, a7, a8, a9, a10, a11, a12, a13, a14⟩ := id hI
  obtain ⟨-, -, -, -, -, -, -, -, -, -, -, b12, -⟩ := id a1
  obtain ⟨-, -, -, -, -, -, -, -, q1, q2⟩ := a6 s h0 h1
  have hp2 : 1 ≤ g 128 (nt s) ∧ g 128 (nt s) ≤ 40 := ⟨by lia, q2⟩
  have e8 : ∀ i, gShift g s 128 i = if i = nt s then g 128 (nt s) - 1 else g 128 i := fun i => by
    unfold gShift
    by_cases e : i = nt s
    · rw [if_pos ⟨rfl, e⟩, if_pos e]
    · rw [if_neg (fun z => e z.2), if_neg e, if_neg (fun z => by have := z.1; omega)]
  refine ⟨a1, a2, a3, a4, a5, ?_, ?_, a8, a9, a10, a11, a12, a13, ?_⟩
  · intro i i0 i1
    obtain ⟨c1, c2, c3, c4, c5, c6, c7, c8, c9, c10⟩ := a6 i i0 i1
    refine ⟨c1, c2, c3, c4, c5, c6, c7, c8, ?_, ?_⟩
    · rw [e8]; split <;> lia
    · rw [e8]; split <;> lia
  · intro i i0 i1
    obtain ⟨c1, c2⟩ := a7 i i0 i1
    refine ⟨c1, ?_⟩
    rw [e8, if_neg, c2]
    intro z
    have i0 : g 321 0 ≤ i := i0
    rw [nt_inj (by lia) h0] at z
    lia
  · intro x x0 x1 k k0 k1
    have x1 : x < g 321 0 := x1
    obtain ⟨-, -, -, -, -, -, -, -, r1, r2⟩ := a6 x x0 x1
    rw [e8] at k1
    have k2 : k < 40 := by split at k1 <;> lia
    have hx := nt_inj x0 h0
    rw [shift_at h0 (by lia) x0 (by lia) k0 k2 hp2 (Or.inr rfl)]
    split
    · rename_i z
      exact a14 x x0 x1 (k + 1) (by lia) (by rw [z.1]; lia)
    · rename_i z
      refine a14 x x0 x1 k k0 ?_
      split at k1
      · lia
      · exact k1
