/-! the bounds under the small steps -/
section LBS
variable {g g1 : Gm} {C : Nat}
theorem hN_congr : ∀ n : Nat, (∀ i, i < n → g1 135 i = g 135 i) → hN g1 n = hN g n
  | 0, _ => rfl
  | n + 1, h => by
    show hN g1 n + (if g1 135 n = 0 then 1 else 0) = hN g n + (if g 135 n = 0 then 1 else 0)
    rw [hN_congr n (fun i hi => h i (by omega)), h n (by omega)]
theorem hN_end {k : Nat} (h : ∀ i, g1 135 i = if i = k then 1 else g 135 i) (hk : g 135 k = 0) : ∀ n : Nat, k < n → hN g1 n + 1 = hN g n
  | 0, z => by omega
  | n + 1, z => by
    show hN g1 n + (if g1 135 n = 0 then 1 else 0) + 1 = hN g n + (if g 135 n = 0 then 1 else 0)
    by_cases e : n = k
    · subst e
      rw [hN_congr n (fun i hi => by rw [h i, if_neg (by omega)]), h n, if_pos rfl, hk, if_neg (by decide), if_pos rfl]
    · have := hN_end h hk n (by omega)
      rw [h n, if_neg e]; omega
theorem lnN_congr : ∀ n : Nat, (∀ i, i < n → g1 128 i = g 128 i) → lnN g1 n = lnN g n
  | 0, _ => rfl
  | n + 1, h => by
    show lnN g1 n + nt (g1 128 n) = lnN g n + nt (g 128 n)
    rw [lnN_congr n (fun i hi => h i (by omega)), h n (by omega)]
theorem lnN_upd {k : Nat} : ∀ n : Nat, k < n → (∀ i, i < n → i ≠ k → g1 128 i = g 128 i) → lnN g1 n + nt (g 128 k) = lnN g n + nt (g1 128 k)
  | 0, z, _ => by omega
  | n + 1, z, h => by
    show lnN g1 n + nt (g1 128 n) + nt (g 128 k) = lnN g n + nt (g 128 n) + nt (g1 128 k)
    by_cases e : n = k
    · subst e
      rw [lnN_congr n (fun i hi => h i (by omega) (by omega))]; omega
    · have := lnN_upd n (by omega) (fun i hi => h i (by omega))
      rw [h n (by omega) e]; omega
theorem nt_lt_of {x y : Int32} (h : 0 ≤ x) (h2 : x < y) : nt x < nt y := (ntlt h (by lia)).mpr h2
/-- a hold that ends -/
theorem LB_end {k : Int32} {i : Nat} (hB : LB C g) (k0 : 0 ≤ k) (k1 : k < g 331 0) (ho : g 135 (nt k) = 0) : 4 ≤ C ∧ LB (C - 4) (gu (gu g 135 (nt k) 1) 127 i (-1)) := by
  obtain ⟨b1, b2, b3, b4, b5, b6⟩ := hB
  have e : ∀ j, (gu (gu g 135 (nt k) 1) 127 i (-1)) 135 j = if j = nt k then 1 else g 135 j := fun j => by
    rw [gu_ne (Or.inl (by decide))]
    by_cases z : j = nt k
    · rw [if_pos z, z, gu_at]
    · rw [if_neg z, gu_ne (Or.inr z)]
  have h1 := hN_end e ho (nt (g 331 0)) (nt_lt_of k0 k1)
  have h2 : lnN (gu (gu g 135 (nt k) 1) 127 i (-1)) (nt (g 321 0)) = lnN g (nt (g 321 0)) := lnN_congr _ (fun j _ => rfl)
  unfold PB at b5
  refine ⟨by omega, b1, b2, b3, b4, ?_, b6⟩
  show 8 * nt (g 336 0) + 4 * hN _ (nt (g 331 0)) + 4 * lnN _ (nt (g 321 0)) ≤ C - 4
  rw [h2]; omega
theorem LB_frees {s p : Int32} (hI : Ia g) (hB : LB C g) (s0 : 0 ≤ s) (s1 : s < g 321 0) : LB (C + 4) (gFrees g s p).2 := by
  obtain ⟨b1, b2, b3, b4, b5, b6⟩ := hB
  by_cases e : g 128 (nt s) = 0 ∨ g 336 0 = 400
  · rw [show gFrees g s p = (-1, g) from if_pos e]
    exact ⟨b1, b2, b3, b4, Nat.le_trans b5 (by omega), b6⟩
  · rw [show gFrees g s p = (g 336 0, gSells (gShift g s) s p (g 129 (nt (40 * s)))) from if_neg e]
    have n3 := n336 (ia_n hI)
    have x4 := b1.2.2.2.1
    obtain ⟨-, -, -, -, -, -, -, -, l0, l1⟩ := ia_s hI s s0 s1
    have hp2 : 1 ≤ g 128 (nt s) ∧ g 128 (nt s) ≤ 40 := ⟨by have : ¬ g 128 (nt s) = 0 := fun z => e (Or.inl z); lia, l1⟩
    obtain ⟨l9, la⟩ := b4 s s0 s1
    have a0 := la 0 (by decide) (by lia)
    rw [show (40 : Int32) * s + 0 = 40 * s by lia] at a0
    refine ⟨b1, b2, ?_, ?_, ?_, b6⟩
    · intro t t0 t1
      have t1 : t < g 336 0 + 1 := t1
      rcases i32_lt1 t1 n3.1 (by lia) with z | z
      · have ne : nt t ≠ nt (g 336 0) := fun q => by rw [nt_inj t0 n3.1] at q; lia
        have q : gSells (gShift g s) s p (g 129 (nt (40 * s))) 139 (nt t) = g 139 (nt t) := gu_ne (c := 139) (g := gShift g s) (Or.inr ne)
        show 0 ≤ gSells (gShift g s) s p (g 129 (nt (40 * s))) 139 (nt t) ∧ gSells (gShift g s) s p (g 129 (nt (40 * s))) 139 (nt t) ≤ 120
        rw [q]; exact b3 t t0 z
      · subst z
        have q : gSells (gShift g s) s p (g 129 (nt (40 * s))) 139 (nt (g 336 0)) = g 129 (nt (40 * s)) := gu_at (c := 139) (g := gShift g s)
        show 0 ≤ gSells (gShift g s) s p (g 129 (nt (40 * s))) 139 (nt (g 336 0)) ∧ gSells (gShift g s) s p (g 129 (nt (40 * s))) 139 (nt (g 336 0)) ≤ 120
        rw [q]; exact a0
    · intro x x0 x1
      have x1 : x < g 321 0 := x1
      show gShift g s 128 (nt x) ≤ 9 ∧ ∀ k : Int32, 0 ≤ k → k < gShift g s 128 (nt x) → 0 ≤ gShift g s 129 (nt (40 * x + k)) ∧ gShift g s 129 (nt (40 * x + k)) ≤ 120
      obtain ⟨y9, ya⟩ := b4 x x0 x1
      rw [shift_8]
      by_cases z : x = s
      · subst z
        rw [if_pos rfl]
        refine ⟨by lia, fun k k0 k1 => ?_⟩
        rw [shift_at x0 (by lia) x0 (by lia) k0 (by lia) hp2 (Or.inl rfl), if_pos ⟨rfl, k1⟩]
        exact ya (k + 1) (by lia) (by lia)
      · have ne : ¬ nt x = nt s := fun y => z ((nt_inj x0 s0).mp y)
        rw [if_neg ne]
        refine ⟨y9, fun k k0 k1 => ?_⟩
        rw [shift_at s0 (by lia) x0 (by lia) k0 (by lia) hp2 (Or.inl rfl), if_neg (fun y => z y.1)]
        exact ya k k0 k1
    · have h1 : hN (gSells (gShift g s) s p (g 129 (nt (40 * s)))) (nt (g 331 0)) = hN g (nt (g 331 0)) := hN_congr _ (fun j _ => rfl)
      have h2 := lnN_upd (g := g) (g1 := gSells (gShift g s) s p (g 129 (nt (40 * s)))) (k := nt s) (nt (g 321 0)) (nt_lt_of s0 s1) (fun i _ hi => by
        show gShift g s 128 i = g 128 i
        rw [shift_8, if_neg hi])
      have h3 : gSells (gShift g s) s p (g 129 (nt (40 * s))) 128 (nt s) = g 128 (nt s) - 1 := by
        show gShift g s 128 (nt s) = _
        rw [shift_8, if_pos rfl]
      have h4 : nt (g 128 (nt s)) = nt (g 128 (nt s) - 1) + 1 := by
        rw [← ntS (by lia) (by lia), show g 128 (nt s) - 1 + 1 = g 128 (nt s) by lia]
      rw [h3] at h2
      unfold PB at b5
      show 8 * nt (g 336 0 + 1) + 4 * hN (gSells (gShift g s) s p (g 129 (nt (40 * s)))) (nt (g 331 0)) + 4 * lnN (gSells (gShift g s) s p (g 129 (nt (40 * s)))) (nt (g 321 0)) ≤ C + 4
      rw [ntS n3.1 (by lia), h1]
      omega
theorem LB_ends {k : Int32} (hI : Ia g) (hB : LB C g) (k0 : 0 ≤ k) (k1 : k < g 331 0) (ho : g 135 (nt k) = 0) : LB C (gEnds g k).2 := by
  obtain ⟨c, h1⟩ := LB_end (i := nt (48 * g 132 (nt k) + g 133 (nt k))) hB k0 k1 ho
  obtain ⟨s0, s1, -⟩ := hold_pl hI k0 k1 ho
  have h2 := LB_frees (p := g 133 (nt k)) (Ia_end hI k0 k1 ho) h1 s0 s1
  rw [show C - 4 + 4 = C by omega] at h2
  exact h2
/-- columns that the bounds don't look at -/
theorem LB_same (hB : LB C g) (h : ∀ c i, c = 302 ∨ c = 307 ∨ c = 316 ∨ c = 321 ∨ c = 331 ∨ c = 336 ∨ c = 103 ∨ c = 104 ∨ c = 139 ∨ c = 128 ∨ c = 129 ∨ c = 135 ∨ c = 117 ∨ c = 118 → g1 c i = g c i) : LB C g1 := by
  obtain ⟨⟨x1, x2, x3, x4, x5⟩, b2, b3, b4, b5, b6⟩ := hB
  have h302 := h 302 0 (by omega)
  have h307 := h 307 0 (by omega)
  have h316 := h 316 0 (by omega)
  have h321 := h 321 0 (by omega)
  have h331 := h 331 0 (by omega)
  have h336 := h 336 0 (by omega)
  refine ⟨⟨by rw [h302]; exact x1, by rw [h307]; exact x2, by rw [h316]; exact x3, by rw [h321]; exact x4, by rw [h331]; exact x5⟩, fun i i0 i1 => ?_, fun i i0 i1 => ?_, fun i i0 i1 => ?_, ?_, fun i i0 i1 => ?_⟩
  · rw [h302] at i1; rw [h 103 _ (by omega), h 104 _ (by omega)]; exact b2 i i0 i1
  · rw [h336] at i1; rw [h 139 _ (by omega)]; exact b3 i i0 i1
  · rw [h321] at i1; rw [h 128 _ (by omega)]
    refine ⟨(b4 i i0 i1).1, fun k k0 k1 => ?_⟩
    rw [h 129 _ (by omega)]; exact (b4 i i0 i1).2 k k0 k1
  · unfold PB at b5 ⊢
    rw [h336, h331, h321, hN_congr _ (fun i _ => h 135 i (by omega)), lnN_congr _ (fun i _ => h 128 i (by omega))]
    exact b5
  · rw [h316] at i1; rw [h 117 _ (by omega), h 118 _ (by omega), h307, h302]; exact b6 i i0 i1
theorem LB_min {y : Int32} (hB : LB C g) : LB C (gu g 300 0 y) := LB_same hB (fun c i hc => gu_ne (Or.inl (by omega)))
theorem LB_over {s : Int32} (hB : LB C g) : LB C (gOver g s) := LB_same hB (fun c i hc => over_o (by omega))
theorem LB_run {s : Int32} (hB : LB C g) (s0 : 0 ≤ s) (s1 : s < g 321 0) : LB C (gRun g s) := by
  obtain ⟨b1, b2, b3, b4, b5, b6⟩ := hB
  have e128 : ∀ i, gRun g s 128 i = if i = nt s then 0 else g 128 i := fun i => by
    unfold gRun
    by_cases e : i = nt s
    · rw [if_pos e, e, gu_at]
    · rw [if_neg e, gu_ne (Or.inr e), gu_ne (by simp)]
  refine ⟨b1, b2, b3, ?_, ?_, b6⟩
  · intro x x0 x1
    have x1 : x < g 321 0 := x1
    rw [e128]
    split
    · exact ⟨by decide, fun k k0 k1 => by exfalso; lia⟩
    · exact b4 x x0 x1
  · have h1 : hN (gRun g s) (nt (g 331 0)) = hN g (nt (g 331 0)) := hN_congr _ (fun j _ => rfl)
    have h2 := lnN_upd (g := g) (g1 := gRun g s) (k := nt s) (nt (g 321 0)) (nt_lt_of s0 s1) (fun i _ hi => by rw [e128, if_neg hi])
    rw [e128, if_pos rfl, show nt 0 = 0 by decide] at h2
    unfold PB at b5
    show 8 * nt (g 336 0) + 4 * hN _ (nt (g 331 0)) + 4 * lnN _ (nt (g 321 0)) ≤ C
    rw [h1]; omega
end LBS
