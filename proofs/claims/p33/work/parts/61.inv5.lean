/-! breaks, cancel: what always holds of g holds after each call -/
section KL5
variable {g : Gm}
theorem bkT_rng {s t : Int32} (h0 : 0 ≤ g 140 (nt t)) (h1 : g 140 (nt t) ≤ 999) : 0 ≤ bkT g s t ∧ bkT g s t ≤ g 140 (nt t) := by
  unfold bkT
  split
  · split
    · have z2 : (2 : Int32).toInt = 2 := rfl
      have z0 : (0 : Int32).toInt = 0 := rfl
      have e3 := z_div (d := 2) h0 (by decide)
      rw [z2] at e3
      rw [z_le] at h0 h1
      rw [z0] at h0
      constructor <;> (rw [z_le, e3]; omega)
    · exact ⟨h0, by exact Int32.le_refl _⟩
  · exact ⟨by decide, h0⟩
theorem br_o {s : Int32} {c i : Nat} (h : c ≠ 140 ∧ c ≠ 105 ∧ c ≠ 125) : gBreaks g s c i = g c i := by
  unfold gBreaks
  rw [if_neg (fun z => h.1 z.1), if_neg (fun z => h.2.1 z.1), if_neg (fun z => h.2.2 z.1)]
theorem br_125 {s : Int32} {i : Nat} : gBreaks g s 125 i = if i = nt s then 3 else g 125 i := by
  unfold gBreaks
  rw [if_neg (by simp), if_neg (by simp)]
  by_cases e : i = nt s
  · rw [if_pos ⟨rfl, e⟩, if_pos e]
  · rw [if_neg (fun z => e z.2), if_neg e]
theorem br_105 {s : Int32} {i : Nat} (h : i ≠ nt (g 123 (nt s))) : gBreaks g s 105 i = g 105 i := by
  unfold gBreaks
  rw [if_neg (by simp), if_neg (fun z => h z.2), if_neg (by simp)]
theorem br_140 {s : Int32} {i : Nat} (h : i < nt (g 336 0)) : gBreaks g s 140 i = g 140 i - bkT g s (nI i) := by
  unfold gBreaks
  rw [if_pos ⟨rfl, h⟩]
theorem Iv_breaks {s : Int32} (hI : Iv g) : Iv (rBreaks g s).2.2 := by
  by_cases r1 : isX g 321 s
  · by_cases r2 : g 125 (nt s) = 1
    · rw [show rBreaks g s = (0, sm (bkT g s) (nt (g 336 0)), gBreaks g s) by unfold rBreaks; rw [if_pos r1, if_pos r2]]
      dsimp only
      obtain ⟨s0, s1⟩ := r1
      obtain ⟨-, hh0, hh1⟩ := i_s1 hI.1 s0 s1
      have w : ∀ x, wd (gBreaks g s) x = wd g x := fun x => by
        unfold wd; rw [br_o (by omega), br_o (by omega), br_o (by omega)]
      have ee : ∀ x, en (gBreaks g s) x = en g x := fun x => by
        unfold en; rw [br_o (by omega), br_o (by omega), br_o (by omega)]
      have hon : ∀ x : Int32, on (gBreaks g s) x → on g x := fun x hx => by
        unfold on at hx ⊢
        rw [br_125] at hx
        split at hx
        · rcases hx with z | z <;> exact absurd z (by decide)
        · exact hx
      have n3 := n336 (i_n hI)
      refine ⟨⟨?_, ?_, ?_, ?_, ?_, ?_, ?_, ?_, ?_, ?_, ?_, ?_, ?_, ?_⟩, ?_, ?_⟩
      · unfold I_n
        rw [br_o (c := 300) (by omega), br_o (c := 301) (by omega), br_o (c := 302) (by omega), br_o (c := 307) (by omega), br_o (c := 316) (by omega), br_o (c := 321) (by omega), br_o (c := 331) (by omega), br_o (c := 336) (by omega)]
        exact i_n hI
      · intro i i0 i1
        rw [br_o (by omega)] at i1
        rw [br_o (by omega), br_o (by omega)]
        exact i_h hI i i0 i1
      · intro i i0 i1
        rw [br_o (by omega)] at i0
        have n2 := n302 (i_n hI)
        rw [br_105 (fun z => by rw [nt_inj (by lia) hh0] at z; lia)]
        exact i_hu hI i i0 i1
      · intro i i0 i1
        rw [br_o (by omega)] at i1
        rw [br_o (c := 108) (by omega), br_o (c := 109) (by omega), br_o (c := 110) (by omega), br_o (c := 111) (by omega), br_o (c := 112) (by omega), br_o (c := 113) (by omega), br_o (c := 114) (by omega)]
        exact i_f hI i i0 i1
      · intro i i0 i1
        rw [br_o (by omega)] at i0
        rw [br_o (c := 112) (by omega), br_o (c := 114) (by omega), br_o (c := 115) (by omega)]
        exact i_fu hI i i0 i1
      · intro i i0 i1
        rw [br_o (by omega)] at i1
        have u := i_s hI i i0 i1
        rw [br_o (c := 122) (by omega), br_o (c := 307) (by omega), br_o (c := 123) (by omega), br_o (c := 302) (by omega), br_o (c := 124) (by omega), br_o (c := 128) (by omega), br_125]
        refine ⟨u.1, u.2.1, u.2.2.1, u.2.2.2.1, u.2.2.2.2.1, u.2.2.2.2.2.1, ?_, ?_, u.2.2.2.2.2.2.2.2⟩
        · split
          · decide
          · exact u.2.2.2.2.2.2.1
        · split
          · decide
          · exact u.2.2.2.2.2.2.2.1
      · intro i i0 i1
        rw [br_o (by omega)] at i0
        rw [br_125, br_o (by omega), if_neg (fun z => by rw [nt_inj (by lia) s0] at z; lia)]
        exact i_su hI i i0 i1
      · intro i j i0 i1 j0 j1 ne oi oj eh
        rw [br_o (by omega)] at i1 j1
        rw [br_o (by omega), br_o (by omega)] at eh
        rw [ee, ee, br_o (by omega), br_o (by omega)]
        exact i_ov hI i j i0 i1 j0 j1 ne (hon i oi) (hon j oj) eh
      · intro x p x0 x1 p0 p1
        rw [w, br_o (c := 126) (by omega), br_o (c := 127) (by omega), br_o (c := 336) (by omega), br_o (c := 321) (by omega), br_o (c := 331) (by omega)]
        exact i_pl hI x p x0 x1 p0 p1
      · intro k k0 k1
        rw [br_o (by omega)] at k1
        have u := i_o hI k k0 k1
        rw [w, br_o (c := 132) (by omega), br_o (c := 133) (by omega), br_o (c := 134) (by omega), br_o (c := 135) (by omega), br_o (c := 321) (by omega), br_o (c := 127) (by omega), br_o (c := 124) (by omega), br_125]
        refine ⟨u.1, u.2.1, u.2.2.1, u.2.2.2.1, u.2.2.2.2.1, fun z => ?_⟩
        obtain ⟨d1, d2, d3⟩ := u.2.2.2.2.2 z
        refine ⟨?_, d2, d3⟩
        rw [if_neg (fun y => by rw [y, r2] at d1; exact absurd d1 (by decide))]
        exact d1
      · intro k k0 k1
        rw [br_o (by omega)] at k0
        rw [br_o (by omega)]
        exact i_ou hI k k0 k1
      · intro t t0 t1
        rw [br_o (by omega)] at t1
        have u := i_t hI t t0 t1
        rw [w, br_o (c := 137) (by omega), br_o (c := 138) (by omega), br_o (c := 141) (by omega), br_o (c := 321) (by omega), br_o (c := 126) (by omega), br_140 ((ntlt t0 n3.1).mpr t1), nI_nt0 t0]
        obtain ⟨c1, c2⟩ := bkT_rng (s := s) u.2.2.2.2.2.1 u.2.2.2.2.2.2.1
        have c3 := u.2.2.2.2.2.2.1
        have c4 := u.2.2.2.2.2.1
        refine ⟨u.1, u.2.1, u.2.2.1, u.2.2.2.1, u.2.2.2.2.1, by lia, by lia, fun z => ?_, u.2.2.2.2.2.2.2.2⟩
        have c5 := u.2.2.2.2.2.2.2.1 z
        lia
      · intro t t0 t1
        rw [br_o (by omega)] at t0
        rw [br_o (by omega)]
        exact i_tu hI t t0 t1
      · intro x x0 x1 k k0 k1
        rw [br_o (by omega)] at x1 k1
        rw [br_o (by omega)]
        exact i_l hI x x0 x1 k k0 k1
      · intro k k0 k1 ko
        rw [br_o (by omega)] at k1 ko
        rw [br_o (by omega), br_o (by omega)]
        exact hI.2.1 k k0 k1 ko
      · intro x x0 x1
        rw [br_o (by omega)] at x1
        rw [br_125, br_o (by omega), br_o (by omega), ee]
        split
        · exact ⟨fun z => absurd z (by decide), fun z => absurd z (by decide)⟩
        · exact hI.2.2 x x0 x1
    · rw [show rBreaks g s = (2, 0, g) by unfold rBreaks; rw [if_pos r1, if_neg r2]]; exact hI
  · rw [show rBreaks g s = (3, 0, g) from if_neg r1]; exact hI
theorem cn_o {s : Int32} {c i : Nat} (h : c ≠ 140 ∧ c ≠ 141 ∧ c ≠ 135 ∧ c ≠ 126 ∧ c ≠ 127 ∧ c ≠ 128 ∧ c ≠ 125) : gCancel g s c i = g c i := by
  unfold gCancel
  rw [if_neg (fun z => h.1 z.1), if_neg (fun z => h.2.1 z.1), if_neg (fun z => h.2.2.1 z.1), if_neg (fun z => z.1.elim h.2.2.2.1 h.2.2.2.2.1), if_neg (fun z => h.2.2.2.2.2.1 z.1), if_neg (fun z => h.2.2.2.2.2.2 z.1)]
theorem cn_125 {s : Int32} {i : Nat} : gCancel g s 125 i = if i = nt s then 4 else g 125 i := by
  unfold gCancel
  rw [if_neg (by simp), if_neg (by simp), if_neg (by simp), if_neg (by simp), if_neg (by simp)]
  by_cases e : i = nt s
  · rw [if_pos ⟨rfl, e⟩, if_pos e]
  · rw [if_neg (fun z => e z.2), if_neg e]
theorem cn_128 {s : Int32} {i : Nat} : gCancel g s 128 i = if i = nt s then 0 else g 128 i := by
  unfold gCancel
  rw [if_neg (by simp), if_neg (by simp), if_neg (by simp), if_neg (by simp)]
  by_cases e : i = nt s
  · rw [if_pos ⟨rfl, e⟩, if_pos e]
  · rw [if_neg (fun z => e z.2), if_neg e, if_neg (by simp)]
theorem cn_135 {s : Int32} {i : Nat} : gCancel g s 135 i = if i < nt (g 331 0) ∧ g 132 i = s then 1 else g 135 i := by
  unfold gCancel
  rw [if_neg (by simp), if_neg (by simp)]
  by_cases e : i < nt (g 331 0) ∧ g 132 i = s
  · rw [if_pos ⟨rfl, e⟩, if_pos e]
  · rw [if_neg (fun z => e z.2), if_neg e, if_neg (by simp), if_neg (by simp), if_neg (by simp)]
theorem cn_140 {s : Int32} {i : Nat} : gCancel g s 140 i = if i < nt (g 336 0) ∧ g 137 i = s then 0 else g 140 i := by
  unfold gCancel
  by_cases e : i < nt (g 336 0) ∧ g 137 i = s
  · rw [if_pos ⟨rfl, e⟩, if_pos e]
  · rw [if_neg (fun z => e z.2), if_neg e, if_neg (by simp), if_neg (by simp), if_neg (by simp), if_neg (by simp), if_neg (by simp)]
theorem cn_141 {s : Int32} {i : Nat} : gCancel g s 141 i = if i < nt (g 336 0) ∧ g 137 i = s then 1 else g 141 i := by
  unfold gCancel
  rw [if_neg (by simp)]
  by_cases e : i < nt (g 336 0) ∧ g 137 i = s
  · rw [if_pos ⟨rfl, e⟩, if_pos e]
  · rw [if_neg (fun z => e z.2), if_neg e, if_neg (by simp), if_neg (by simp), if_neg (by simp), if_neg (by simp)]
theorem cn_pl {s x p : Int32} {c : Nat} (hc : c = 126 ∨ c = 127) (s0 : 0 ≤ s) (s1 : s < 30) (x0 : 0 ≤ x) (x1 : x < 30) (p0 : 0 ≤ p) (p1 : p < 48) : gCancel g s c (nt (48 * x + p)) = if x = s then -1 else g c (nt (48 * x + p)) := by
  have e1 : nt (48 * s) + 48 = nt (48 * s + 48) := (nt_add (y := 48) (by lia) (by decide) (by lia) (by decide)).symm
  have q1 : nt (48 * s) ≤ nt (48 * x + p) ↔ 48 * s ≤ 48 * x + p := ntle (by lia) (by lia)
  have q2 : nt (48 * x + p) < nt (48 * s + 48) ↔ 48 * x + p < 48 * s + 48 := ntlt (by lia) (by lia)
  unfold gCancel
  rw [if_neg (fun z => by omega), if_neg (fun z => by omega), if_neg (fun z => by omega), e1]
  by_cases e : x = s
  · rw [if_pos e, if_pos ⟨hc, q1.mpr (by lia), q2.mpr (by lia)⟩]
  · rw [if_neg e, if_neg (fun z => e (by have a := q1.mp z.2.1; have b := q2.mp z.2.2; lia)), if_neg (fun z => by omega), if_neg (fun z => by omega)]
theorem Iv_cancel {s : Int32} (hI : Iv g) : Iv (rCancel g s).2.2 := by
  by_cases r1 : isX g 321 s
  · by_cases r2 : g 125 (nt s) = 0
    · rw [show rCancel g s = (0, pf g s, gCancel g s) by unfold rCancel; rw [if_pos r1, if_pos r2]]
      dsimp only
      obtain ⟨s0, s1⟩ := r1
      have s3 : s < 30 := by obtain ⟨-, -, -, -, -, -, -, -, -, -, -, b12, -⟩ := i_n hI; lia
      have w : ∀ x, wd (gCancel g s) x = wd g x := fun x => by
        unfold wd; rw [cn_o (by omega), cn_o (by omega), cn_o (by omega)]
      have ee : ∀ x, en (gCancel g s) x = en g x := fun x => by
        unfold en; rw [cn_o (by omega), cn_o (by omega), cn_o (by omega)]
      have hon : ∀ x : Int32, on (gCancel g s) x → on g x := fun x hx => by
        unfold on at hx ⊢
        rw [cn_125] at hx
        split at hx
        · rcases hx with z | z <;> exact absurd z (by decide)
        · exact hx
      have n3 := n336 (i_n hI)
      have n4 := n331 (i_n hI)
      have n5 := n321 (i_n hI)
      have s30 : ∀ x : Int32, x < g 321 0 → x < 30 := fun x hx => by obtain ⟨-, -, -, -, -, -, -, -, -, -, -, b12, -⟩ := i_n hI; lia
      refine ⟨⟨?_, ?_, ?_, ?_, ?_, ?_, ?_, ?_, ?_, ?_, ?_, ?_, ?_, ?_⟩, ?_, ?_⟩
      · unfold I_n
        rw [cn_o (c := 300) (by omega), cn_o (c := 301) (by omega), cn_o (c := 302) (by omega), cn_o (c := 307) (by omega), cn_o (c := 316) (by omega), cn_o (c := 321) (by omega), cn_o (c := 331) (by omega), cn_o (c := 336) (by omega)]
        exact i_n hI
      · intro i i0 i1
        rw [cn_o (by omega)] at i1
        rw [cn_o (by omega), cn_o (by omega)]
        exact i_h hI i i0 i1
      · intro i i0 i1
        rw [cn_o (by omega)] at i0
        rw [cn_o (by omega)]
        exact i_hu hI i i0 i1
      · intro i i0 i1
        rw [cn_o (by omega)] at i1
        rw [cn_o (c := 108) (by omega), cn_o (c := 109) (by omega), cn_o (c := 110) (by omega), cn_o (c := 111) (by omega), cn_o (c := 112) (by omega), cn_o (c := 113) (by omega), cn_o (c := 114) (by omega)]
        exact i_f hI i i0 i1
      · intro i i0 i1
        rw [cn_o (by omega)] at i0
        rw [cn_o (c := 112) (by omega), cn_o (c := 114) (by omega), cn_o (c := 115) (by omega)]
        exact i_fu hI i i0 i1
      · intro i i0 i1
        rw [cn_o (by omega)] at i1
        have u := i_s hI i i0 i1
        rw [cn_o (c := 122) (by omega), cn_o (c := 307) (by omega), cn_o (c := 123) (by omega), cn_o (c := 302) (by omega), cn_o (c := 124) (by omega), cn_128, cn_125]
        refine ⟨u.1, u.2.1, u.2.2.1, u.2.2.2.1, u.2.2.2.2.1, u.2.2.2.2.2.1, ?_, ?_, ?_, ?_⟩
        · split
          · decide
          · exact u.2.2.2.2.2.2.1
        · split
          · decide
          · exact u.2.2.2.2.2.2.2.1
        · split
          · decide
          · exact u.2.2.2.2.2.2.2.2.1
        · split
          · decide
          · exact u.2.2.2.2.2.2.2.2.2
      · intro i i0 i1
        rw [cn_o (by omega)] at i0
        have ne : ¬ nt i = nt s := fun z => by rw [nt_inj (by lia) s0] at z; lia
        rw [cn_125, cn_128, if_neg ne, if_neg ne]
        exact i_su hI i i0 i1
      · intro i j i0 i1 j0 j1 ne oi oj eh
        rw [cn_o (by omega)] at i1 j1
        rw [cn_o (by omega), cn_o (by omega)] at eh
        rw [ee, ee, cn_o (by omega), cn_o (by omega)]
        exact i_ov hI i j i0 i1 j0 j1 ne (hon i oi) (hon j oj) eh
      · intro x p x0 x1 p0 p1
        rw [w, cn_pl (Or.inl rfl) s0 s3 x0 x1 p0 p1, cn_pl (Or.inr rfl) s0 s3 x0 x1 p0 p1, cn_o (c := 336) (by omega), cn_o (c := 321) (by omega), cn_o (c := 331) (by omega)]
        by_cases e : x = s
        · rw [if_pos e, if_pos e]; exact ⟨Or.inl rfl, Or.inl rfl⟩
        · rw [if_neg e, if_neg e]; exact i_pl hI x p x0 x1 p0 p1
      · intro k k0 k1
        rw [cn_o (by omega)] at k1
        have u := i_o hI k k0 k1
        have hw := wd_le (i_h hI) (i_s hI) u.1 u.2.1
        rw [w, cn_o (c := 132) (by omega), cn_o (c := 133) (by omega), cn_o (c := 134) (by omega), cn_135, cn_o (c := 321) (by omega), cn_o (c := 124) (by omega), cn_125, cn_pl (Or.inr rfl) s0 s3 u.1 (s30 _ u.2.1) u.2.2.1 (by have := u.2.2.2.1; lia)]
        have lk := (ntlt k0 n4.1).mpr k1
        by_cases e : g 132 (nt k) = s
        · rw [if_pos ⟨lk, e⟩]
          exact ⟨u.1, u.2.1, u.2.2.1, u.2.2.2.1, Or.inr rfl, fun z => absurd z (by decide)⟩
        · rw [if_neg (fun z => e z.2), if_neg (fun z => e ((nt_inj u.1 s0).mp z)), if_neg e]
          exact u
      · intro k k0 k1
        rw [cn_o (by omega)] at k0
        rw [cn_135, if_neg (fun z => by have := (ntlt (by lia) n4.1).mp z.1; lia)]
        exact i_ou hI k k0 k1
      · intro t t0 t1
        rw [cn_o (by omega)] at t1
        have u := i_t hI t t0 t1
        have hw := wd_le (i_h hI) (i_s hI) u.1 u.2.1
        rw [w, cn_o (c := 137) (by omega), cn_o (c := 138) (by omega), cn_140, cn_141, cn_o (c := 321) (by omega), cn_pl (Or.inl rfl) s0 s3 u.1 (s30 _ u.2.1) u.2.2.1 (by have := u.2.2.2.1; lia)]
        have lt := (ntlt t0 n3.1).mpr t1
        by_cases e : g 137 (nt t) = s
        · rw [if_pos ⟨lt, e⟩, if_pos ⟨lt, e⟩]
          exact ⟨u.1, u.2.1, u.2.2.1, u.2.2.2.1, Or.inr rfl, by decide, by decide, fun _ => rfl, fun z => absurd z (by decide)⟩
        · rw [if_neg (fun z => e z.2), if_neg (fun z => e z.2), if_neg e]
          exact u
      · intro t t0 t1
        rw [cn_o (by omega)] at t0
        rw [cn_141, if_neg (fun z => by have := (ntlt (by lia) n3.1).mp z.1; lia)]
        exact i_tu hI t t0 t1
      · intro x x0 x1 k k0 k1
        rw [cn_o (by omega)] at x1
        rw [cn_128] at k1
        rw [cn_o (by omega)]
        split at k1
        · lia
        · exact i_l hI x x0 x1 k k0 k1
      · intro k k0 k1 ko
        rw [cn_o (by omega)] at k1
        rw [cn_135] at ko
        rw [cn_o (by omega), cn_o (by omega)]
        split at ko
        · exact absurd ko (by decide)
        · exact hI.2.1 k k0 k1 ko
      · intro x x0 x1
        rw [cn_o (by omega)] at x1
        rw [cn_125, cn_o (by omega), cn_o (by omega), ee]
        split
        · exact ⟨fun z => absurd z (by decide), fun z => absurd z (by decide)⟩
        · exact hI.2.2 x x0 x1
    · rw [show rCancel g s = (2, 0, g) by unfold rCancel; rw [if_pos r1, if_neg r2]]; exact hI
  · rw [show rCancel g s = (3, 0, g) from if_neg r1]; exact hI
end KL5
