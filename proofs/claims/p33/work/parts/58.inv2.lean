/-! what always holds of g holds after each call -/
section KI
variable {g g1 : Gm}
theorem It_of (hI : It g) (h : ∀ c i, (c = 134 ∨ c = 331 ∨ c = 300 ∨ c = 321 ∨ c = 125 ∨ c = 124) → g1 c i = g c i) (h5 : ∀ k : Int32, 0 ≤ k → k < g 331 0 → g1 135 (nt k) = 0 → g 135 (nt k) = 0) (he : ∀ s : Int32, 0 ≤ s → s < g 321 0 → en g1 s = en g s) : It g1 := by
  refine ⟨fun k k0 k1 ko => ?_, fun s s0 s1 => ?_⟩
  · rw [h 331 _ (by omega)] at k1
    rw [h 300 _ (by omega), h 134 _ (by omega)]
    exact hI.1 k k0 k1 (h5 k k0 k1 ko)
  · rw [h 321 _ (by omega)] at s1
    rw [he s s0 s1, h 125 _ (by omega), h 300 _ (by omega), h 124 _ (by omega)]
    exact hI.2 s s0 s1
theorem Iv_of (hI : Iv g) (hn : I_n g1) (hh : I_h g1) (hu : I_hu g1) (hf : I_f g1) (hfu : I_fu g1) (e : ∀ c i, (122 ≤ c ∧ c ≤ 141) ∨ c = 300 ∨ c = 321 ∨ c = 331 ∨ c = 336 → g1 c i = g c i) (l3 : g 302 0 ≤ g1 302 0) (l7 : g 307 0 ≤ g1 307 0) (w : ∀ s : Int32, 0 ≤ s → s < g 321 0 → wd g1 s = wd g s) (he : ∀ s : Int32, 0 ≤ s → s < g 321 0 → en g1 s = en g s) : Iv g1 := by
  refine ⟨⟨hn, hh, hu, hf, hfu, ?_, ?_, ?_, ?_, ?_, ?_, ?_, ?_, ?_⟩, It_of hI.2 (fun c i h => e c i (by omega)) (fun k k0 k1 h => by rw [e 135 _ (by omega)] at h; exact h) he⟩
  · intro i i0 i1
    rw [e 321 _ (by omega)] at i1
    obtain ⟨c1, c2, c3, c4, c5, c6, c7, c8, c9, c10⟩ := i_s hI i i0 i1
    rw [e 122 _ (by omega), e 123 _ (by omega), e 124 _ (by omega), e 125 _ (by omega), e 128 _ (by omega)]
    exact ⟨c1, by lia, c3, by lia, c5, c6, c7, c8, c9, c10⟩
  · intro i i0 i1
    rw [e 321 _ (by omega)] at i0
    rw [e 125 _ (by omega), e 128 _ (by omega)]
    exact i_su hI i i0 i1
  · intro i j i0 i1 j0 j1 ne oi oj eh
    rw [e 321 _ (by omega)] at i1 j1
    unfold on at oi oj
    rw [e 125 _ (by omega)] at oi oj
    rw [e 123 _ (by omega), e 123 _ (by omega)] at eh
    rw [he i i0 i1, he j j0 j1, e 124 _ (by omega), e 124 _ (by omega)]
    exact i_ov hI i j i0 i1 j0 j1 ne oi oj eh
  · intro s p s0 s1 p0 p1
    rw [e 126 _ (by omega), e 127 _ (by omega), e 336 _ (by omega), e 321 _ (by omega), e 331 _ (by omega)]
    obtain ⟨z1, z2⟩ := i_pl hI s p s0 s1 p0 p1
    exact ⟨z1.imp_right (fun z => ⟨z.1, z.2.1, z.2.2.1, z.2.2.2.1, by rw [w s s0 z.2.2.2.1]; exact z.2.2.2.2⟩), z2.imp_right (fun z => ⟨z.1, z.2.1, z.2.2.1, by rw [w s s0 z.2.2.1]; exact z.2.2.2⟩)⟩
  · intro k k0 k1
    rw [e 331 _ (by omega)] at k1
    have z := i_o hI k k0 k1
    rw [e 132 _ (by omega), e 133 _ (by omega), e 134 _ (by omega), e 135 _ (by omega), e 321 _ (by omega), e 127 _ (by omega), e 125 _ (by omega), e 124 _ (by omega), w _ z.1 z.2.1]
    exact z
  · intro k k0 k1
    rw [e 331 _ (by omega)] at k0
    rw [e 135 _ (by omega)]
    exact i_ou hI k k0 k1
  · intro t t0 t1
    rw [e 336 _ (by omega)] at t1
    have z := i_t hI t t0 t1
    rw [e 137 _ (by omega), e 138 _ (by omega), e 140 _ (by omega), e 141 _ (by omega), e 321 _ (by omega), e 126 _ (by omega), w _ z.1 z.2.1]
    exact z
  · intro t t0 t1
    rw [e 336 _ (by omega)] at t0
    rw [e 141 _ (by omega)]
    exact i_tu hI t t0 t1
  · intro s s0 s1 k k0 k1
    rw [e 321 _ (by omega)] at s1
    rw [e 128 _ (by omega)] at k1
    rw [e 130 _ (by omega)]
    exact i_l hI s s0 s1 k k0 k1
theorem Iv_hall {a b : Int32} (hI : Iv g) : Iv (rHall g a b).2.2 := by
  by_cases r1 : inr a 1 6 ∧ inr b 1 8
  · by_cases r2 : g 302 0 = 4
    · rw [show rHall g a b = (2, 0, g) by unfold rHall; rw [if_pos r1, if_pos r2]]; exact hI
    · rw [show rHall g a b = (0, g 302 0, gHall g a b) by unfold rHall; rw [if_pos r1, if_neg r2]]
      dsimp only
      obtain ⟨⟨x1, x2⟩, x3, x4⟩ := r1
      obtain ⟨b1, b2, b3, b4, b5, b6, b7, b8, b9, b10, b11, b12, b13, b14, b15, b16⟩ := i_n hI
      have ne : ∀ s : Int32, 0 ≤ s → s < g 321 0 → nt (g 123 (nt s)) ≠ nt (g 302 0) := fun s s0 s1 z => by
        obtain ⟨-, h0, h1⟩ := i_s1 hI.1 s0 s1
        rw [nt_inj h0 b5] at z; lia
      have q3 : ∀ i, gHall g a b 103 i = if i = nt (g 302 0) then a else g 103 i := fun i => by
        unfold gHall
        rw [gu_ne (by simp), gu_ne (by simp), gu_ne (by simp)]
        by_cases z : i = nt (g 302 0)
        · rw [if_pos z, z, gu_at]
        · rw [if_neg z, gu_ne (Or.inr z)]
      have q4 : ∀ i, gHall g a b 104 i = if i = nt (g 302 0) then b else g 104 i := fun i => by
        unfold gHall
        rw [gu_ne (by simp), gu_ne (by simp)]
        by_cases z : i = nt (g 302 0)
        · rw [if_pos z, z, gu_at]
        · rw [if_neg z, gu_ne (Or.inr z), gu_ne (by simp)]
      refine Iv_of hI ⟨b1, b2, b3, b4, by show 0 ≤ g 302 0 + 1; lia, by show g 302 0 + 1 ≤ 4; lia, b7, b8, b9, b10, b11, b12, b13, b14, b15, b16⟩ (fun i i0 i1 => ?_) (fun i i0 i1 => ?_) (by have := i_f hI; exact this) (by have := i_fu hI; exact this) (fun c i hc => ?_) (by show g 302 0 ≤ g 302 0 + 1; lia) (by exact Int32.le_refl _) (fun s s0 s1 => ?_) (fun s s0 s1 => rfl)
      · have i1 : i < g 302 0 + 1 := i1
        rw [q3, q4]
        rcases i32_lt1 i1 b5 (by lia) with z | z
        · have z2 : nt i ≠ nt (g 302 0) := fun y => by rw [nt_inj i0 b5] at y; lia
          rw [if_neg z2, if_neg z2]
          exact i_h hI i i0 z
        · rw [z, if_pos rfl, if_pos rfl]; exact ⟨x1, x2, x3, x4⟩
      · have i0 : g 302 0 + 1 ≤ i := i0
        exact i_hu hI i (by lia) i1
      · unfold gHall
        rw [gu_ne (Or.inl (by omega)), gu_ne (Or.inl (by omega)), gu_ne (Or.inl (by omega)), gu_ne (Or.inl (by omega))]
      · refine wd_eq rfl ?_ ?_
        · rw [q3, if_neg (ne s s0 s1)]
        · rw [q4, if_neg (ne s s0 s1)]
  · rw [show rHall g a b = (1, 0, g) from if_neg r1]; exact hI
theorem Iv_lamp {h m n : Int32} (hI : Iv g) : Iv (rLamp g h m n).2.2 := by
  by_cases r1 : isX g 302 h
  · by_cases r2 : inr m 1 100000
    · rw [show rLamp g h m n = (0, g 105 (nt h), gLamp g h m n) by unfold rLamp; rw [if_pos r1, if_pos r2]]
      refine Iv_of hI (by have := i_n hI; exact this) (by have := i_h hI; exact this) (fun i i0 i1 => ?_) (by have := i_f hI; exact this) (by have := i_fu hI; exact this) (fun c i hc => ?_) (by exact Int32.le_refl _) (by exact Int32.le_refl _) (fun s s0 s1 => rfl) (fun s s0 s1 => rfl)
      · have i0 : g 302 0 ≤ i := i0
        have n2 := n302 (i_n hI)
        show gu _ 105 _ _ 105 _ = 0
        rw [gu_ne (Or.inr (fun z => by rw [nt_inj (by lia) r1.1] at z; have := r1.2; lia)), gu_ne (by simp)]
        exact i_hu hI i i0 i1
      · show gLamp g h m n c i = g c i
        unfold gLamp
        rw [gu_ne (Or.inl (by omega)), gu_ne (Or.inl (by omega))]
    · rw [show rLamp g h m n = (1, 0, g) by unfold rLamp; rw [if_pos r1, if_neg r2]]; exact hI
  · rw [show rLamp g h m n = (3, 0, g) from if_neg r1]; exact hI
theorem Iv_film {l a p : Int32} (hI : Iv g) : Iv (rFilm g l a p).2.2 := by
  by_cases r1 : inr l 30 240 ∧ inr a 0 18 ∧ inr p 1 999
  · by_cases r2 : g 307 0 = 8
    · rw [show rFilm g l a p = (2, 0, g) by unfold rFilm; rw [if_pos r1, if_pos r2]]; exact hI
    · rw [show rFilm g l a p = (0, g 307 0, gFilm g l a p) by unfold rFilm; rw [if_pos r1, if_neg r2]]
      dsimp only
      obtain ⟨⟨x1, x2⟩, ⟨x3, x4⟩, x5, x6⟩ := r1
      obtain ⟨b1, b2, b3, b4, b5, b6, b7, b8, b9, b10, b11, b12, b13, b14, b15, b16⟩ := i_n hI
      obtain ⟨u2, u4, u5⟩ := i_fu hI (g 307 0) (by exact Int32.le_refl _) (by lia)
      have ne : ∀ s : Int32, 0 ≤ s → s < g 321 0 → nt (g 122 (nt s)) ≠ nt (g 307 0) := fun s s0 s1 z => by
        obtain ⟨⟨h0, h1⟩, -⟩ := i_s1 hI.1 s0 s1
        rw [nt_inj h0 b7] at z; lia
      have q : ∀ c i, c ≠ 307 → i ≠ nt (g 307 0) → gFilm g l a p c i = g c i := fun c i hc z => by
        unfold gFilm
        rw [gu_ne (Or.inl hc), gu_ne (Or.inr z), gu_ne (Or.inr z), gu_ne (Or.inr z), gu_ne (Or.inr z), gu_ne (Or.inr z)]
      refine Iv_of hI ⟨b1, b2, b3, b4, b5, b6, by show 0 ≤ g 307 0 + 1; lia, by show g 307 0 + 1 ≤ 8; lia, b9, b10, b11, b12, b13, b14, b15, b16⟩ (by have := i_h hI; exact this) (by have := i_hu hI; exact this) (fun i i0 i1 => ?_) (fun i i0 i1 => ?_) (fun c i hc => ?_) (by exact Int32.le_refl _) (by show g 307 0 ≤ g 307 0 + 1; lia) (fun s s0 s1 => rfl) (fun s s0 s1 => ?_)
      · have i1 : i < g 307 0 + 1 := i1
        rcases i32_lt1 i1 b7 (by lia) with z | z
        · have z2 : nt i ≠ nt (g 307 0) := fun y => by rw [nt_inj i0 b7] at y; lia
          rw [q 108 _ (by decide) z2, q 109 _ (by decide) z2, q 110 _ (by decide) z2, q 111 _ (by decide) z2, q 112 _ (by decide) z2, q 113 _ (by decide) z2, q 114 _ (by decide) z2]
          exact i_f hI i i0 z
        · rw [z]
          have y8 : gFilm g l a p 108 (nt (g 307 0)) = l := by unfold gFilm; rw [gu_ne (by simp), gu_ne (by simp), gu_ne (by simp), gu_ne (by simp), gu_ne (by simp), gu_at]
          have y9 : gFilm g l a p 109 (nt (g 307 0)) = a := by unfold gFilm; rw [gu_ne (by simp), gu_ne (by simp), gu_ne (by simp), gu_ne (by simp), gu_at]
          have y0 : gFilm g l a p 110 (nt (g 307 0)) = p := by unfold gFilm; rw [gu_ne (by simp), gu_ne (by simp), gu_ne (by simp), gu_at]
          have y1 : gFilm g l a p 111 (nt (g 307 0)) = 50 := by unfold gFilm; rw [gu_ne (by simp), gu_ne (by simp), gu_at]
          have y2 : gFilm g l a p 112 (nt (g 307 0)) = 0 := u2
          have y3 : gFilm g l a p 113 (nt (g 307 0)) = 50 := by unfold gFilm; rw [gu_ne (by simp), gu_at]
          have y4 : gFilm g l a p 114 (nt (g 307 0)) = 0 := u4
          rw [y8, y9, y0, y1, y2, y3, y4]
          exact ⟨x1, x2, x3, x4, x5, x6, by decide, by decide, by decide, by decide, by decide, by decide, by decide, by decide⟩
      · have i0 : g 307 0 + 1 ≤ i := i0
        exact i_fu hI i (by lia) i1
      · unfold gFilm
        rw [gu_ne (Or.inl (by omega)), gu_ne (Or.inl (by omega)), gu_ne (Or.inl (by omega)), gu_ne (Or.inl (by omega)), gu_ne (Or.inl (by omega)), gu_ne (Or.inl (by omega))]
      · have y : gFilm g l a p 122 (nt s) = g 122 (nt s) := rfl
        have y2 : gFilm g l a p 124 (nt s) = g 124 (nt s) := rfl
        unfold en
        rw [y, y2, q 108 _ (by decide) (ne s s0 s1)]
  · rw [show rFilm g l a p = (1, 0, g) from if_neg r1]; exact hI
theorem Iv_terms {f a b c d e : Int32} (hI : Iv g) : Iv (rTerms g f a b c d e).2.2 := by
  by_cases r1 : isX g 307 f
  · by_cases r2 : inr a 0 100 ∧ inr b 0 100 ∧ inr c 0 100 ∧ inr d 0 100000 ∧ inr e 0 100000
    · rw [show rTerms g f a b c d e = (0, 0, gTerms g f a b c d e) by unfold rTerms; rw [if_pos r1, if_pos r2]]
      dsimp only
      obtain ⟨⟨x1, x2⟩, ⟨x3, x4⟩, ⟨x5, x6⟩, ⟨x7, x8⟩, x9, x10⟩ := r2
      have q : ∀ c' i, i ≠ nt f → gTerms g f a b c d e c' i = g c' i := fun c' i z => by
        unfold gTerms
        rw [gu_ne (Or.inr z), gu_ne (Or.inr z), gu_ne (Or.inr z), gu_ne (Or.inr z), gu_ne (Or.inr z)]
      refine Iv_of hI (by have := i_n hI; exact this) (by have := i_h hI; exact this) (by have := i_hu hI; exact this) (fun i i0 i1 => ?_) (fun i i0 i1 => ?_) (fun c' i hc => ?_) (by exact Int32.le_refl _) (by exact Int32.le_refl _) (fun s s0 s1 => rfl) (fun s s0 s1 => rfl)
      · have i1 : i < g 307 0 := i1
        by_cases z : nt i = nt f
        · rw [z]
          have y := i_f hI f r1.1 r1.2
          have y8 : gTerms g f a b c d e 108 (nt f) = g 108 (nt f) := rfl
          have y9 : gTerms g f a b c d e 109 (nt f) = g 109 (nt f) := rfl
          have y0 : gTerms g f a b c d e 110 (nt f) = g 110 (nt f) := rfl
          have y1 : gTerms g f a b c d e 111 (nt f) = a := by unfold gTerms; rw [gu_ne (by simp), gu_ne (by simp), gu_ne (by simp), gu_ne (by simp), gu_at]
          have y2 : gTerms g f a b c d e 112 (nt f) = b := by unfold gTerms; rw [gu_ne (by simp), gu_ne (by simp), gu_ne (by simp), gu_at]
          have y3 : gTerms g f a b c d e 113 (nt f) = c := by unfold gTerms; rw [gu_ne (by simp), gu_ne (by simp), gu_at]
          have y4 : gTerms g f a b c d e 114 (nt f) = d := by unfold gTerms; rw [gu_ne (by simp), gu_at]
          rw [y8, y9, y0, y1, y2, y3, y4]
          exact ⟨y.1, y.2.1, y.2.2.1, y.2.2.2.1, y.2.2.2.2.1, y.2.2.2.2.2.1, x1, x2, x3, x4, x5, x6, x7, x8⟩
        · rw [q _ _ z, q _ _ z, q _ _ z, q _ _ z, q _ _ z, q _ _ z, q _ _ z]
          exact i_f hI i i0 i1
      · have i0 : g 307 0 ≤ i := i0
        have n7 := n307 (i_n hI)
        have z : nt i ≠ nt f := fun z => by rw [nt_inj (by lia) r1.1] at z; have := r1.2; lia
        rw [q _ _ z, q _ _ z, q _ _ z]
        exact i_fu hI i i0 i1
      · unfold gTerms
        rw [gu_ne (Or.inl (by omega)), gu_ne (Or.inl (by omega)), gu_ne (Or.inl (by omega)), gu_ne (Or.inl (by omega)), gu_ne (Or.inl (by omega))]
    · rw [show rTerms g f a b c d e = (1, 0, g) by unfold rTerms; rw [if_pos r1, if_neg r2]]; exact hI
  · rw [show rTerms g f a b c d e = (3, 0, g) from if_neg r1]; exact hI
theorem Iv_key {f h a b : Int32} (hI : Iv g) : Iv (rKey g f h a b).2.2 := by
  by_cases r1 : isX g 307 f ∧ isX g 302 h
  · by_cases r2 : inr a 0 100000 ∧ inr b (a + 1) 110000
    · by_cases r3 : g 316 0 = 30
      · rw [show rKey g f h a b = (2, 0, g) by unfold rKey; rw [if_pos r1, if_pos r2, if_pos r3]]; exact hI
      · rw [show rKey g f h a b = (0, g 316 0, gKey g f h a b) by unfold rKey; rw [if_pos r1, if_pos r2, if_neg r3]]
        dsimp only
        obtain ⟨b1, b2, b3, b4, b5, b6, b7, b8, b9, b10, b11, b12, b13, b14, b15, b16⟩ := i_n hI
        refine Iv_of hI ⟨b1, b2, b3, b4, b5, b6, b7, b8, by show 0 ≤ g 316 0 + 1; lia, by show g 316 0 + 1 ≤ 30; lia, b11, b12, b13, b14, b15, b16⟩ (by have := i_h hI; exact this) (by have := i_hu hI; exact this) (by have := i_f hI; exact this) (by have := i_fu hI; exact this) (fun c i hc => ?_) (by exact Int32.le_refl _) (by exact Int32.le_refl _) (fun s s0 s1 => rfl) (fun s s0 s1 => rfl)
        unfold gKey
        rw [gu_ne (Or.inl (by omega)), gu_ne (Or.inl (by omega)), gu_ne (Or.inl (by omega)), gu_ne (Or.inl (by omega)), gu_ne (Or.inl (by omega))]
    · rw [show rKey g f h a b = (1, 0, g) by unfold rKey; rw [if_pos r1, if_neg r2]]; exact hI
  · rw [show rKey g f h a b = (3, 0, g) from if_neg r1]; exact hI
theorem Iv_spread {m : Int32} (hI : Iv g) : Iv (rSpread g m).2.2 := by
  by_cases r1 : inr m 0 60
  · rw [show rSpread g m = (0, g 301 0, gu g 301 0 m) from if_pos r1]
    dsimp only
    obtain ⟨b1, b2, b3, b4, b5, b6, b7, b8, b9, b10, b11, b12, b13, b14, b15, b16⟩ := i_n hI
    exact Iv_of hI ⟨b1, b2, by rw [gu_at]; exact r1.1, by rw [gu_at]; exact r1.2, b5, b6, b7, b8, b9, b10, b11, b12, b13, b14, b15, b16⟩ (by have := i_h hI; exact this) (by have := i_hu hI; exact this) (by have := i_f hI; exact this) (by have := i_fu hI; exact this) (fun c i hc => gu_ne (Or.inl (by omega))) (by exact Int32.le_refl _) (by exact Int32.le_refl _) (fun s s0 s1 => rfl) (fun s s0 s1 => rfl)
  · rw [show rSpread g m = (1, 0, g) from if_neg r1]; exact hI
theorem Iv_pass {m : Int32} (hI : Iv g) : Iv (rPass g m).2.2 := by
  by_cases r1 : inr m 1 5000
  · by_cases r2 : g 300 0 + m ≤ 100000
    · rw [show rPass g m = (0, passN (nt m) g 300 0, passN (nt m) g) by unfold rPass; rw [if_pos r1, if_pos r2]]
      have d4 := nt_le (n := 5000) (by decide) (show m ≤ nI 5000 from r1.2)
      exact (Iv_passN (nt m) g (by omega) hI (by rw [nI_nt0 (by have := r1.1; lia)]; exact r2)).1
    · rw [show rPass g m = (2, 0, g) by unfold rPass; rw [if_pos r1, if_neg r2]]; exact hI
  · rw [show rPass g m = (1, 0, g) from if_neg r1]; exact hI
end KI
